set_option maxRecDepth 100000 in
theorem zh_dX13_findEven_0_0 : zc cX13_findEven 0 [42, 3, 181, 0, 228, 27, 4, 4, 42, 180, 0, 239, 120, 4, 100, 184] = true := by decide +kernel
set_option maxRecDepth 100000 in
theorem zh_dX13_findEven_15_16 : zc cX13_findEven 16 [0, 235, 153, 0, 19, 27, 184, 1, 247, 5, 161, 0, 11, 27, 184, 1] = true := by decide +kernel
set_option maxRecDepth 100000 in
theorem zh_dX13_findEven_30_32 : zc cX13_findEven 32 [247, 7, 164, 0, 5, 3, 172, 42, 3, 181, 1, 252, 3, 61, 28, 42] = true := by decide +kernel
set_option maxRecDepth 100000 in
theorem zh_dX13_findEven_48_48 : zc cX13_findEven 48 [180, 0, 239, 162, 0, 40, 27, 28, 122, 4, 126, 154, 0, 6, 167, 0] = true := by decide +kernel
set_option maxRecDepth 100000 in
theorem zh_dX13_findEven_62_64 : zc cX13_findEven 64 [23, 42, 180, 0, 192, 42, 180, 1, 252, 28, 79, 42, 89, 180, 1, 252] = true := by decide +kernel
set_option maxRecDepth 100000 in
theorem zh_dX13_findEven_80_80 : zc cX13_findEven 80 [4, 96, 181, 1, 252, 132, 2, 1, 167, 255, 214, 42, 3, 181, 1, 255] = true := by decide +kernel
set_option maxRecDepth 100000 in
theorem zh_dX13_findEven_96_96 : zc cX13_findEven 96 [3, 61, 28, 42, 180, 1, 134, 162, 0, 175, 3, 62, 3, 54, 4, 21] = true := by decide +kernel
set_option maxRecDepth 100000 in
theorem zh_dX13_findEven_111_112 : zc cX13_findEven 112 [4, 42, 180, 1, 252, 162, 0, 131, 42, 28, 42, 180, 0, 192, 21, 4] = true := by decide +kernel
set_option maxRecDepth 100000 in
theorem zh_dX13_findEven_128_128 : zc cX13_findEven 128 [46, 42, 180, 0, 232, 182, 1, 163, 154, 0, 7, 4, 167, 0, 4, 3] = true := by decide +kernel
set_option maxRecDepth 100000 in
theorem zh_dX13_findEven_144_144 : zc cX13_findEven 144 [54, 5, 42, 180, 0, 198, 7, 42, 180, 1, 255, 104, 21, 4, 96, 21] = true := by decide +kernel
set_option maxRecDepth 100000 in
theorem zh_dX13_findEven_159_160 : zc cX13_findEven 160 [5, 153, 0, 22, 42, 28, 42, 180, 0, 192, 21, 4, 46, 42, 180, 0] = true := by decide +kernel
set_option maxRecDepth 100000 in
theorem zh_dX13_findEven_174_176 : zc cX13_findEven 176 [232, 182, 1, 166, 167, 0, 4, 3, 79, 42, 180, 0, 201, 7, 42, 180] = true := by decide +kernel
set_option maxRecDepth 100000 in
theorem zh_dX13_findEven_191_192 : zc cX13_findEven 192 [1, 255, 104, 21, 4, 96, 21, 5, 153, 0, 27, 42, 42, 180, 0, 192] = true := by decide +kernel
set_option maxRecDepth 100000 in
theorem zh_dX13_findEven_208_208 : zc cX13_findEven 208 [21, 4, 46, 42, 180, 0, 50, 28, 46, 42, 180, 0, 232, 182, 1, 131] = true := by decide +kernel
set_option maxRecDepth 100000 in
theorem zh_dX13_findEven_224_224 : zc cX13_findEven 224 [167, 0, 4, 3, 79, 29, 21, 5, 153, 0, 7, 4, 167, 0, 4, 3] = true := by decide +kernel
set_option maxRecDepth 100000 in
theorem zh_dX13_findEven_240_240 : zc cX13_findEven 240 [96, 62, 132, 4, 1, 167, 255, 122, 42, 180, 0, 56, 28, 46, 154, 0] = true := by decide +kernel
set_option maxRecDepth 100000 in
theorem zh_dX13_findEven_254_256 : zc cX13_findEven 256 [18, 29, 4, 164, 0, 13, 42, 89, 180, 1, 255, 4, 96, 181, 1, 255] = true := by decide +kernel
set_option maxRecDepth 100000 in
theorem zh_dX13_findEven_272_272 : zc cX13_findEven 272 [132, 2, 1, 167, 255, 79, 42, 2, 181, 2, 2, 42, 3, 182, 2, 5] = true := by decide +kernel
set_option maxRecDepth 100000 in
theorem zh_dX13_findEven_288_288 : zc cX13_findEven 288 [4, 172] = true := by decide +kernel
set_option maxRecDepth 100000 in
theorem zh_dX13_tryChanges_0_0 : zc cX13_tryChanges 0 [27, 42, 180, 1, 252, 162, 0, 32, 16, 253, 61, 28, 6, 163, 0, 23] = true := by decide +kernel
set_option maxRecDepth 100000 in
theorem zh_dX13_tryChanges_16_16 : zc cX13_tryChanges 16 [42, 180, 0, 204, 27, 28, 79, 42, 27, 4, 96, 182, 2, 5, 132, 2] = true := by decide +kernel
set_option maxRecDepth 100000 in
theorem zh_dX13_tryChanges_30_32 : zc cX13_tryChanges 32 [1, 167, 255, 234, 177, 3, 61, 3, 62, 3, 54, 4, 21, 4, 42, 180] = true := by decide +kernel
set_option maxRecDepth 100000 in
theorem zh_dX13_tryChanges_47_48 : zc cX13_tryChanges 48 [1, 252, 162, 0, 22, 29, 42, 180, 0, 204, 21, 4, 46, 184, 1, 218] = true := by decide +kernel
set_option maxRecDepth 100000 in
theorem zh_dX13_tryChanges_64_64 : zc cX13_tryChanges 64 [96, 62, 132, 4, 1, 167, 255, 231, 3, 54, 4, 21, 4, 42, 180, 1] = true := by decide +kernel
set_option maxRecDepth 100000 in
theorem zh_dX13_tryChanges_78_80 : zc cX13_tryChanges 80 [255, 162, 0, 124, 19, 2, 8, 54, 5, 19, 2, 9, 54, 6, 3, 54] = true := by decide +kernel
set_option maxRecDepth 100000 in
theorem zh_dX13_tryChanges_95_96 : zc cX13_tryChanges 96 [7, 21, 7, 42, 180, 1, 252, 162, 0, 88, 42, 180, 0, 198, 7, 21] = true := by decide +kernel
set_option maxRecDepth 100000 in
theorem zh_dX13_tryChanges_111_112 : zc cX13_tryChanges 112 [4, 104, 21, 7, 96, 46, 154, 0, 6, 167, 0, 64, 42, 180, 0, 198] = true := by decide +kernel
set_option maxRecDepth 100000 in
theorem zh_dX13_tryChanges_128_128 : zc cX13_tryChanges 128 [7, 21, 4, 104, 21, 7, 96, 46, 4, 42, 180, 0, 201, 7, 21, 4] = true := by decide +kernel
set_option maxRecDepth 100000 in
theorem zh_dX13_tryChanges_144_144 : zc cX13_tryChanges 144 [104, 21, 7, 96, 46, 42, 180, 0, 204, 21, 7, 46, 96, 184, 1, 129] = true := by decide +kernel
set_option maxRecDepth 100000 in
theorem zh_dX13_tryChanges_160_160 : zc cX13_tryChanges 160 [104, 17, 3, 232, 108, 54, 8, 21, 5, 21, 8, 184, 1, 127, 54, 5] = true := by decide +kernel
set_option maxRecDepth 100000 in
theorem zh_dX13_tryChanges_176_176 : zc cX13_tryChanges 176 [21, 6, 21, 8, 184, 1, 129, 54, 6, 132, 7, 1, 167, 255, 165, 28] = true := by decide +kernel
set_option maxRecDepth 100000 in
theorem zh_dX13_tryChanges_192_192 : zc cX13_tryChanges 192 [21, 6, 21, 5, 100, 96, 61, 132, 4, 1, 167, 255, 129, 42, 180, 2] = true := by decide +kernel
set_option maxRecDepth 100000 in
theorem zh_dX13_tryChanges_206_208 : zc cX13_tryChanges 208 [2, 2, 159, 0, 28, 28, 42, 180, 2, 2, 163, 0, 19, 28, 42, 180] = true := by decide +kernel
set_option maxRecDepth 100000 in
theorem zh_dX13_tryChanges_223_224 : zc cX13_tryChanges 224 [2, 2, 160, 0, 12, 29, 42, 180, 2, 10, 161, 0, 4, 177, 42, 28] = true := by decide +kernel
set_option maxRecDepth 100000 in
theorem zh_dX13_tryChanges_240_240 : zc cX13_tryChanges 240 [181, 2, 2, 42, 29, 181, 2, 10, 3, 54, 4, 21, 4, 42, 180, 1] = true := by decide +kernel
set_option maxRecDepth 100000 in
theorem zh_dX13_tryChanges_254_256 : zc cX13_tryChanges 256 [252, 162, 0, 23, 42, 180, 0, 207, 21, 4, 42, 180, 0, 204, 21, 4] = true := by decide +kernel
set_option maxRecDepth 100000 in
theorem zh_dX13_tryChanges_272_272 : zc cX13_tryChanges 272 [46, 79, 132, 4, 1, 167, 255, 230, 177] = true := by decide +kernel
set_option maxRecDepth 100000 in
theorem zh_dX13_even_0_0 : zc cX13_even 0 [42, 27, 182, 2, 13, 153, 0, 10, 42, 180, 2, 2, 167, 0, 4, 2] = true := by decide +kernel
set_option maxRecDepth 100000 in
theorem zh_dX13_even_16_16 : zc cX13_even 16 [172] = true := by decide +kernel
set_option maxRecDepth 100000 in
theorem zh_dX13_change_0_0 : zc cX13_change 0 [42, 27, 182, 2, 13, 154, 0, 7, 19, 1, 175, 172, 3, 62, 29, 42] = true := by decide +kernel
set_option maxRecDepth 100000 in
theorem zh_dX13_change_16_16 : zc cX13_change 16 [180, 1, 252, 162, 0, 26, 42, 180, 0, 192, 29, 46, 28, 160, 0, 10] = true := by decide +kernel
set_option maxRecDepth 100000 in
theorem zh_dX13_change_32_32 : zc cX13_change 32 [42, 180, 0, 207, 29, 46, 172, 132, 3, 1, 167, 255, 228, 19, 1, 175] = true := by decide +kernel
set_option maxRecDepth 100000 in
theorem zh_dX13_change_48_48 : zc cX13_change 48 [172] = true := by decide +kernel
theorem dX13_findEven_0 : decode cX13_findEven 0 = .ok (.aload_n 0, 1) := zo_42 (zi_at zh_dX13_findEven_0_0 0 rfl)
theorem dX13_findEven_1 : decode cX13_findEven 1 = .ok (.iconst 0, 1) := zo_3 (zi_at zh_dX13_findEven_0_0 1 rfl)
theorem dX13_findEven_2 : decode cX13_findEven 2 = .ok (.putfield 228, 3) := zo_181 (zi_at zh_dX13_findEven_0_0 2 rfl) (zi_at zh_dX13_findEven_0_0 3 rfl) (zi_at zh_dX13_findEven_0_0 4 rfl) rfl
theorem dX13_findEven_5 : decode cX13_findEven 5 = .ok (.iload_n 1, 1) := zo_27 (zi_at zh_dX13_findEven_0_0 5 rfl)
theorem dX13_findEven_6 : decode cX13_findEven 6 = .ok (.iconst 1, 1) := zo_4 (zi_at zh_dX13_findEven_0_0 6 rfl)
theorem dX13_findEven_7 : decode cX13_findEven 7 = .ok (.iconst 1, 1) := zo_4 (zi_at zh_dX13_findEven_0_0 7 rfl)
theorem dX13_findEven_8 : decode cX13_findEven 8 = .ok (.aload_n 0, 1) := zo_42 (zi_at zh_dX13_findEven_0_0 8 rfl)
theorem dX13_findEven_9 : decode cX13_findEven 9 = .ok (.getfield 239, 3) := zo_180 (zi_at zh_dX13_findEven_0_0 9 rfl) (zi_at zh_dX13_findEven_0_0 10 rfl) (zi_at zh_dX13_findEven_0_0 11 rfl) rfl
theorem dX13_findEven_12 : decode cX13_findEven 12 = .ok (.ishl, 1) := zo_120 (zi_at zh_dX13_findEven_0_0 12 rfl)
theorem dX13_findEven_13 : decode cX13_findEven 13 = .ok (.iconst 1, 1) := zo_4 (zi_at zh_dX13_findEven_0_0 13 rfl)
theorem dX13_findEven_14 : decode cX13_findEven 14 = .ok (.isub, 1) := zo_100 (zi_at zh_dX13_findEven_0_0 14 rfl)
theorem dX13_findEven_15 : decode cX13_findEven 15 = .ok (.invokestatic 235, 3) := zo_184 (zi_at zh_dX13_findEven_0_0 15 rfl) (zi_at zh_dX13_findEven_15_16 0 rfl) (zi_at zh_dX13_findEven_15_16 1 rfl) rfl
theorem dX13_findEven_18 : decode cX13_findEven 18 = .ok (.ifCond .eq 19, 3) := zo_153 (zi_at zh_dX13_findEven_15_16 2 rfl) (zi_at zh_dX13_findEven_15_16 3 rfl) (zi_at zh_dX13_findEven_15_16 4 rfl) rfl
theorem dX13_findEven_21 : decode cX13_findEven 21 = .ok (.iload_n 1, 1) := zo_27 (zi_at zh_dX13_findEven_15_16 5 rfl)
theorem dX13_findEven_22 : decode cX13_findEven 22 = .ok (.invokestatic 503, 3) := zo_184 (zi_at zh_dX13_findEven_15_16 6 rfl) (zi_at zh_dX13_findEven_15_16 7 rfl) (zi_at zh_dX13_findEven_15_16 8 rfl) rfl
theorem dX13_findEven_25 : decode cX13_findEven 25 = .ok (.iconst 2, 1) := zo_5 (zi_at zh_dX13_findEven_15_16 9 rfl)
theorem dX13_findEven_26 : decode cX13_findEven 26 = .ok (.if_icmp .lt 11, 3) := zo_161 (zi_at zh_dX13_findEven_15_16 10 rfl) (zi_at zh_dX13_findEven_15_16 11 rfl) (zi_at zh_dX13_findEven_15_16 12 rfl) rfl
theorem dX13_findEven_29 : decode cX13_findEven 29 = .ok (.iload_n 1, 1) := zo_27 (zi_at zh_dX13_findEven_15_16 13 rfl)
theorem dX13_findEven_30 : decode cX13_findEven 30 = .ok (.invokestatic 503, 3) := zo_184 (zi_at zh_dX13_findEven_15_16 14 rfl) (zi_at zh_dX13_findEven_15_16 15 rfl) (zi_at zh_dX13_findEven_30_32 0 rfl) rfl
theorem dX13_findEven_33 : decode cX13_findEven 33 = .ok (.iconst 4, 1) := zo_7 (zi_at zh_dX13_findEven_30_32 1 rfl)
theorem dX13_findEven_34 : decode cX13_findEven 34 = .ok (.if_icmp .le 5, 3) := zo_164 (zi_at zh_dX13_findEven_30_32 2 rfl) (zi_at zh_dX13_findEven_30_32 3 rfl) (zi_at zh_dX13_findEven_30_32 4 rfl) rfl
theorem dX13_findEven_37 : decode cX13_findEven 37 = .ok (.iconst 0, 1) := zo_3 (zi_at zh_dX13_findEven_30_32 5 rfl)
theorem dX13_findEven_38 : decode cX13_findEven 38 = .ok (.ireturn, 1) := zo_172 (zi_at zh_dX13_findEven_30_32 6 rfl)
theorem dX13_findEven_39 : decode cX13_findEven 39 = .ok (.aload_n 0, 1) := zo_42 (zi_at zh_dX13_findEven_30_32 7 rfl)
theorem dX13_findEven_40 : decode cX13_findEven 40 = .ok (.iconst 0, 1) := zo_3 (zi_at zh_dX13_findEven_30_32 8 rfl)
theorem dX13_findEven_41 : decode cX13_findEven 41 = .ok (.putfield 508, 3) := zo_181 (zi_at zh_dX13_findEven_30_32 9 rfl) (zi_at zh_dX13_findEven_30_32 10 rfl) (zi_at zh_dX13_findEven_30_32 11 rfl) rfl
theorem dX13_findEven_44 : decode cX13_findEven 44 = .ok (.iconst 0, 1) := zo_3 (zi_at zh_dX13_findEven_30_32 12 rfl)
theorem dX13_findEven_45 : decode cX13_findEven 45 = .ok (.istore_n 2, 1) := zo_61 (zi_at zh_dX13_findEven_30_32 13 rfl)
theorem dX13_findEven_46 : decode cX13_findEven 46 = .ok (.iload_n 2, 1) := zo_28 (zi_at zh_dX13_findEven_30_32 14 rfl)
theorem dX13_findEven_47 : decode cX13_findEven 47 = .ok (.aload_n 0, 1) := zo_42 (zi_at zh_dX13_findEven_30_32 15 rfl)
theorem dX13_findEven_48 : decode cX13_findEven 48 = .ok (.getfield 239, 3) := zo_180 (zi_at zh_dX13_findEven_48_48 0 rfl) (zi_at zh_dX13_findEven_48_48 1 rfl) (zi_at zh_dX13_findEven_48_48 2 rfl) rfl
theorem dX13_findEven_51 : decode cX13_findEven 51 = .ok (.if_icmp .ge 40, 3) := zo_162 (zi_at zh_dX13_findEven_48_48 3 rfl) (zi_at zh_dX13_findEven_48_48 4 rfl) (zi_at zh_dX13_findEven_48_48 5 rfl) rfl
theorem dX13_findEven_54 : decode cX13_findEven 54 = .ok (.iload_n 1, 1) := zo_27 (zi_at zh_dX13_findEven_48_48 6 rfl)
theorem dX13_findEven_55 : decode cX13_findEven 55 = .ok (.iload_n 2, 1) := zo_28 (zi_at zh_dX13_findEven_48_48 7 rfl)
theorem dX13_findEven_56 : decode cX13_findEven 56 = .ok (.ishr, 1) := zo_122 (zi_at zh_dX13_findEven_48_48 8 rfl)
theorem dX13_findEven_57 : decode cX13_findEven 57 = .ok (.iconst 1, 1) := zo_4 (zi_at zh_dX13_findEven_48_48 9 rfl)
theorem dX13_findEven_58 : decode cX13_findEven 58 = .ok (.iand, 1) := zo_126 (zi_at zh_dX13_findEven_48_48 10 rfl)
theorem dX13_findEven_59 : decode cX13_findEven 59 = .ok (.ifCond .ne 6, 3) := zo_154 (zi_at zh_dX13_findEven_48_48 11 rfl) (zi_at zh_dX13_findEven_48_48 12 rfl) (zi_at zh_dX13_findEven_48_48 13 rfl) rfl
theorem dX13_findEven_62 : decode cX13_findEven 62 = .ok (.goto 23, 3) := zo_167 (zi_at zh_dX13_findEven_48_48 14 rfl) (zi_at zh_dX13_findEven_48_48 15 rfl) (zi_at zh_dX13_findEven_62_64 0 rfl) rfl
theorem dX13_findEven_65 : decode cX13_findEven 65 = .ok (.aload_n 0, 1) := zo_42 (zi_at zh_dX13_findEven_62_64 1 rfl)
theorem dX13_findEven_66 : decode cX13_findEven 66 = .ok (.getfield 192, 3) := zo_180 (zi_at zh_dX13_findEven_62_64 2 rfl) (zi_at zh_dX13_findEven_62_64 3 rfl) (zi_at zh_dX13_findEven_62_64 4 rfl) rfl
theorem dX13_findEven_69 : decode cX13_findEven 69 = .ok (.aload_n 0, 1) := zo_42 (zi_at zh_dX13_findEven_62_64 5 rfl)
theorem dX13_findEven_70 : decode cX13_findEven 70 = .ok (.getfield 508, 3) := zo_180 (zi_at zh_dX13_findEven_62_64 6 rfl) (zi_at zh_dX13_findEven_62_64 7 rfl) (zi_at zh_dX13_findEven_62_64 8 rfl) rfl
theorem dX13_findEven_73 : decode cX13_findEven 73 = .ok (.iload_n 2, 1) := zo_28 (zi_at zh_dX13_findEven_62_64 9 rfl)
theorem dX13_findEven_74 : decode cX13_findEven 74 = .ok (.iastore, 1) := zo_79 (zi_at zh_dX13_findEven_62_64 10 rfl)
theorem dX13_findEven_75 : decode cX13_findEven 75 = .ok (.aload_n 0, 1) := zo_42 (zi_at zh_dX13_findEven_62_64 11 rfl)
theorem dX13_findEven_76 : decode cX13_findEven 76 = .ok (.dup, 1) := zo_89 (zi_at zh_dX13_findEven_62_64 12 rfl)
theorem dX13_findEven_77 : decode cX13_findEven 77 = .ok (.getfield 508, 3) := zo_180 (zi_at zh_dX13_findEven_62_64 13 rfl) (zi_at zh_dX13_findEven_62_64 14 rfl) (zi_at zh_dX13_findEven_62_64 15 rfl) rfl
theorem dX13_findEven_80 : decode cX13_findEven 80 = .ok (.iconst 1, 1) := zo_4 (zi_at zh_dX13_findEven_80_80 0 rfl)
theorem dX13_findEven_81 : decode cX13_findEven 81 = .ok (.iadd, 1) := zo_96 (zi_at zh_dX13_findEven_80_80 1 rfl)
theorem dX13_findEven_82 : decode cX13_findEven 82 = .ok (.putfield 508, 3) := zo_181 (zi_at zh_dX13_findEven_80_80 2 rfl) (zi_at zh_dX13_findEven_80_80 3 rfl) (zi_at zh_dX13_findEven_80_80 4 rfl) rfl
theorem dX13_findEven_85 : decode cX13_findEven 85 = .ok (.iinc 2 1, 3) := zo_132 (zi_at zh_dX13_findEven_80_80 5 rfl) (zi_at zh_dX13_findEven_80_80 6 rfl) (zi_at zh_dX13_findEven_80_80 7 rfl) rfl
theorem dX13_findEven_88 : decode cX13_findEven 88 = .ok (.goto (-42), 3) := zo_167 (zi_at zh_dX13_findEven_80_80 8 rfl) (zi_at zh_dX13_findEven_80_80 9 rfl) (zi_at zh_dX13_findEven_80_80 10 rfl) rfl
theorem dX13_findEven_91 : decode cX13_findEven 91 = .ok (.aload_n 0, 1) := zo_42 (zi_at zh_dX13_findEven_80_80 11 rfl)
theorem dX13_findEven_92 : decode cX13_findEven 92 = .ok (.iconst 0, 1) := zo_3 (zi_at zh_dX13_findEven_80_80 12 rfl)
theorem dX13_findEven_93 : decode cX13_findEven 93 = .ok (.putfield 511, 3) := zo_181 (zi_at zh_dX13_findEven_80_80 13 rfl) (zi_at zh_dX13_findEven_80_80 14 rfl) (zi_at zh_dX13_findEven_80_80 15 rfl) rfl
theorem dX13_findEven_96 : decode cX13_findEven 96 = .ok (.iconst 0, 1) := zo_3 (zi_at zh_dX13_findEven_96_96 0 rfl)
theorem dX13_findEven_97 : decode cX13_findEven 97 = .ok (.istore_n 2, 1) := zo_61 (zi_at zh_dX13_findEven_96_96 1 rfl)
theorem dX13_findEven_98 : decode cX13_findEven 98 = .ok (.iload_n 2, 1) := zo_28 (zi_at zh_dX13_findEven_96_96 2 rfl)
theorem dX13_findEven_99 : decode cX13_findEven 99 = .ok (.aload_n 0, 1) := zo_42 (zi_at zh_dX13_findEven_96_96 3 rfl)
theorem dX13_findEven_100 : decode cX13_findEven 100 = .ok (.getfield 390, 3) := zo_180 (zi_at zh_dX13_findEven_96_96 4 rfl) (zi_at zh_dX13_findEven_96_96 5 rfl) (zi_at zh_dX13_findEven_96_96 6 rfl) rfl
theorem dX13_findEven_103 : decode cX13_findEven 103 = .ok (.if_icmp .ge 175, 3) := zo_162 (zi_at zh_dX13_findEven_96_96 7 rfl) (zi_at zh_dX13_findEven_96_96 8 rfl) (zi_at zh_dX13_findEven_96_96 9 rfl) rfl
theorem dX13_findEven_106 : decode cX13_findEven 106 = .ok (.iconst 0, 1) := zo_3 (zi_at zh_dX13_findEven_96_96 10 rfl)
theorem dX13_findEven_107 : decode cX13_findEven 107 = .ok (.istore_n 3, 1) := zo_62 (zi_at zh_dX13_findEven_96_96 11 rfl)
theorem dX13_findEven_108 : decode cX13_findEven 108 = .ok (.iconst 0, 1) := zo_3 (zi_at zh_dX13_findEven_96_96 12 rfl)
theorem dX13_findEven_109 : decode cX13_findEven 109 = .ok (.istore 4, 2) := zo_54 (zi_at zh_dX13_findEven_96_96 13 rfl) (zi_at zh_dX13_findEven_96_96 14 rfl)
theorem dX13_findEven_111 : decode cX13_findEven 111 = .ok (.iload 4, 2) := zo_21 (zi_at zh_dX13_findEven_96_96 15 rfl) (zi_at zh_dX13_findEven_111_112 0 rfl)
theorem dX13_findEven_113 : decode cX13_findEven 113 = .ok (.aload_n 0, 1) := zo_42 (zi_at zh_dX13_findEven_111_112 1 rfl)
theorem dX13_findEven_114 : decode cX13_findEven 114 = .ok (.getfield 508, 3) := zo_180 (zi_at zh_dX13_findEven_111_112 2 rfl) (zi_at zh_dX13_findEven_111_112 3 rfl) (zi_at zh_dX13_findEven_111_112 4 rfl) rfl
theorem dX13_findEven_117 : decode cX13_findEven 117 = .ok (.if_icmp .ge 131, 3) := zo_162 (zi_at zh_dX13_findEven_111_112 5 rfl) (zi_at zh_dX13_findEven_111_112 6 rfl) (zi_at zh_dX13_findEven_111_112 7 rfl) rfl
theorem dX13_findEven_120 : decode cX13_findEven 120 = .ok (.aload_n 0, 1) := zo_42 (zi_at zh_dX13_findEven_111_112 8 rfl)
theorem dX13_findEven_121 : decode cX13_findEven 121 = .ok (.iload_n 2, 1) := zo_28 (zi_at zh_dX13_findEven_111_112 9 rfl)
theorem dX13_findEven_122 : decode cX13_findEven 122 = .ok (.aload_n 0, 1) := zo_42 (zi_at zh_dX13_findEven_111_112 10 rfl)
theorem dX13_findEven_123 : decode cX13_findEven 123 = .ok (.getfield 192, 3) := zo_180 (zi_at zh_dX13_findEven_111_112 11 rfl) (zi_at zh_dX13_findEven_111_112 12 rfl) (zi_at zh_dX13_findEven_111_112 13 rfl) rfl
theorem dX13_findEven_126 : decode cX13_findEven 126 = .ok (.iload 4, 2) := zo_21 (zi_at zh_dX13_findEven_111_112 14 rfl) (zi_at zh_dX13_findEven_111_112 15 rfl)
theorem dX13_findEven_128 : decode cX13_findEven 128 = .ok (.iaload, 1) := zo_46 (zi_at zh_dX13_findEven_128_128 0 rfl)
theorem dX13_findEven_129 : decode cX13_findEven 129 = .ok (.aload_n 0, 1) := zo_42 (zi_at zh_dX13_findEven_128_128 1 rfl)
theorem dX13_findEven_130 : decode cX13_findEven 130 = .ok (.getfield 232, 3) := zo_180 (zi_at zh_dX13_findEven_128_128 2 rfl) (zi_at zh_dX13_findEven_128_128 3 rfl) (zi_at zh_dX13_findEven_128_128 4 rfl) rfl
theorem dX13_findEven_133 : decode cX13_findEven 133 = .ok (.invokevirtual 419, 3) := zo_182 (zi_at zh_dX13_findEven_128_128 5 rfl) (zi_at zh_dX13_findEven_128_128 6 rfl) (zi_at zh_dX13_findEven_128_128 7 rfl) rfl
theorem dX13_findEven_136 : decode cX13_findEven 136 = .ok (.ifCond .ne 7, 3) := zo_154 (zi_at zh_dX13_findEven_128_128 8 rfl) (zi_at zh_dX13_findEven_128_128 9 rfl) (zi_at zh_dX13_findEven_128_128 10 rfl) rfl
theorem dX13_findEven_139 : decode cX13_findEven 139 = .ok (.iconst 1, 1) := zo_4 (zi_at zh_dX13_findEven_128_128 11 rfl)
theorem dX13_findEven_140 : decode cX13_findEven 140 = .ok (.goto 4, 3) := zo_167 (zi_at zh_dX13_findEven_128_128 12 rfl) (zi_at zh_dX13_findEven_128_128 13 rfl) (zi_at zh_dX13_findEven_128_128 14 rfl) rfl
theorem dX13_findEven_143 : decode cX13_findEven 143 = .ok (.iconst 0, 1) := zo_3 (zi_at zh_dX13_findEven_128_128 15 rfl)
theorem dX13_findEven_144 : decode cX13_findEven 144 = .ok (.istore 5, 2) := zo_54 (zi_at zh_dX13_findEven_144_144 0 rfl) (zi_at zh_dX13_findEven_144_144 1 rfl)
theorem dX13_findEven_146 : decode cX13_findEven 146 = .ok (.aload_n 0, 1) := zo_42 (zi_at zh_dX13_findEven_144_144 2 rfl)
theorem dX13_findEven_147 : decode cX13_findEven 147 = .ok (.getfield 198, 3) := zo_180 (zi_at zh_dX13_findEven_144_144 3 rfl) (zi_at zh_dX13_findEven_144_144 4 rfl) (zi_at zh_dX13_findEven_144_144 5 rfl) rfl
theorem dX13_findEven_150 : decode cX13_findEven 150 = .ok (.iconst 4, 1) := zo_7 (zi_at zh_dX13_findEven_144_144 6 rfl)
theorem dX13_findEven_151 : decode cX13_findEven 151 = .ok (.aload_n 0, 1) := zo_42 (zi_at zh_dX13_findEven_144_144 7 rfl)
theorem dX13_findEven_152 : decode cX13_findEven 152 = .ok (.getfield 511, 3) := zo_180 (zi_at zh_dX13_findEven_144_144 8 rfl) (zi_at zh_dX13_findEven_144_144 9 rfl) (zi_at zh_dX13_findEven_144_144 10 rfl) rfl
theorem dX13_findEven_155 : decode cX13_findEven 155 = .ok (.imul, 1) := zo_104 (zi_at zh_dX13_findEven_144_144 11 rfl)
theorem dX13_findEven_156 : decode cX13_findEven 156 = .ok (.iload 4, 2) := zo_21 (zi_at zh_dX13_findEven_144_144 12 rfl) (zi_at zh_dX13_findEven_144_144 13 rfl)
theorem dX13_findEven_158 : decode cX13_findEven 158 = .ok (.iadd, 1) := zo_96 (zi_at zh_dX13_findEven_144_144 14 rfl)
theorem dX13_findEven_159 : decode cX13_findEven 159 = .ok (.iload 5, 2) := zo_21 (zi_at zh_dX13_findEven_144_144 15 rfl) (zi_at zh_dX13_findEven_159_160 0 rfl)
theorem dX13_findEven_161 : decode cX13_findEven 161 = .ok (.ifCond .eq 22, 3) := zo_153 (zi_at zh_dX13_findEven_159_160 1 rfl) (zi_at zh_dX13_findEven_159_160 2 rfl) (zi_at zh_dX13_findEven_159_160 3 rfl) rfl
theorem dX13_findEven_164 : decode cX13_findEven 164 = .ok (.aload_n 0, 1) := zo_42 (zi_at zh_dX13_findEven_159_160 4 rfl)
theorem dX13_findEven_165 : decode cX13_findEven 165 = .ok (.iload_n 2, 1) := zo_28 (zi_at zh_dX13_findEven_159_160 5 rfl)
theorem dX13_findEven_166 : decode cX13_findEven 166 = .ok (.aload_n 0, 1) := zo_42 (zi_at zh_dX13_findEven_159_160 6 rfl)
theorem dX13_findEven_167 : decode cX13_findEven 167 = .ok (.getfield 192, 3) := zo_180 (zi_at zh_dX13_findEven_159_160 7 rfl) (zi_at zh_dX13_findEven_159_160 8 rfl) (zi_at zh_dX13_findEven_159_160 9 rfl) rfl
theorem dX13_findEven_170 : decode cX13_findEven 170 = .ok (.iload 4, 2) := zo_21 (zi_at zh_dX13_findEven_159_160 10 rfl) (zi_at zh_dX13_findEven_159_160 11 rfl)
theorem dX13_findEven_172 : decode cX13_findEven 172 = .ok (.iaload, 1) := zo_46 (zi_at zh_dX13_findEven_159_160 12 rfl)
theorem dX13_findEven_173 : decode cX13_findEven 173 = .ok (.aload_n 0, 1) := zo_42 (zi_at zh_dX13_findEven_159_160 13 rfl)
theorem dX13_findEven_174 : decode cX13_findEven 174 = .ok (.getfield 232, 3) := zo_180 (zi_at zh_dX13_findEven_159_160 14 rfl) (zi_at zh_dX13_findEven_159_160 15 rfl) (zi_at zh_dX13_findEven_174_176 0 rfl) rfl
theorem dX13_findEven_177 : decode cX13_findEven 177 = .ok (.invokevirtual 422, 3) := zo_182 (zi_at zh_dX13_findEven_174_176 1 rfl) (zi_at zh_dX13_findEven_174_176 2 rfl) (zi_at zh_dX13_findEven_174_176 3 rfl) rfl
theorem dX13_findEven_180 : decode cX13_findEven 180 = .ok (.goto 4, 3) := zo_167 (zi_at zh_dX13_findEven_174_176 4 rfl) (zi_at zh_dX13_findEven_174_176 5 rfl) (zi_at zh_dX13_findEven_174_176 6 rfl) rfl
theorem dX13_findEven_183 : decode cX13_findEven 183 = .ok (.iconst 0, 1) := zo_3 (zi_at zh_dX13_findEven_174_176 7 rfl)
theorem dX13_findEven_184 : decode cX13_findEven 184 = .ok (.iastore, 1) := zo_79 (zi_at zh_dX13_findEven_174_176 8 rfl)
theorem dX13_findEven_185 : decode cX13_findEven 185 = .ok (.aload_n 0, 1) := zo_42 (zi_at zh_dX13_findEven_174_176 9 rfl)
theorem dX13_findEven_186 : decode cX13_findEven 186 = .ok (.getfield 201, 3) := zo_180 (zi_at zh_dX13_findEven_174_176 10 rfl) (zi_at zh_dX13_findEven_174_176 11 rfl) (zi_at zh_dX13_findEven_174_176 12 rfl) rfl
theorem dX13_findEven_189 : decode cX13_findEven 189 = .ok (.iconst 4, 1) := zo_7 (zi_at zh_dX13_findEven_174_176 13 rfl)
theorem dX13_findEven_190 : decode cX13_findEven 190 = .ok (.aload_n 0, 1) := zo_42 (zi_at zh_dX13_findEven_174_176 14 rfl)
theorem dX13_findEven_191 : decode cX13_findEven 191 = .ok (.getfield 511, 3) := zo_180 (zi_at zh_dX13_findEven_174_176 15 rfl) (zi_at zh_dX13_findEven_191_192 0 rfl) (zi_at zh_dX13_findEven_191_192 1 rfl) rfl
theorem dX13_findEven_194 : decode cX13_findEven 194 = .ok (.imul, 1) := zo_104 (zi_at zh_dX13_findEven_191_192 2 rfl)
theorem dX13_findEven_195 : decode cX13_findEven 195 = .ok (.iload 4, 2) := zo_21 (zi_at zh_dX13_findEven_191_192 3 rfl) (zi_at zh_dX13_findEven_191_192 4 rfl)
theorem dX13_findEven_197 : decode cX13_findEven 197 = .ok (.iadd, 1) := zo_96 (zi_at zh_dX13_findEven_191_192 5 rfl)
theorem dX13_findEven_198 : decode cX13_findEven 198 = .ok (.iload 5, 2) := zo_21 (zi_at zh_dX13_findEven_191_192 6 rfl) (zi_at zh_dX13_findEven_191_192 7 rfl)
theorem dX13_findEven_200 : decode cX13_findEven 200 = .ok (.ifCond .eq 27, 3) := zo_153 (zi_at zh_dX13_findEven_191_192 8 rfl) (zi_at zh_dX13_findEven_191_192 9 rfl) (zi_at zh_dX13_findEven_191_192 10 rfl) rfl
theorem dX13_findEven_203 : decode cX13_findEven 203 = .ok (.aload_n 0, 1) := zo_42 (zi_at zh_dX13_findEven_191_192 11 rfl)
theorem dX13_findEven_204 : decode cX13_findEven 204 = .ok (.aload_n 0, 1) := zo_42 (zi_at zh_dX13_findEven_191_192 12 rfl)
theorem dX13_findEven_205 : decode cX13_findEven 205 = .ok (.getfield 192, 3) := zo_180 (zi_at zh_dX13_findEven_191_192 13 rfl) (zi_at zh_dX13_findEven_191_192 14 rfl) (zi_at zh_dX13_findEven_191_192 15 rfl) rfl
theorem dX13_findEven_208 : decode cX13_findEven 208 = .ok (.iload 4, 2) := zo_21 (zi_at zh_dX13_findEven_208_208 0 rfl) (zi_at zh_dX13_findEven_208_208 1 rfl)
theorem dX13_findEven_210 : decode cX13_findEven 210 = .ok (.iaload, 1) := zo_46 (zi_at zh_dX13_findEven_208_208 2 rfl)
theorem dX13_findEven_211 : decode cX13_findEven 211 = .ok (.aload_n 0, 1) := zo_42 (zi_at zh_dX13_findEven_208_208 3 rfl)
theorem dX13_findEven_212 : decode cX13_findEven 212 = .ok (.getfield 50, 3) := zo_180 (zi_at zh_dX13_findEven_208_208 4 rfl) (zi_at zh_dX13_findEven_208_208 5 rfl) (zi_at zh_dX13_findEven_208_208 6 rfl) rfl
theorem dX13_findEven_215 : decode cX13_findEven 215 = .ok (.iload_n 2, 1) := zo_28 (zi_at zh_dX13_findEven_208_208 7 rfl)
theorem dX13_findEven_216 : decode cX13_findEven 216 = .ok (.iaload, 1) := zo_46 (zi_at zh_dX13_findEven_208_208 8 rfl)
theorem dX13_findEven_217 : decode cX13_findEven 217 = .ok (.aload_n 0, 1) := zo_42 (zi_at zh_dX13_findEven_208_208 9 rfl)
theorem dX13_findEven_218 : decode cX13_findEven 218 = .ok (.getfield 232, 3) := zo_180 (zi_at zh_dX13_findEven_208_208 10 rfl) (zi_at zh_dX13_findEven_208_208 11 rfl) (zi_at zh_dX13_findEven_208_208 12 rfl) rfl
theorem dX13_findEven_221 : decode cX13_findEven 221 = .ok (.invokevirtual 387, 3) := zo_182 (zi_at zh_dX13_findEven_208_208 13 rfl) (zi_at zh_dX13_findEven_208_208 14 rfl) (zi_at zh_dX13_findEven_208_208 15 rfl) rfl
theorem dX13_findEven_224 : decode cX13_findEven 224 = .ok (.goto 4, 3) := zo_167 (zi_at zh_dX13_findEven_224_224 0 rfl) (zi_at zh_dX13_findEven_224_224 1 rfl) (zi_at zh_dX13_findEven_224_224 2 rfl) rfl
theorem dX13_findEven_227 : decode cX13_findEven 227 = .ok (.iconst 0, 1) := zo_3 (zi_at zh_dX13_findEven_224_224 3 rfl)
theorem dX13_findEven_228 : decode cX13_findEven 228 = .ok (.iastore, 1) := zo_79 (zi_at zh_dX13_findEven_224_224 4 rfl)
theorem dX13_findEven_229 : decode cX13_findEven 229 = .ok (.iload_n 3, 1) := zo_29 (zi_at zh_dX13_findEven_224_224 5 rfl)
theorem dX13_findEven_230 : decode cX13_findEven 230 = .ok (.iload 5, 2) := zo_21 (zi_at zh_dX13_findEven_224_224 6 rfl) (zi_at zh_dX13_findEven_224_224 7 rfl)
theorem dX13_findEven_232 : decode cX13_findEven 232 = .ok (.ifCond .eq 7, 3) := zo_153 (zi_at zh_dX13_findEven_224_224 8 rfl) (zi_at zh_dX13_findEven_224_224 9 rfl) (zi_at zh_dX13_findEven_224_224 10 rfl) rfl
theorem dX13_findEven_235 : decode cX13_findEven 235 = .ok (.iconst 1, 1) := zo_4 (zi_at zh_dX13_findEven_224_224 11 rfl)
theorem dX13_findEven_236 : decode cX13_findEven 236 = .ok (.goto 4, 3) := zo_167 (zi_at zh_dX13_findEven_224_224 12 rfl) (zi_at zh_dX13_findEven_224_224 13 rfl) (zi_at zh_dX13_findEven_224_224 14 rfl) rfl
theorem dX13_findEven_239 : decode cX13_findEven 239 = .ok (.iconst 0, 1) := zo_3 (zi_at zh_dX13_findEven_224_224 15 rfl)
theorem dX13_findEven_240 : decode cX13_findEven 240 = .ok (.iadd, 1) := zo_96 (zi_at zh_dX13_findEven_240_240 0 rfl)
theorem dX13_findEven_241 : decode cX13_findEven 241 = .ok (.istore_n 3, 1) := zo_62 (zi_at zh_dX13_findEven_240_240 1 rfl)
theorem dX13_findEven_242 : decode cX13_findEven 242 = .ok (.iinc 4 1, 3) := zo_132 (zi_at zh_dX13_findEven_240_240 2 rfl) (zi_at zh_dX13_findEven_240_240 3 rfl) (zi_at zh_dX13_findEven_240_240 4 rfl) rfl
theorem dX13_findEven_245 : decode cX13_findEven 245 = .ok (.goto (-134), 3) := zo_167 (zi_at zh_dX13_findEven_240_240 5 rfl) (zi_at zh_dX13_findEven_240_240 6 rfl) (zi_at zh_dX13_findEven_240_240 7 rfl) rfl
theorem dX13_findEven_248 : decode cX13_findEven 248 = .ok (.aload_n 0, 1) := zo_42 (zi_at zh_dX13_findEven_240_240 8 rfl)
theorem dX13_findEven_249 : decode cX13_findEven 249 = .ok (.getfield 56, 3) := zo_180 (zi_at zh_dX13_findEven_240_240 9 rfl) (zi_at zh_dX13_findEven_240_240 10 rfl) (zi_at zh_dX13_findEven_240_240 11 rfl) rfl
theorem dX13_findEven_252 : decode cX13_findEven 252 = .ok (.iload_n 2, 1) := zo_28 (zi_at zh_dX13_findEven_240_240 12 rfl)
theorem dX13_findEven_253 : decode cX13_findEven 253 = .ok (.iaload, 1) := zo_46 (zi_at zh_dX13_findEven_240_240 13 rfl)
theorem dX13_findEven_254 : decode cX13_findEven 254 = .ok (.ifCond .ne 18, 3) := zo_154 (zi_at zh_dX13_findEven_240_240 14 rfl) (zi_at zh_dX13_findEven_240_240 15 rfl) (zi_at zh_dX13_findEven_254_256 0 rfl) rfl
theorem dX13_findEven_257 : decode cX13_findEven 257 = .ok (.iload_n 3, 1) := zo_29 (zi_at zh_dX13_findEven_254_256 1 rfl)
theorem dX13_findEven_258 : decode cX13_findEven 258 = .ok (.iconst 1, 1) := zo_4 (zi_at zh_dX13_findEven_254_256 2 rfl)
theorem dX13_findEven_259 : decode cX13_findEven 259 = .ok (.if_icmp .le 13, 3) := zo_164 (zi_at zh_dX13_findEven_254_256 3 rfl) (zi_at zh_dX13_findEven_254_256 4 rfl) (zi_at zh_dX13_findEven_254_256 5 rfl) rfl
theorem dX13_findEven_262 : decode cX13_findEven 262 = .ok (.aload_n 0, 1) := zo_42 (zi_at zh_dX13_findEven_254_256 6 rfl)
theorem dX13_findEven_263 : decode cX13_findEven 263 = .ok (.dup, 1) := zo_89 (zi_at zh_dX13_findEven_254_256 7 rfl)
theorem dX13_findEven_264 : decode cX13_findEven 264 = .ok (.getfield 511, 3) := zo_180 (zi_at zh_dX13_findEven_254_256 8 rfl) (zi_at zh_dX13_findEven_254_256 9 rfl) (zi_at zh_dX13_findEven_254_256 10 rfl) rfl
theorem dX13_findEven_267 : decode cX13_findEven 267 = .ok (.iconst 1, 1) := zo_4 (zi_at zh_dX13_findEven_254_256 11 rfl)
theorem dX13_findEven_268 : decode cX13_findEven 268 = .ok (.iadd, 1) := zo_96 (zi_at zh_dX13_findEven_254_256 12 rfl)
theorem dX13_findEven_269 : decode cX13_findEven 269 = .ok (.putfield 511, 3) := zo_181 (zi_at zh_dX13_findEven_254_256 13 rfl) (zi_at zh_dX13_findEven_254_256 14 rfl) (zi_at zh_dX13_findEven_254_256 15 rfl) rfl
theorem dX13_findEven_272 : decode cX13_findEven 272 = .ok (.iinc 2 1, 3) := zo_132 (zi_at zh_dX13_findEven_272_272 0 rfl) (zi_at zh_dX13_findEven_272_272 1 rfl) (zi_at zh_dX13_findEven_272_272 2 rfl) rfl
theorem dX13_findEven_275 : decode cX13_findEven 275 = .ok (.goto (-177), 3) := zo_167 (zi_at zh_dX13_findEven_272_272 3 rfl) (zi_at zh_dX13_findEven_272_272 4 rfl) (zi_at zh_dX13_findEven_272_272 5 rfl) rfl
theorem dX13_findEven_278 : decode cX13_findEven 278 = .ok (.aload_n 0, 1) := zo_42 (zi_at zh_dX13_findEven_272_272 6 rfl)
theorem dX13_findEven_279 : decode cX13_findEven 279 = .ok (.iconst (-1), 1) := zo_2 (zi_at zh_dX13_findEven_272_272 7 rfl)
theorem dX13_findEven_280 : decode cX13_findEven 280 = .ok (.putfield 514, 3) := zo_181 (zi_at zh_dX13_findEven_272_272 8 rfl) (zi_at zh_dX13_findEven_272_272 9 rfl) (zi_at zh_dX13_findEven_272_272 10 rfl) rfl
theorem dX13_findEven_283 : decode cX13_findEven 283 = .ok (.aload_n 0, 1) := zo_42 (zi_at zh_dX13_findEven_272_272 11 rfl)
theorem dX13_findEven_284 : decode cX13_findEven 284 = .ok (.iconst 0, 1) := zo_3 (zi_at zh_dX13_findEven_272_272 12 rfl)
theorem dX13_findEven_285 : decode cX13_findEven 285 = .ok (.invokevirtual 517, 3) := zo_182 (zi_at zh_dX13_findEven_272_272 13 rfl) (zi_at zh_dX13_findEven_272_272 14 rfl) (zi_at zh_dX13_findEven_272_272 15 rfl) rfl
theorem dX13_findEven_288 : decode cX13_findEven 288 = .ok (.iconst 1, 1) := zo_4 (zi_at zh_dX13_findEven_288_288 0 rfl)
theorem dX13_findEven_289 : decode cX13_findEven 289 = .ok (.ireturn, 1) := zo_172 (zi_at zh_dX13_findEven_288_288 1 rfl)
theorem dX13_tryChanges_0 : decode cX13_tryChanges 0 = .ok (.iload_n 1, 1) := zo_27 (zi_at zh_dX13_tryChanges_0_0 0 rfl)
theorem dX13_tryChanges_1 : decode cX13_tryChanges 1 = .ok (.aload_n 0, 1) := zo_42 (zi_at zh_dX13_tryChanges_0_0 1 rfl)
theorem dX13_tryChanges_2 : decode cX13_tryChanges 2 = .ok (.getfield 508, 3) := zo_180 (zi_at zh_dX13_tryChanges_0_0 2 rfl) (zi_at zh_dX13_tryChanges_0_0 3 rfl) (zi_at zh_dX13_tryChanges_0_0 4 rfl) rfl
theorem dX13_tryChanges_5 : decode cX13_tryChanges 5 = .ok (.if_icmp .ge 32, 3) := zo_162 (zi_at zh_dX13_tryChanges_0_0 5 rfl) (zi_at zh_dX13_tryChanges_0_0 6 rfl) (zi_at zh_dX13_tryChanges_0_0 7 rfl) rfl
theorem dX13_tryChanges_8 : decode cX13_tryChanges 8 = .ok (.bipush (-3), 2) := zo_16 (zi_at zh_dX13_tryChanges_0_0 8 rfl) (zi_at zh_dX13_tryChanges_0_0 9 rfl) rfl
theorem dX13_tryChanges_10 : decode cX13_tryChanges 10 = .ok (.istore_n 2, 1) := zo_61 (zi_at zh_dX13_tryChanges_0_0 10 rfl)
theorem dX13_tryChanges_11 : decode cX13_tryChanges 11 = .ok (.iload_n 2, 1) := zo_28 (zi_at zh_dX13_tryChanges_0_0 11 rfl)
theorem dX13_tryChanges_12 : decode cX13_tryChanges 12 = .ok (.iconst 3, 1) := zo_6 (zi_at zh_dX13_tryChanges_0_0 12 rfl)
theorem dX13_tryChanges_13 : decode cX13_tryChanges 13 = .ok (.if_icmp .gt 23, 3) := zo_163 (zi_at zh_dX13_tryChanges_0_0 13 rfl) (zi_at zh_dX13_tryChanges_0_0 14 rfl) (zi_at zh_dX13_tryChanges_0_0 15 rfl) rfl
theorem dX13_tryChanges_16 : decode cX13_tryChanges 16 = .ok (.aload_n 0, 1) := zo_42 (zi_at zh_dX13_tryChanges_16_16 0 rfl)
theorem dX13_tryChanges_17 : decode cX13_tryChanges 17 = .ok (.getfield 204, 3) := zo_180 (zi_at zh_dX13_tryChanges_16_16 1 rfl) (zi_at zh_dX13_tryChanges_16_16 2 rfl) (zi_at zh_dX13_tryChanges_16_16 3 rfl) rfl
theorem dX13_tryChanges_20 : decode cX13_tryChanges 20 = .ok (.iload_n 1, 1) := zo_27 (zi_at zh_dX13_tryChanges_16_16 4 rfl)
theorem dX13_tryChanges_21 : decode cX13_tryChanges 21 = .ok (.iload_n 2, 1) := zo_28 (zi_at zh_dX13_tryChanges_16_16 5 rfl)
theorem dX13_tryChanges_22 : decode cX13_tryChanges 22 = .ok (.iastore, 1) := zo_79 (zi_at zh_dX13_tryChanges_16_16 6 rfl)
theorem dX13_tryChanges_23 : decode cX13_tryChanges 23 = .ok (.aload_n 0, 1) := zo_42 (zi_at zh_dX13_tryChanges_16_16 7 rfl)
theorem dX13_tryChanges_24 : decode cX13_tryChanges 24 = .ok (.iload_n 1, 1) := zo_27 (zi_at zh_dX13_tryChanges_16_16 8 rfl)
theorem dX13_tryChanges_25 : decode cX13_tryChanges 25 = .ok (.iconst 1, 1) := zo_4 (zi_at zh_dX13_tryChanges_16_16 9 rfl)
theorem dX13_tryChanges_26 : decode cX13_tryChanges 26 = .ok (.iadd, 1) := zo_96 (zi_at zh_dX13_tryChanges_16_16 10 rfl)
theorem dX13_tryChanges_27 : decode cX13_tryChanges 27 = .ok (.invokevirtual 517, 3) := zo_182 (zi_at zh_dX13_tryChanges_16_16 11 rfl) (zi_at zh_dX13_tryChanges_16_16 12 rfl) (zi_at zh_dX13_tryChanges_16_16 13 rfl) rfl
theorem dX13_tryChanges_30 : decode cX13_tryChanges 30 = .ok (.iinc 2 1, 3) := zo_132 (zi_at zh_dX13_tryChanges_16_16 14 rfl) (zi_at zh_dX13_tryChanges_16_16 15 rfl) (zi_at zh_dX13_tryChanges_30_32 0 rfl) rfl
theorem dX13_tryChanges_33 : decode cX13_tryChanges 33 = .ok (.goto (-22), 3) := zo_167 (zi_at zh_dX13_tryChanges_30_32 1 rfl) (zi_at zh_dX13_tryChanges_30_32 2 rfl) (zi_at zh_dX13_tryChanges_30_32 3 rfl) rfl
theorem dX13_tryChanges_36 : decode cX13_tryChanges 36 = .ok (.return_, 1) := zo_177 (zi_at zh_dX13_tryChanges_30_32 4 rfl)
theorem dX13_tryChanges_37 : decode cX13_tryChanges 37 = .ok (.iconst 0, 1) := zo_3 (zi_at zh_dX13_tryChanges_30_32 5 rfl)
theorem dX13_tryChanges_38 : decode cX13_tryChanges 38 = .ok (.istore_n 2, 1) := zo_61 (zi_at zh_dX13_tryChanges_30_32 6 rfl)
theorem dX13_tryChanges_39 : decode cX13_tryChanges 39 = .ok (.iconst 0, 1) := zo_3 (zi_at zh_dX13_tryChanges_30_32 7 rfl)
theorem dX13_tryChanges_40 : decode cX13_tryChanges 40 = .ok (.istore_n 3, 1) := zo_62 (zi_at zh_dX13_tryChanges_30_32 8 rfl)
theorem dX13_tryChanges_41 : decode cX13_tryChanges 41 = .ok (.iconst 0, 1) := zo_3 (zi_at zh_dX13_tryChanges_30_32 9 rfl)
theorem dX13_tryChanges_42 : decode cX13_tryChanges 42 = .ok (.istore 4, 2) := zo_54 (zi_at zh_dX13_tryChanges_30_32 10 rfl) (zi_at zh_dX13_tryChanges_30_32 11 rfl)
theorem dX13_tryChanges_44 : decode cX13_tryChanges 44 = .ok (.iload 4, 2) := zo_21 (zi_at zh_dX13_tryChanges_30_32 12 rfl) (zi_at zh_dX13_tryChanges_30_32 13 rfl)
theorem dX13_tryChanges_46 : decode cX13_tryChanges 46 = .ok (.aload_n 0, 1) := zo_42 (zi_at zh_dX13_tryChanges_30_32 14 rfl)
theorem dX13_tryChanges_47 : decode cX13_tryChanges 47 = .ok (.getfield 508, 3) := zo_180 (zi_at zh_dX13_tryChanges_30_32 15 rfl) (zi_at zh_dX13_tryChanges_47_48 0 rfl) (zi_at zh_dX13_tryChanges_47_48 1 rfl) rfl
theorem dX13_tryChanges_50 : decode cX13_tryChanges 50 = .ok (.if_icmp .ge 22, 3) := zo_162 (zi_at zh_dX13_tryChanges_47_48 2 rfl) (zi_at zh_dX13_tryChanges_47_48 3 rfl) (zi_at zh_dX13_tryChanges_47_48 4 rfl) rfl
theorem dX13_tryChanges_53 : decode cX13_tryChanges 53 = .ok (.iload_n 3, 1) := zo_29 (zi_at zh_dX13_tryChanges_47_48 5 rfl)
theorem dX13_tryChanges_54 : decode cX13_tryChanges 54 = .ok (.aload_n 0, 1) := zo_42 (zi_at zh_dX13_tryChanges_47_48 6 rfl)
theorem dX13_tryChanges_55 : decode cX13_tryChanges 55 = .ok (.getfield 204, 3) := zo_180 (zi_at zh_dX13_tryChanges_47_48 7 rfl) (zi_at zh_dX13_tryChanges_47_48 8 rfl) (zi_at zh_dX13_tryChanges_47_48 9 rfl) rfl
theorem dX13_tryChanges_58 : decode cX13_tryChanges 58 = .ok (.iload 4, 2) := zo_21 (zi_at zh_dX13_tryChanges_47_48 10 rfl) (zi_at zh_dX13_tryChanges_47_48 11 rfl)
theorem dX13_tryChanges_60 : decode cX13_tryChanges 60 = .ok (.iaload, 1) := zo_46 (zi_at zh_dX13_tryChanges_47_48 12 rfl)
theorem dX13_tryChanges_61 : decode cX13_tryChanges 61 = .ok (.invokestatic 474, 3) := zo_184 (zi_at zh_dX13_tryChanges_47_48 13 rfl) (zi_at zh_dX13_tryChanges_47_48 14 rfl) (zi_at zh_dX13_tryChanges_47_48 15 rfl) rfl
theorem dX13_tryChanges_64 : decode cX13_tryChanges 64 = .ok (.iadd, 1) := zo_96 (zi_at zh_dX13_tryChanges_64_64 0 rfl)
theorem dX13_tryChanges_65 : decode cX13_tryChanges 65 = .ok (.istore_n 3, 1) := zo_62 (zi_at zh_dX13_tryChanges_64_64 1 rfl)
theorem dX13_tryChanges_66 : decode cX13_tryChanges 66 = .ok (.iinc 4 1, 3) := zo_132 (zi_at zh_dX13_tryChanges_64_64 2 rfl) (zi_at zh_dX13_tryChanges_64_64 3 rfl) (zi_at zh_dX13_tryChanges_64_64 4 rfl) rfl
theorem dX13_tryChanges_69 : decode cX13_tryChanges 69 = .ok (.goto (-25), 3) := zo_167 (zi_at zh_dX13_tryChanges_64_64 5 rfl) (zi_at zh_dX13_tryChanges_64_64 6 rfl) (zi_at zh_dX13_tryChanges_64_64 7 rfl) rfl
theorem dX13_tryChanges_72 : decode cX13_tryChanges 72 = .ok (.iconst 0, 1) := zo_3 (zi_at zh_dX13_tryChanges_64_64 8 rfl)
theorem dX13_tryChanges_73 : decode cX13_tryChanges 73 = .ok (.istore 4, 2) := zo_54 (zi_at zh_dX13_tryChanges_64_64 9 rfl) (zi_at zh_dX13_tryChanges_64_64 10 rfl)
theorem dX13_tryChanges_75 : decode cX13_tryChanges 75 = .ok (.iload 4, 2) := zo_21 (zi_at zh_dX13_tryChanges_64_64 11 rfl) (zi_at zh_dX13_tryChanges_64_64 12 rfl)
theorem dX13_tryChanges_77 : decode cX13_tryChanges 77 = .ok (.aload_n 0, 1) := zo_42 (zi_at zh_dX13_tryChanges_64_64 13 rfl)
theorem dX13_tryChanges_78 : decode cX13_tryChanges 78 = .ok (.getfield 511, 3) := zo_180 (zi_at zh_dX13_tryChanges_64_64 14 rfl) (zi_at zh_dX13_tryChanges_64_64 15 rfl) (zi_at zh_dX13_tryChanges_78_80 0 rfl) rfl
theorem dX13_tryChanges_81 : decode cX13_tryChanges 81 = .ok (.if_icmp .ge 124, 3) := zo_162 (zi_at zh_dX13_tryChanges_78_80 1 rfl) (zi_at zh_dX13_tryChanges_78_80 2 rfl) (zi_at zh_dX13_tryChanges_78_80 3 rfl) rfl
theorem dX13_tryChanges_84 : decode cX13_tryChanges 84 = .ok (.ldc_w 520, 3) := zo_19 (zi_at zh_dX13_tryChanges_78_80 4 rfl) (zi_at zh_dX13_tryChanges_78_80 5 rfl) (zi_at zh_dX13_tryChanges_78_80 6 rfl) rfl
theorem dX13_tryChanges_87 : decode cX13_tryChanges 87 = .ok (.istore 5, 2) := zo_54 (zi_at zh_dX13_tryChanges_78_80 7 rfl) (zi_at zh_dX13_tryChanges_78_80 8 rfl)
theorem dX13_tryChanges_89 : decode cX13_tryChanges 89 = .ok (.ldc_w 521, 3) := zo_19 (zi_at zh_dX13_tryChanges_78_80 9 rfl) (zi_at zh_dX13_tryChanges_78_80 10 rfl) (zi_at zh_dX13_tryChanges_78_80 11 rfl) rfl
theorem dX13_tryChanges_92 : decode cX13_tryChanges 92 = .ok (.istore 6, 2) := zo_54 (zi_at zh_dX13_tryChanges_78_80 12 rfl) (zi_at zh_dX13_tryChanges_78_80 13 rfl)
theorem dX13_tryChanges_94 : decode cX13_tryChanges 94 = .ok (.iconst 0, 1) := zo_3 (zi_at zh_dX13_tryChanges_78_80 14 rfl)
theorem dX13_tryChanges_95 : decode cX13_tryChanges 95 = .ok (.istore 7, 2) := zo_54 (zi_at zh_dX13_tryChanges_78_80 15 rfl) (zi_at zh_dX13_tryChanges_95_96 0 rfl)
theorem dX13_tryChanges_97 : decode cX13_tryChanges 97 = .ok (.iload 7, 2) := zo_21 (zi_at zh_dX13_tryChanges_95_96 1 rfl) (zi_at zh_dX13_tryChanges_95_96 2 rfl)
theorem dX13_tryChanges_99 : decode cX13_tryChanges 99 = .ok (.aload_n 0, 1) := zo_42 (zi_at zh_dX13_tryChanges_95_96 3 rfl)
theorem dX13_tryChanges_100 : decode cX13_tryChanges 100 = .ok (.getfield 508, 3) := zo_180 (zi_at zh_dX13_tryChanges_95_96 4 rfl) (zi_at zh_dX13_tryChanges_95_96 5 rfl) (zi_at zh_dX13_tryChanges_95_96 6 rfl) rfl
theorem dX13_tryChanges_103 : decode cX13_tryChanges 103 = .ok (.if_icmp .ge 88, 3) := zo_162 (zi_at zh_dX13_tryChanges_95_96 7 rfl) (zi_at zh_dX13_tryChanges_95_96 8 rfl) (zi_at zh_dX13_tryChanges_95_96 9 rfl) rfl
theorem dX13_tryChanges_106 : decode cX13_tryChanges 106 = .ok (.aload_n 0, 1) := zo_42 (zi_at zh_dX13_tryChanges_95_96 10 rfl)
theorem dX13_tryChanges_107 : decode cX13_tryChanges 107 = .ok (.getfield 198, 3) := zo_180 (zi_at zh_dX13_tryChanges_95_96 11 rfl) (zi_at zh_dX13_tryChanges_95_96 12 rfl) (zi_at zh_dX13_tryChanges_95_96 13 rfl) rfl
theorem dX13_tryChanges_110 : decode cX13_tryChanges 110 = .ok (.iconst 4, 1) := zo_7 (zi_at zh_dX13_tryChanges_95_96 14 rfl)
theorem dX13_tryChanges_111 : decode cX13_tryChanges 111 = .ok (.iload 4, 2) := zo_21 (zi_at zh_dX13_tryChanges_95_96 15 rfl) (zi_at zh_dX13_tryChanges_111_112 0 rfl)
theorem dX13_tryChanges_113 : decode cX13_tryChanges 113 = .ok (.imul, 1) := zo_104 (zi_at zh_dX13_tryChanges_111_112 1 rfl)
theorem dX13_tryChanges_114 : decode cX13_tryChanges 114 = .ok (.iload 7, 2) := zo_21 (zi_at zh_dX13_tryChanges_111_112 2 rfl) (zi_at zh_dX13_tryChanges_111_112 3 rfl)
theorem dX13_tryChanges_116 : decode cX13_tryChanges 116 = .ok (.iadd, 1) := zo_96 (zi_at zh_dX13_tryChanges_111_112 4 rfl)
theorem dX13_tryChanges_117 : decode cX13_tryChanges 117 = .ok (.iaload, 1) := zo_46 (zi_at zh_dX13_tryChanges_111_112 5 rfl)
theorem dX13_tryChanges_118 : decode cX13_tryChanges 118 = .ok (.ifCond .ne 6, 3) := zo_154 (zi_at zh_dX13_tryChanges_111_112 6 rfl) (zi_at zh_dX13_tryChanges_111_112 7 rfl) (zi_at zh_dX13_tryChanges_111_112 8 rfl) rfl
theorem dX13_tryChanges_121 : decode cX13_tryChanges 121 = .ok (.goto 64, 3) := zo_167 (zi_at zh_dX13_tryChanges_111_112 9 rfl) (zi_at zh_dX13_tryChanges_111_112 10 rfl) (zi_at zh_dX13_tryChanges_111_112 11 rfl) rfl
theorem dX13_tryChanges_124 : decode cX13_tryChanges 124 = .ok (.aload_n 0, 1) := zo_42 (zi_at zh_dX13_tryChanges_111_112 12 rfl)
theorem dX13_tryChanges_125 : decode cX13_tryChanges 125 = .ok (.getfield 198, 3) := zo_180 (zi_at zh_dX13_tryChanges_111_112 13 rfl) (zi_at zh_dX13_tryChanges_111_112 14 rfl) (zi_at zh_dX13_tryChanges_111_112 15 rfl) rfl
theorem dX13_tryChanges_128 : decode cX13_tryChanges 128 = .ok (.iconst 4, 1) := zo_7 (zi_at zh_dX13_tryChanges_128_128 0 rfl)
theorem dX13_tryChanges_129 : decode cX13_tryChanges 129 = .ok (.iload 4, 2) := zo_21 (zi_at zh_dX13_tryChanges_128_128 1 rfl) (zi_at zh_dX13_tryChanges_128_128 2 rfl)
theorem dX13_tryChanges_131 : decode cX13_tryChanges 131 = .ok (.imul, 1) := zo_104 (zi_at zh_dX13_tryChanges_128_128 3 rfl)
theorem dX13_tryChanges_132 : decode cX13_tryChanges 132 = .ok (.iload 7, 2) := zo_21 (zi_at zh_dX13_tryChanges_128_128 4 rfl) (zi_at zh_dX13_tryChanges_128_128 5 rfl)
theorem dX13_tryChanges_134 : decode cX13_tryChanges 134 = .ok (.iadd, 1) := zo_96 (zi_at zh_dX13_tryChanges_128_128 6 rfl)
theorem dX13_tryChanges_135 : decode cX13_tryChanges 135 = .ok (.iaload, 1) := zo_46 (zi_at zh_dX13_tryChanges_128_128 7 rfl)
theorem dX13_tryChanges_136 : decode cX13_tryChanges 136 = .ok (.iconst 1, 1) := zo_4 (zi_at zh_dX13_tryChanges_128_128 8 rfl)
theorem dX13_tryChanges_137 : decode cX13_tryChanges 137 = .ok (.aload_n 0, 1) := zo_42 (zi_at zh_dX13_tryChanges_128_128 9 rfl)
theorem dX13_tryChanges_138 : decode cX13_tryChanges 138 = .ok (.getfield 201, 3) := zo_180 (zi_at zh_dX13_tryChanges_128_128 10 rfl) (zi_at zh_dX13_tryChanges_128_128 11 rfl) (zi_at zh_dX13_tryChanges_128_128 12 rfl) rfl
theorem dX13_tryChanges_141 : decode cX13_tryChanges 141 = .ok (.iconst 4, 1) := zo_7 (zi_at zh_dX13_tryChanges_128_128 13 rfl)
theorem dX13_tryChanges_142 : decode cX13_tryChanges 142 = .ok (.iload 4, 2) := zo_21 (zi_at zh_dX13_tryChanges_128_128 14 rfl) (zi_at zh_dX13_tryChanges_128_128 15 rfl)
theorem dX13_tryChanges_144 : decode cX13_tryChanges 144 = .ok (.imul, 1) := zo_104 (zi_at zh_dX13_tryChanges_144_144 0 rfl)
theorem dX13_tryChanges_145 : decode cX13_tryChanges 145 = .ok (.iload 7, 2) := zo_21 (zi_at zh_dX13_tryChanges_144_144 1 rfl) (zi_at zh_dX13_tryChanges_144_144 2 rfl)
theorem dX13_tryChanges_147 : decode cX13_tryChanges 147 = .ok (.iadd, 1) := zo_96 (zi_at zh_dX13_tryChanges_144_144 3 rfl)
theorem dX13_tryChanges_148 : decode cX13_tryChanges 148 = .ok (.iaload, 1) := zo_46 (zi_at zh_dX13_tryChanges_144_144 4 rfl)
theorem dX13_tryChanges_149 : decode cX13_tryChanges 149 = .ok (.aload_n 0, 1) := zo_42 (zi_at zh_dX13_tryChanges_144_144 5 rfl)
theorem dX13_tryChanges_150 : decode cX13_tryChanges 150 = .ok (.getfield 204, 3) := zo_180 (zi_at zh_dX13_tryChanges_144_144 6 rfl) (zi_at zh_dX13_tryChanges_144_144 7 rfl) (zi_at zh_dX13_tryChanges_144_144 8 rfl) rfl
theorem dX13_tryChanges_153 : decode cX13_tryChanges 153 = .ok (.iload 7, 2) := zo_21 (zi_at zh_dX13_tryChanges_144_144 9 rfl) (zi_at zh_dX13_tryChanges_144_144 10 rfl)
theorem dX13_tryChanges_155 : decode cX13_tryChanges 155 = .ok (.iaload, 1) := zo_46 (zi_at zh_dX13_tryChanges_144_144 11 rfl)
theorem dX13_tryChanges_156 : decode cX13_tryChanges 156 = .ok (.iadd, 1) := zo_96 (zi_at zh_dX13_tryChanges_144_144 12 rfl)
theorem dX13_tryChanges_157 : decode cX13_tryChanges 157 = .ok (.invokestatic 385, 3) := zo_184 (zi_at zh_dX13_tryChanges_144_144 13 rfl) (zi_at zh_dX13_tryChanges_144_144 14 rfl) (zi_at zh_dX13_tryChanges_144_144 15 rfl) rfl
theorem dX13_tryChanges_160 : decode cX13_tryChanges 160 = .ok (.imul, 1) := zo_104 (zi_at zh_dX13_tryChanges_160_160 0 rfl)
theorem dX13_tryChanges_161 : decode cX13_tryChanges 161 = .ok (.sipush 1000, 3) := zo_17 (zi_at zh_dX13_tryChanges_160_160 1 rfl) (zi_at zh_dX13_tryChanges_160_160 2 rfl) (zi_at zh_dX13_tryChanges_160_160 3 rfl) rfl
theorem dX13_tryChanges_164 : decode cX13_tryChanges 164 = .ok (.idiv, 1) := zo_108 (zi_at zh_dX13_tryChanges_160_160 4 rfl)
theorem dX13_tryChanges_165 : decode cX13_tryChanges 165 = .ok (.istore 8, 2) := zo_54 (zi_at zh_dX13_tryChanges_160_160 5 rfl) (zi_at zh_dX13_tryChanges_160_160 6 rfl)
theorem dX13_tryChanges_167 : decode cX13_tryChanges 167 = .ok (.iload 5, 2) := zo_21 (zi_at zh_dX13_tryChanges_160_160 7 rfl) (zi_at zh_dX13_tryChanges_160_160 8 rfl)
theorem dX13_tryChanges_169 : decode cX13_tryChanges 169 = .ok (.iload 8, 2) := zo_21 (zi_at zh_dX13_tryChanges_160_160 9 rfl) (zi_at zh_dX13_tryChanges_160_160 10 rfl)
theorem dX13_tryChanges_171 : decode cX13_tryChanges 171 = .ok (.invokestatic 383, 3) := zo_184 (zi_at zh_dX13_tryChanges_160_160 11 rfl) (zi_at zh_dX13_tryChanges_160_160 12 rfl) (zi_at zh_dX13_tryChanges_160_160 13 rfl) rfl
theorem dX13_tryChanges_174 : decode cX13_tryChanges 174 = .ok (.istore 5, 2) := zo_54 (zi_at zh_dX13_tryChanges_160_160 14 rfl) (zi_at zh_dX13_tryChanges_160_160 15 rfl)
theorem dX13_tryChanges_176 : decode cX13_tryChanges 176 = .ok (.iload 6, 2) := zo_21 (zi_at zh_dX13_tryChanges_176_176 0 rfl) (zi_at zh_dX13_tryChanges_176_176 1 rfl)
theorem dX13_tryChanges_178 : decode cX13_tryChanges 178 = .ok (.iload 8, 2) := zo_21 (zi_at zh_dX13_tryChanges_176_176 2 rfl) (zi_at zh_dX13_tryChanges_176_176 3 rfl)
theorem dX13_tryChanges_180 : decode cX13_tryChanges 180 = .ok (.invokestatic 385, 3) := zo_184 (zi_at zh_dX13_tryChanges_176_176 4 rfl) (zi_at zh_dX13_tryChanges_176_176 5 rfl) (zi_at zh_dX13_tryChanges_176_176 6 rfl) rfl
theorem dX13_tryChanges_183 : decode cX13_tryChanges 183 = .ok (.istore 6, 2) := zo_54 (zi_at zh_dX13_tryChanges_176_176 7 rfl) (zi_at zh_dX13_tryChanges_176_176 8 rfl)
theorem dX13_tryChanges_185 : decode cX13_tryChanges 185 = .ok (.iinc 7 1, 3) := zo_132 (zi_at zh_dX13_tryChanges_176_176 9 rfl) (zi_at zh_dX13_tryChanges_176_176 10 rfl) (zi_at zh_dX13_tryChanges_176_176 11 rfl) rfl
theorem dX13_tryChanges_188 : decode cX13_tryChanges 188 = .ok (.goto (-91), 3) := zo_167 (zi_at zh_dX13_tryChanges_176_176 12 rfl) (zi_at zh_dX13_tryChanges_176_176 13 rfl) (zi_at zh_dX13_tryChanges_176_176 14 rfl) rfl
theorem dX13_tryChanges_191 : decode cX13_tryChanges 191 = .ok (.iload_n 2, 1) := zo_28 (zi_at zh_dX13_tryChanges_176_176 15 rfl)
theorem dX13_tryChanges_192 : decode cX13_tryChanges 192 = .ok (.iload 6, 2) := zo_21 (zi_at zh_dX13_tryChanges_192_192 0 rfl) (zi_at zh_dX13_tryChanges_192_192 1 rfl)
theorem dX13_tryChanges_194 : decode cX13_tryChanges 194 = .ok (.iload 5, 2) := zo_21 (zi_at zh_dX13_tryChanges_192_192 2 rfl) (zi_at zh_dX13_tryChanges_192_192 3 rfl)
theorem dX13_tryChanges_196 : decode cX13_tryChanges 196 = .ok (.isub, 1) := zo_100 (zi_at zh_dX13_tryChanges_192_192 4 rfl)
theorem dX13_tryChanges_197 : decode cX13_tryChanges 197 = .ok (.iadd, 1) := zo_96 (zi_at zh_dX13_tryChanges_192_192 5 rfl)
theorem dX13_tryChanges_198 : decode cX13_tryChanges 198 = .ok (.istore_n 2, 1) := zo_61 (zi_at zh_dX13_tryChanges_192_192 6 rfl)
theorem dX13_tryChanges_199 : decode cX13_tryChanges 199 = .ok (.iinc 4 1, 3) := zo_132 (zi_at zh_dX13_tryChanges_192_192 7 rfl) (zi_at zh_dX13_tryChanges_192_192 8 rfl) (zi_at zh_dX13_tryChanges_192_192 9 rfl) rfl
theorem dX13_tryChanges_202 : decode cX13_tryChanges 202 = .ok (.goto (-127), 3) := zo_167 (zi_at zh_dX13_tryChanges_192_192 10 rfl) (zi_at zh_dX13_tryChanges_192_192 11 rfl) (zi_at zh_dX13_tryChanges_192_192 12 rfl) rfl
theorem dX13_tryChanges_205 : decode cX13_tryChanges 205 = .ok (.aload_n 0, 1) := zo_42 (zi_at zh_dX13_tryChanges_192_192 13 rfl)
theorem dX13_tryChanges_206 : decode cX13_tryChanges 206 = .ok (.getfield 514, 3) := zo_180 (zi_at zh_dX13_tryChanges_192_192 14 rfl) (zi_at zh_dX13_tryChanges_192_192 15 rfl) (zi_at zh_dX13_tryChanges_206_208 0 rfl) rfl
theorem dX13_tryChanges_209 : decode cX13_tryChanges 209 = .ok (.iconst (-1), 1) := zo_2 (zi_at zh_dX13_tryChanges_206_208 1 rfl)
theorem dX13_tryChanges_210 : decode cX13_tryChanges 210 = .ok (.if_icmp .eq 28, 3) := zo_159 (zi_at zh_dX13_tryChanges_206_208 2 rfl) (zi_at zh_dX13_tryChanges_206_208 3 rfl) (zi_at zh_dX13_tryChanges_206_208 4 rfl) rfl
theorem dX13_tryChanges_213 : decode cX13_tryChanges 213 = .ok (.iload_n 2, 1) := zo_28 (zi_at zh_dX13_tryChanges_206_208 5 rfl)
theorem dX13_tryChanges_214 : decode cX13_tryChanges 214 = .ok (.aload_n 0, 1) := zo_42 (zi_at zh_dX13_tryChanges_206_208 6 rfl)
theorem dX13_tryChanges_215 : decode cX13_tryChanges 215 = .ok (.getfield 514, 3) := zo_180 (zi_at zh_dX13_tryChanges_206_208 7 rfl) (zi_at zh_dX13_tryChanges_206_208 8 rfl) (zi_at zh_dX13_tryChanges_206_208 9 rfl) rfl
theorem dX13_tryChanges_218 : decode cX13_tryChanges 218 = .ok (.if_icmp .gt 19, 3) := zo_163 (zi_at zh_dX13_tryChanges_206_208 10 rfl) (zi_at zh_dX13_tryChanges_206_208 11 rfl) (zi_at zh_dX13_tryChanges_206_208 12 rfl) rfl
theorem dX13_tryChanges_221 : decode cX13_tryChanges 221 = .ok (.iload_n 2, 1) := zo_28 (zi_at zh_dX13_tryChanges_206_208 13 rfl)
theorem dX13_tryChanges_222 : decode cX13_tryChanges 222 = .ok (.aload_n 0, 1) := zo_42 (zi_at zh_dX13_tryChanges_206_208 14 rfl)
theorem dX13_tryChanges_223 : decode cX13_tryChanges 223 = .ok (.getfield 514, 3) := zo_180 (zi_at zh_dX13_tryChanges_206_208 15 rfl) (zi_at zh_dX13_tryChanges_223_224 0 rfl) (zi_at zh_dX13_tryChanges_223_224 1 rfl) rfl
theorem dX13_tryChanges_226 : decode cX13_tryChanges 226 = .ok (.if_icmp .ne 12, 3) := zo_160 (zi_at zh_dX13_tryChanges_223_224 2 rfl) (zi_at zh_dX13_tryChanges_223_224 3 rfl) (zi_at zh_dX13_tryChanges_223_224 4 rfl) rfl
theorem dX13_tryChanges_229 : decode cX13_tryChanges 229 = .ok (.iload_n 3, 1) := zo_29 (zi_at zh_dX13_tryChanges_223_224 5 rfl)
theorem dX13_tryChanges_230 : decode cX13_tryChanges 230 = .ok (.aload_n 0, 1) := zo_42 (zi_at zh_dX13_tryChanges_223_224 6 rfl)
theorem dX13_tryChanges_231 : decode cX13_tryChanges 231 = .ok (.getfield 522, 3) := zo_180 (zi_at zh_dX13_tryChanges_223_224 7 rfl) (zi_at zh_dX13_tryChanges_223_224 8 rfl) (zi_at zh_dX13_tryChanges_223_224 9 rfl) rfl
theorem dX13_tryChanges_234 : decode cX13_tryChanges 234 = .ok (.if_icmp .lt 4, 3) := zo_161 (zi_at zh_dX13_tryChanges_223_224 10 rfl) (zi_at zh_dX13_tryChanges_223_224 11 rfl) (zi_at zh_dX13_tryChanges_223_224 12 rfl) rfl
theorem dX13_tryChanges_237 : decode cX13_tryChanges 237 = .ok (.return_, 1) := zo_177 (zi_at zh_dX13_tryChanges_223_224 13 rfl)
theorem dX13_tryChanges_238 : decode cX13_tryChanges 238 = .ok (.aload_n 0, 1) := zo_42 (zi_at zh_dX13_tryChanges_223_224 14 rfl)
theorem dX13_tryChanges_239 : decode cX13_tryChanges 239 = .ok (.iload_n 2, 1) := zo_28 (zi_at zh_dX13_tryChanges_223_224 15 rfl)
theorem dX13_tryChanges_240 : decode cX13_tryChanges 240 = .ok (.putfield 514, 3) := zo_181 (zi_at zh_dX13_tryChanges_240_240 0 rfl) (zi_at zh_dX13_tryChanges_240_240 1 rfl) (zi_at zh_dX13_tryChanges_240_240 2 rfl) rfl
theorem dX13_tryChanges_243 : decode cX13_tryChanges 243 = .ok (.aload_n 0, 1) := zo_42 (zi_at zh_dX13_tryChanges_240_240 3 rfl)
theorem dX13_tryChanges_244 : decode cX13_tryChanges 244 = .ok (.iload_n 3, 1) := zo_29 (zi_at zh_dX13_tryChanges_240_240 4 rfl)
theorem dX13_tryChanges_245 : decode cX13_tryChanges 245 = .ok (.putfield 522, 3) := zo_181 (zi_at zh_dX13_tryChanges_240_240 5 rfl) (zi_at zh_dX13_tryChanges_240_240 6 rfl) (zi_at zh_dX13_tryChanges_240_240 7 rfl) rfl
theorem dX13_tryChanges_248 : decode cX13_tryChanges 248 = .ok (.iconst 0, 1) := zo_3 (zi_at zh_dX13_tryChanges_240_240 8 rfl)
theorem dX13_tryChanges_249 : decode cX13_tryChanges 249 = .ok (.istore 4, 2) := zo_54 (zi_at zh_dX13_tryChanges_240_240 9 rfl) (zi_at zh_dX13_tryChanges_240_240 10 rfl)
theorem dX13_tryChanges_251 : decode cX13_tryChanges 251 = .ok (.iload 4, 2) := zo_21 (zi_at zh_dX13_tryChanges_240_240 11 rfl) (zi_at zh_dX13_tryChanges_240_240 12 rfl)
theorem dX13_tryChanges_253 : decode cX13_tryChanges 253 = .ok (.aload_n 0, 1) := zo_42 (zi_at zh_dX13_tryChanges_240_240 13 rfl)
theorem dX13_tryChanges_254 : decode cX13_tryChanges 254 = .ok (.getfield 508, 3) := zo_180 (zi_at zh_dX13_tryChanges_240_240 14 rfl) (zi_at zh_dX13_tryChanges_240_240 15 rfl) (zi_at zh_dX13_tryChanges_254_256 0 rfl) rfl
theorem dX13_tryChanges_257 : decode cX13_tryChanges 257 = .ok (.if_icmp .ge 23, 3) := zo_162 (zi_at zh_dX13_tryChanges_254_256 1 rfl) (zi_at zh_dX13_tryChanges_254_256 2 rfl) (zi_at zh_dX13_tryChanges_254_256 3 rfl) rfl
theorem dX13_tryChanges_260 : decode cX13_tryChanges 260 = .ok (.aload_n 0, 1) := zo_42 (zi_at zh_dX13_tryChanges_254_256 4 rfl)
theorem dX13_tryChanges_261 : decode cX13_tryChanges 261 = .ok (.getfield 207, 3) := zo_180 (zi_at zh_dX13_tryChanges_254_256 5 rfl) (zi_at zh_dX13_tryChanges_254_256 6 rfl) (zi_at zh_dX13_tryChanges_254_256 7 rfl) rfl
theorem dX13_tryChanges_264 : decode cX13_tryChanges 264 = .ok (.iload 4, 2) := zo_21 (zi_at zh_dX13_tryChanges_254_256 8 rfl) (zi_at zh_dX13_tryChanges_254_256 9 rfl)
theorem dX13_tryChanges_266 : decode cX13_tryChanges 266 = .ok (.aload_n 0, 1) := zo_42 (zi_at zh_dX13_tryChanges_254_256 10 rfl)
theorem dX13_tryChanges_267 : decode cX13_tryChanges 267 = .ok (.getfield 204, 3) := zo_180 (zi_at zh_dX13_tryChanges_254_256 11 rfl) (zi_at zh_dX13_tryChanges_254_256 12 rfl) (zi_at zh_dX13_tryChanges_254_256 13 rfl) rfl
theorem dX13_tryChanges_270 : decode cX13_tryChanges 270 = .ok (.iload 4, 2) := zo_21 (zi_at zh_dX13_tryChanges_254_256 14 rfl) (zi_at zh_dX13_tryChanges_254_256 15 rfl)
theorem dX13_tryChanges_272 : decode cX13_tryChanges 272 = .ok (.iaload, 1) := zo_46 (zi_at zh_dX13_tryChanges_272_272 0 rfl)
theorem dX13_tryChanges_273 : decode cX13_tryChanges 273 = .ok (.iastore, 1) := zo_79 (zi_at zh_dX13_tryChanges_272_272 1 rfl)
theorem dX13_tryChanges_274 : decode cX13_tryChanges 274 = .ok (.iinc 4 1, 3) := zo_132 (zi_at zh_dX13_tryChanges_272_272 2 rfl) (zi_at zh_dX13_tryChanges_272_272 3 rfl) (zi_at zh_dX13_tryChanges_272_272 4 rfl) rfl
theorem dX13_tryChanges_277 : decode cX13_tryChanges 277 = .ok (.goto (-26), 3) := zo_167 (zi_at zh_dX13_tryChanges_272_272 5 rfl) (zi_at zh_dX13_tryChanges_272_272 6 rfl) (zi_at zh_dX13_tryChanges_272_272 7 rfl) rfl
theorem dX13_tryChanges_280 : decode cX13_tryChanges 280 = .ok (.return_, 1) := zo_177 (zi_at zh_dX13_tryChanges_272_272 8 rfl)
theorem dX13_even_0 : decode cX13_even 0 = .ok (.aload_n 0, 1) := zo_42 (zi_at zh_dX13_even_0_0 0 rfl)
theorem dX13_even_1 : decode cX13_even 1 = .ok (.iload_n 1, 1) := zo_27 (zi_at zh_dX13_even_0_0 1 rfl)
theorem dX13_even_2 : decode cX13_even 2 = .ok (.invokevirtual 525, 3) := zo_182 (zi_at zh_dX13_even_0_0 2 rfl) (zi_at zh_dX13_even_0_0 3 rfl) (zi_at zh_dX13_even_0_0 4 rfl) rfl
theorem dX13_even_5 : decode cX13_even 5 = .ok (.ifCond .eq 10, 3) := zo_153 (zi_at zh_dX13_even_0_0 5 rfl) (zi_at zh_dX13_even_0_0 6 rfl) (zi_at zh_dX13_even_0_0 7 rfl) rfl
theorem dX13_even_8 : decode cX13_even 8 = .ok (.aload_n 0, 1) := zo_42 (zi_at zh_dX13_even_0_0 8 rfl)
theorem dX13_even_9 : decode cX13_even 9 = .ok (.getfield 514, 3) := zo_180 (zi_at zh_dX13_even_0_0 9 rfl) (zi_at zh_dX13_even_0_0 10 rfl) (zi_at zh_dX13_even_0_0 11 rfl) rfl
theorem dX13_even_12 : decode cX13_even 12 = .ok (.goto 4, 3) := zo_167 (zi_at zh_dX13_even_0_0 12 rfl) (zi_at zh_dX13_even_0_0 13 rfl) (zi_at zh_dX13_even_0_0 14 rfl) rfl
theorem dX13_even_15 : decode cX13_even 15 = .ok (.iconst (-1), 1) := zo_2 (zi_at zh_dX13_even_0_0 15 rfl)
theorem dX13_even_16 : decode cX13_even 16 = .ok (.ireturn, 1) := zo_172 (zi_at zh_dX13_even_16_16 0 rfl)
theorem dX13_change_0 : decode cX13_change 0 = .ok (.aload_n 0, 1) := zo_42 (zi_at zh_dX13_change_0_0 0 rfl)
theorem dX13_change_1 : decode cX13_change 1 = .ok (.iload_n 1, 1) := zo_27 (zi_at zh_dX13_change_0_0 1 rfl)
theorem dX13_change_2 : decode cX13_change 2 = .ok (.invokevirtual 525, 3) := zo_182 (zi_at zh_dX13_change_0_0 2 rfl) (zi_at zh_dX13_change_0_0 3 rfl) (zi_at zh_dX13_change_0_0 4 rfl) rfl
theorem dX13_change_5 : decode cX13_change 5 = .ok (.ifCond .ne 7, 3) := zo_154 (zi_at zh_dX13_change_0_0 5 rfl) (zi_at zh_dX13_change_0_0 6 rfl) (zi_at zh_dX13_change_0_0 7 rfl) rfl
theorem dX13_change_8 : decode cX13_change 8 = .ok (.ldc_w 431, 3) := zo_19 (zi_at zh_dX13_change_0_0 8 rfl) (zi_at zh_dX13_change_0_0 9 rfl) (zi_at zh_dX13_change_0_0 10 rfl) rfl
theorem dX13_change_11 : decode cX13_change 11 = .ok (.ireturn, 1) := zo_172 (zi_at zh_dX13_change_0_0 11 rfl)
theorem dX13_change_12 : decode cX13_change 12 = .ok (.iconst 0, 1) := zo_3 (zi_at zh_dX13_change_0_0 12 rfl)
theorem dX13_change_13 : decode cX13_change 13 = .ok (.istore_n 3, 1) := zo_62 (zi_at zh_dX13_change_0_0 13 rfl)
theorem dX13_change_14 : decode cX13_change 14 = .ok (.iload_n 3, 1) := zo_29 (zi_at zh_dX13_change_0_0 14 rfl)
theorem dX13_change_15 : decode cX13_change 15 = .ok (.aload_n 0, 1) := zo_42 (zi_at zh_dX13_change_0_0 15 rfl)
theorem dX13_change_16 : decode cX13_change 16 = .ok (.getfield 508, 3) := zo_180 (zi_at zh_dX13_change_16_16 0 rfl) (zi_at zh_dX13_change_16_16 1 rfl) (zi_at zh_dX13_change_16_16 2 rfl) rfl
theorem dX13_change_19 : decode cX13_change 19 = .ok (.if_icmp .ge 26, 3) := zo_162 (zi_at zh_dX13_change_16_16 3 rfl) (zi_at zh_dX13_change_16_16 4 rfl) (zi_at zh_dX13_change_16_16 5 rfl) rfl
theorem dX13_change_22 : decode cX13_change 22 = .ok (.aload_n 0, 1) := zo_42 (zi_at zh_dX13_change_16_16 6 rfl)
theorem dX13_change_23 : decode cX13_change 23 = .ok (.getfield 192, 3) := zo_180 (zi_at zh_dX13_change_16_16 7 rfl) (zi_at zh_dX13_change_16_16 8 rfl) (zi_at zh_dX13_change_16_16 9 rfl) rfl
theorem dX13_change_26 : decode cX13_change 26 = .ok (.iload_n 3, 1) := zo_29 (zi_at zh_dX13_change_16_16 10 rfl)
theorem dX13_change_27 : decode cX13_change 27 = .ok (.iaload, 1) := zo_46 (zi_at zh_dX13_change_16_16 11 rfl)
theorem dX13_change_28 : decode cX13_change 28 = .ok (.iload_n 2, 1) := zo_28 (zi_at zh_dX13_change_16_16 12 rfl)
theorem dX13_change_29 : decode cX13_change 29 = .ok (.if_icmp .ne 10, 3) := zo_160 (zi_at zh_dX13_change_16_16 13 rfl) (zi_at zh_dX13_change_16_16 14 rfl) (zi_at zh_dX13_change_16_16 15 rfl) rfl
theorem dX13_change_32 : decode cX13_change 32 = .ok (.aload_n 0, 1) := zo_42 (zi_at zh_dX13_change_32_32 0 rfl)
theorem dX13_change_33 : decode cX13_change 33 = .ok (.getfield 207, 3) := zo_180 (zi_at zh_dX13_change_32_32 1 rfl) (zi_at zh_dX13_change_32_32 2 rfl) (zi_at zh_dX13_change_32_32 3 rfl) rfl
theorem dX13_change_36 : decode cX13_change 36 = .ok (.iload_n 3, 1) := zo_29 (zi_at zh_dX13_change_32_32 4 rfl)
theorem dX13_change_37 : decode cX13_change 37 = .ok (.iaload, 1) := zo_46 (zi_at zh_dX13_change_32_32 5 rfl)
theorem dX13_change_38 : decode cX13_change 38 = .ok (.ireturn, 1) := zo_172 (zi_at zh_dX13_change_32_32 6 rfl)
theorem dX13_change_39 : decode cX13_change 39 = .ok (.iinc 3 1, 3) := zo_132 (zi_at zh_dX13_change_32_32 7 rfl) (zi_at zh_dX13_change_32_32 8 rfl) (zi_at zh_dX13_change_32_32 9 rfl) rfl
theorem dX13_change_42 : decode cX13_change 42 = .ok (.goto (-28), 3) := zo_167 (zi_at zh_dX13_change_32_32 10 rfl) (zi_at zh_dX13_change_32_32 11 rfl) (zi_at zh_dX13_change_32_32 12 rfl) rfl
theorem dX13_change_45 : decode cX13_change 45 = .ok (.ldc_w 431, 3) := zo_19 (zi_at zh_dX13_change_32_32 13 rfl) (zi_at zh_dX13_change_32_32 14 rfl) (zi_at zh_dX13_change_32_32 15 rfl) rfl
theorem dX13_change_48 : decode cX13_change 48 = .ok (.ireturn, 1) := zo_172 (zi_at zh_dX13_change_48_48 0 rfl)
theorem hz_yX13_findEven_1 : yX13_findEven.cls ≠ "java/lang/invoke/MethodHandle" ∧ yX13_findEven.cls ≠ "java/lang/invoke/VarHandle" ∧ (parseMethodDescriptor yX13_findEven.desc).map (fun d => d.parameters.length) = some 1 := by decide +kernel

def v_tryChangesX : List Cond := .code yX13_tryChanges cX13_tryChanges 9 none :: vA
abbrev rm_tryChangesX (n : Nat) : Room := { frames := 2 * n + 1, cells := 0, slots := 0, locals := 40 * (2 * n + 1) }
def w_tryChangesX : Nat → Nat → Bool := wl [64, 65] [(0, 88), (0, 89)]
def C_tryChangesX (l : Launch) (n : Nat) : Prop := ∀ (dC : Nat → ClassId) (dI : Nat → Nat → Nat) (cT : Nat → ClassId) (ad : Nat → Nat) (E : Nat → va_E) (sz : Nat) (a0 : Int32) (N : Nat) (hI0 : IX cT shM spM 72 ad E) (hh0 : 0 ≤ a0.toInt ∧ a0.toInt ≤ 4) (hh1 : a0.toInt + (n : Int) = 4) (hh2 : a0.toInt ≤ (xi (E 0) 86).toInt) (hh3 : ∃ b9 : Nat, N = b9 * p7 ((xi (E 0) 86).toNatClampNeg - a0.toNatClampNeg)) (hh4 : ∀ s9 : Nat, s9 < a0.toNatClampNeg → (xi (E 64) s9).toInt = ((dg7 (xi (E 0) 86).toNatClampNeg N s9 : Nat) : Int) - 3) (hh5 : TyI (sprM E (xi (E 0) 86).toNatClampNeg) (smF (xi (E 0) 86).toNatClampNeg) (xi (E 0) 86).toNatClampNeg N (xi (E 0) 88).toInt (xi (E 0) 89).toInt (fun s9 => (xi (E 65) s9).toInt + 3)) (hh6 : evN E (xi (E 0) 86).toNatClampNeg), Met l yX13_tryChanges v_tryChangesX (rm_tryChangesX n) (va_Pc [.ref (ad 0), .int a0] (HW dC dI (TYM cT) 72 ad E sz)) (va_Qv (S := Nat → va_E) (fun u => IX cT shM spM 72 ad u ∧ Kp w_tryChangesX E u ∧ ((BsK (sprM E (xi (E 0) 86).toNatClampNeg) (smF (xi (E 0) 86).toNatClampNeg) (xi (E 0) 86).toNatClampNeg (N + p7 ((xi (E 0) 86).toNatClampNeg - a0.toNatClampNeg)) (xi (u 0) 88).toInt (xi (u 0) 89).toInt (fun s9 => (xi (u 65) s9).toInt + 3)) ∧ (∀ s9 : Nat, s9 < a0.toNatClampNeg → xi (u 64) s9 = xi (E 64) s9))) (HB dC dI 72 ad) (va_A (WX 72 ad E) sz)) 0 0 (va_A (WX 72 ad E) sz)
set_option maxHeartbeats 4000000 in
set_option maxRecDepth 100000 in
theorem q_tryChangesX (l : Launch) (n : Nat) (gR : ∀ k, k < n → C_tryChangesX l k) : C_tryChangesX l n := by
  intro dC dI cT ad E sz a0 N hI0 hh0 hh1 hh2 hh3 hh4 hh5 hh6
  refine Met.ofW (cc := cX13_tryChanges) (maxL := 9) (ret := none) (by decide) rfl ?_
  intro p e s m args below meth c s₁ B hml hv
  obtain ⟨hargs, hsz, hP, hK, hD0, hEV⟩ := hv
  subst hsz
  have hx := B.exec
  have hb := B.bytes
  have hr := B.returns
  have hts := atoms_spec (ws := v_tryChangesX) B.pre
  have hown : s.vm.findClass RX13 = some m.cls := findClass_of_methodNamed B.named
  have hlocks := B.notSynchronized
  have hinX13 : ∀ w ∈ u_ws RX13 TX13 97, w ∈ v_tryChangesX := fun w h => vA_in _ w (in_X13 w h)
  generalize hAe : va_A (WX 72 ad E) s.heap.size = A at hEV ⊢
  have hA : ∀ q : Nat, s.heap.size ≤ q → A q := fun q h => by rw [← hAe]; exact Or.inr h
  have hD : va_D A (WX 72 ad E) := by rw [← hAe]; exact hD0.self
  have hS : va_S A s.heap s.heap [] := va_S.rf
  have hI := hI0
  have hKp : Kp w_tryChangesX E E := Kp.rf
  have hl := lv_entry ([.ref (ad 0), .int a0]) (n := 9) (Nat.le_of_ble_eq_true rfl)
  obtain ⟨Q, hQ⟩ : ∃ Q, Q = MQ below (va_Qv (S := Nat → va_E) (fun u => IX cT shM spM 72 ad u ∧ Kp w_tryChangesX E u ∧ ((BsK (sprM E (xi (E 0) 86).toNatClampNeg) (smF (xi (E 0) 86).toNatClampNeg) (xi (E 0) 86).toNatClampNeg (N + p7 ((xi (E 0) 86).toNatClampNeg - a0.toNatClampNeg)) (xi (u 0) 88).toInt (xi (u 0) 89).toInt (fun s9 => (xi (u 65) s9).toInt + 3)) ∧ (∀ s9 : Nat, s9 < a0.toNatClampNeg → xi (u 64) s9 = xi (E 64) s9))) (HB dC dI 72 ad) (A)) args s 0 0 (A) := ⟨_, rfl⟩
  rw [← hQ, show entryFrame m args 9 = _ from (congrArg (fun z => entryFrame m z 9) hargs).trans (lg_entry_eq _ _ _)]
  generalize (lg_sl ([.ref (ad 0), .int a0]) ++ List.replicate (9 - (lg_sl ([.ref (ad 0), .int a0])).length) Slot.unset).toArray = ls at hl ⊢
  have hl : lv_has ls 9 [(0, .ref (ad 0)), (1, .int a0)] := hl
  obtain ⟨g1, hg1⟩ : ∃ g, xi (E 64) = g := ⟨_, rfl⟩
  obtain ⟨g2, hg2⟩ : ∃ g, xi (E 65) = g := ⟨_, rfl⟩
  obtain ⟨y3, ey3⟩ : ∃ y, xi (E 0) 88 = y := ⟨_, rfl⟩
  have fy3 : xv (E 0) 88 = .int y3 := (hI.fi 0 (Nat.le_of_ble_eq_true rfl) rfl (Nat.le_of_ble_eq_true rfl) rfl).trans (congrArg Value.int ey3)
  obtain ⟨y4, ey4⟩ : ∃ y, xi (E 0) 89 = y := ⟨_, rfl⟩
  have fy4 : xv (E 0) 89 = .int y4 := (hI.fi 0 (Nat.le_of_ble_eq_true rfl) rfl (Nat.le_of_ble_eq_true rfl) rfl).trans (congrArg Value.int ey4)
  have z0z : (0 : Int32).toInt = 0 := rfl
  have ibm : 0 ≤ (xi (E 0) 86).toInt ∧ (xi (E 0) 86).toInt ≤ 4 := hI0.iv 0 (Nat.le_of_ble_eq_true rfl) rfl (Nat.le_of_ble_eq_true rfl) rfl
  have ibr : 0 ≤ (xi (E 0) 87).toInt ∧ (xi (E 0) 87).toInt ≤ 20 := hI0.iv 0 (Nat.le_of_ble_eq_true rfl) rfl (Nat.le_of_ble_eq_true rfl) rfl
  have k5 : TyI (sprM E (xi (E 0) 86).toNatClampNeg) (smF (xi (E 0) 86).toNatClampNeg) (xi (E 0) 86).toNatClampNeg N y3.toInt y4.toInt (fun s9 => (g2 s9).toInt + 3) := by have h9 := hh5; rw [show xi (E 0) 88 = y3 from vi_e fy3, show xi (E 0) 89 = y4 from vi_e fy4, show xi (E 65) = g2 from hg2] at h9; exact h9
  have k6 : ∀ s9 : Nat, s9 < a0.toNatClampNeg → (g1 s9).toInt = ((dg7 (xi (E 0) 86).toNatClampNeg N s9 : Nat) : Int) - 3 := by have h9 := hh4; rw [show xi (E 64) = g1 from hg1] at h9; exact h9
  have k7 : ∀ i9 : Nat, 0 ≤ sprM E (xi (E 0) 86).toNatClampNeg i9 := sprM_nn hI0 (by rw [tn_]; omega) (by rw [tn_]; omega) hh6
  refine lv_iload_n hx hb dX13_tryChanges_0 rfl (lv_at hl 1 rfl) ?_
  refine lv_aload_n hx hb dX13_tryChanges_1 rfl (lv_at hl 0 rfl) ?_
  have i8 : 0 ≤ (xi (E 0) 86).toInt ∧ (xi (E 0) 86).toInt ≤ 4 := hI0.iv 0 (Nat.le_of_ble_eq_true rfl) rfl (Nat.le_of_ble_eq_true rfl) rfl
  refine th_get (ci := 14) (C := RX13) (T := TX13) (N := 97) (v := .int (xi (E 0) 86)) hx hb hts hinX13 hown hK hP hI 0 (Nat.le_of_ble_eq_true rfl) rfl rfl 86 (Nat.le_of_ble_eq_true rfl) (hts _ (vA_in _ _ (in_27 _ (zs16 (zs4 (zs1 (zs1 (zs0)))))))) (fun _ h9 => h9) (th_v0 hKp hI0 0 (Nat.le_of_ble_eq_true rfl) rfl (Nat.le_of_ble_eq_true rfl) rfl rfl) dX13_tryChanges_2 ?_
  refine lv_icmp_ge (tgt := 37) hx hb dX13_tryChanges_5 (by decide) (fun c9 => ?_) (fun c9 => ?_)
  · --5 taken
    have t10 : (xi (E 0) 86).toInt ≤ a0.toInt := ti_le c9
    have k11 : a0.toNatClampNeg = (xi (E 0) 86).toNatClampNeg := by rw [tn_, tn_]; omega
    have k12 : ∀ s9 : Nat, s9 < (xi (E 0) 86).toNatClampNeg → (g1 s9).toInt = ((dg7 (xi (E 0) 86).toNatClampNeg N s9 : Nat) : Int) - 3 := by have h9 := k6; rw [k11] at h9; exact h9
    refine lv_iconst (v := 0) hx hb dX13_tryChanges_37 (by decide) ?_
    refine lv_istore_n (lv' := [(2, .int 0), (0, .ref (ad 0)), (1, .int a0)]) hx hb dX13_tryChanges_38 rfl hl (by decide) rfl (fun ls hl => ?_)
    refine lv_iconst (v := 0) hx hb dX13_tryChanges_39 (by decide) ?_
    refine lv_istore_n (lv' := [(3, .int 0), (2, .int 0), (0, .ref (ad 0)), (1, .int a0)]) hx hb dX13_tryChanges_40 rfl hl (by decide) rfl (fun ls hl => ?_)
    refine lv_iconst (v := 0) hx hb dX13_tryChanges_41 (by decide) ?_
    refine lv_istore (lv' := [(4, .int 0), (3, .int 0), (2, .int 0), (0, .ref (ad 0)), (1, .int a0)]) hx hb dX13_tryChanges_42 hl (by decide) rfl (fun ls hl => ?_)
    have hL44 : ∀ d : Nat, ∀ (v44_4 : Int32) (v44_3 : Int32) (H : Heap) (locs : List Loc) (ls : Array Slot), 0 ≤ v44_4.toInt ∧ v44_4.toInt ≤ 4 → 0 ≤ v44_3.toInt ∧ v44_3.toInt ≤ 12 → v44_3.toInt = sumF (fun j => ab (((dg7 (xi (E 0) 86).toNatClampNeg N j : Nat) : Int) - 3)) v44_4.toNatClampNeg → 0 ≤ v44_3.toInt ∧ v44_3.toInt ≤ 3 * v44_4.toInt → v44_4.toInt ≤ (xi (E 0) 86).toInt → 4 - v44_4.toInt < (d : Int) → va_P (dC, dI) vwCl (WX 72 ad E) H → va_S A s.heap H locs → lv_has ls 9 [(4, .int v44_4), (3, .int v44_3), (2, .int 0), (0, .ref (ad 0)), (1, .int a0)] → W p l e (headSpec v_tryChangesX (rm_tryChangesX n)).room s m args below meth c H locs 0 0 Q (F0 m 44 ls []) := by
      intro d
      induction d with
      | zero =>
        intro v44_4 v44_3 H locs ls hv44_4 hv44_3 hx44_0 hx44_1 hx44_2 hx44_3 hP hS hl
        exact absurd hx44_3 (by first | exact ms_zu hv44_4.2 | omega)
      | succ d ih44 =>
        intro v44_4 v44_3 H locs ls hv44_4 hv44_3 hx44_0 hx44_1 hx44_2 hx44_3 hP hS hl
        refine lv_iload hx hb dX13_tryChanges_44 (lv_at hl 0 rfl) ?_
        refine lv_aload_n hx hb dX13_tryChanges_46 rfl (lv_at hl 3 rfl) ?_
        refine th_get (ci := 14) (C := RX13) (T := TX13) (N := 97) (v := .int (xi (E 0) 86)) hx hb hts hinX13 hown hK hP hI 0 (Nat.le_of_ble_eq_true rfl) rfl rfl 86 (Nat.le_of_ble_eq_true rfl) (hts _ (vA_in _ _ (in_27 _ (zs16 (zs4 (zs1 (zs1 (zs0)))))))) (fun _ h9 => h9) (th_v0 hKp hI0 0 (Nat.le_of_ble_eq_true rfl) rfl (Nat.le_of_ble_eq_true rfl) rfl rfl) dX13_tryChanges_47 ?_
        refine lv_icmp_ge (tgt := 72) hx hb dX13_tryChanges_50 (by decide) (fun c13 => ?_) (fun c13 => ?_)
        · --50 taken
          have t14 : (xi (E 0) 86).toInt ≤ v44_4.toInt := ti_le c13
          have k15 : v44_3.toInt = smF (xi (E 0) 86).toNatClampNeg N := by have h9 := hx44_0; rw [show v44_4.toNatClampNeg = (xi (E 0) 86).toNatClampNeg by rw [tn_, tn_]; omega] at h9; exact h9
          refine lv_iconst (v := 0) hx hb dX13_tryChanges_72 (by decide) ?_
          refine lv_istore (lv' := [(4, .int 0), (3, .int v44_3), (2, .int 0), (0, .ref (ad 0)), (1, .int a0)]) hx hb dX13_tryChanges_73 hl (by decide) rfl (fun ls hl => ?_)
          have hL75 : ∀ d : Nat, ∀ (v75_4 : Int32) (v75_2 : Int32) (H : Heap) (locs : List Loc) (ls : Array Slot), 0 ≤ v75_4.toInt ∧ v75_4.toInt ≤ 20 → 0 ≤ v75_2.toInt ∧ v75_2.toInt ≤ 8012000 → v75_2.toInt = sumF (fun k => xtF (fun j => evM (xi (E 62)) (xi (E 63)) k j (dg7 (xi (E 0) 86).toNatClampNeg N j)) (xi (E 0) 86).toNatClampNeg) v75_4.toNatClampNeg → 0 ≤ v75_2.toInt ∧ v75_2.toInt ≤ 400600 * v75_4.toInt → v75_4.toInt ≤ (xi (E 0) 87).toInt → 20 - v75_4.toInt < (d : Int) → va_P (dC, dI) vwCl (WX 72 ad E) H → va_S A s.heap H locs → lv_has ls 9 [(4, .int v75_4), (3, .int v44_3), (2, .int v75_2), (0, .ref (ad 0)), (1, .int a0)] → W p l e (headSpec v_tryChangesX (rm_tryChangesX n)).room s m args below meth c H locs 0 0 Q (F0 m 75 ls []) := by
            intro d
            induction d with
            | zero =>
              intro v75_4 v75_2 H locs ls hv75_4 hv75_2 hx75_0 hx75_1 hx75_2 hx75_3 hP hS hl
              exact absurd hx75_3 (by first | exact ms_zu hv75_4.2 | omega)
            | succ d ih75 =>
              intro v75_4 v75_2 H locs ls hv75_4 hv75_2 hx75_0 hx75_1 hx75_2 hx75_3 hP hS hl
              refine lv_iload hx hb dX13_tryChanges_75 (lv_at hl 0 rfl) ?_
              refine lv_aload_n hx hb dX13_tryChanges_77 rfl (lv_at hl 3 rfl) ?_
              have i16 : 0 ≤ (xi (E 0) 87).toInt ∧ (xi (E 0) 87).toInt ≤ 20 := hI0.iv 0 (Nat.le_of_ble_eq_true rfl) rfl (Nat.le_of_ble_eq_true rfl) rfl
              refine th_get (ci := 14) (C := RX13) (T := TX13) (N := 97) (v := .int (xi (E 0) 87)) hx hb hts hinX13 hown hK hP hI 0 (Nat.le_of_ble_eq_true rfl) rfl rfl 87 (Nat.le_of_ble_eq_true rfl) (hts _ (vA_in _ _ (in_27 _ (zs16 (zs4 (zs4 (zs4 (zs1 (zs0))))))))) (fun _ h9 => h9) (th_v0 hKp hI0 0 (Nat.le_of_ble_eq_true rfl) rfl (Nat.le_of_ble_eq_true rfl) rfl rfl) dX13_tryChanges_78 ?_
              refine lv_icmp_ge (tgt := 205) hx hb dX13_tryChanges_81 (by decide) (fun c17 => ?_) (fun c17 => ?_)
              · --81 taken
                have t18 : (xi (E 0) 87).toInt ≤ v75_4.toInt := ti_le c17
                have k19 : v75_2.toInt = sprM E (xi (E 0) 86).toNatClampNeg N := by have h9 := hx75_0; rw [show v75_4.toNatClampNeg = (xi (E 0) 87).toNatClampNeg by rw [tn_, tn_]; omega] at h9; exact h9
                refine lv_aload_n hx hb dX13_tryChanges_205 rfl (lv_at hl 3 rfl) ?_
                refine th_get (ci := 14) (C := RX13) (T := TX13) (N := 97) (v := .int y3) hx hb hts hinX13 hown hK hP hI 0 (Nat.le_of_ble_eq_true rfl) rfl rfl 88 (Nat.le_of_ble_eq_true rfl) (hts _ (vA_in _ _ (in_27 _ (zs16 (zs16 (zs1 (zs1 (zs0)))))))) (fun _ h9 => h9) fy3 dX13_tryChanges_206 ?_
                refine lv_iconst (v := -1) hx hb dX13_tryChanges_209 (by decide) ?_
                refine lv_icmp_eq (tgt := 238) hx hb dX13_tryChanges_210 (by decide) (fun c20 => ?_) (fun c20 => ?_)
                · --210 taken
                  have t21 : y3.toInt = -1 := ti_eq c20
                  have i22 : -1 ≤ y3.toInt ∧ y3.toInt ≤ -1 := iv_eqi t21 (iv_all _) (il_ (-1)) (by decide)
                  refine lv_aload_n hx hb dX13_tryChanges_238 rfl (lv_at hl 3 rfl) ?_
                  refine lv_iload_n hx hb dX13_tryChanges_239 rfl (lv_at hl 2 rfl) ?_
                  refine th_put (ci := 14) (C := RX13) (T := TX13) (N := 97) (v := .int v75_2) (ty := .int) hx hb hts hinX13 tyX13 tyX13_ok nmX13 hown hK hP (WX_D hD) hS hI 0 (Nat.le_of_ble_eq_true rfl) rfl rfl 88 (Nat.le_of_ble_eq_true rfl) (hts _ (vA_in _ _ (in_27 _ (zs16 (zs16 (zs1 (zs1 (zs0)))))))) (fun _ h9 => h9) rfl (by decide +kernel) rfl rfl (okI rfl (iv_w hv75_2 (by decide))) dX13_tryChanges_240 (fun H locs E23 pw24 hI hP hS => ?_)
                  have hKp := hKp.pw pw24 rfl
                  refine lv_aload_n hx hb dX13_tryChanges_243 rfl (lv_at hl 3 rfl) ?_
                  refine lv_iload_n hx hb dX13_tryChanges_244 rfl (lv_at hl 1 rfl) ?_
                  refine th_put (ci := 14) (C := RX13) (T := TX13) (N := 97) (v := .int v44_3) (ty := .int) hx hb hts hinX13 tyX13 tyX13_ok nmX13 hown hK hP (WX_D hD) hS hI 0 (Nat.le_of_ble_eq_true rfl) rfl rfl 89 (Nat.le_of_ble_eq_true rfl) (hts _ (vA_in _ _ (in_30 _ (zs4 (zs0))))) (fun _ h9 => h9) rfl (by decide +kernel) rfl rfl (okI rfl (iv_w hv44_3 (by decide))) dX13_tryChanges_245 (fun H locs E25 pw26 hI hP hS => ?_)
                  have hKp := hKp.pw pw26 rfl
                  refine lv_iconst (v := 0) hx hb dX13_tryChanges_248 (by decide) ?_
                  refine lv_istore (lv' := [(4, .int 0), (3, .int v44_3), (2, .int v75_2), (0, .ref (ad 0)), (1, .int a0)]) hx hb dX13_tryChanges_249 hl (by decide) rfl (fun ls hl => ?_)
                  have hL251 : ∀ d : Nat, ∀ (g251_65 : Nat → Int32) (v251_4 : Int32) (E251_ : Nat → va_E) (H : Heap) (locs : List Loc) (ls : Array Slot), 0 ≤ v251_4.toInt ∧ v251_4.toInt ≤ 4 → (∀ s9 : Nat, s9 < v251_4.toNatClampNeg → g251_65 s9 = g1 s9) → v251_4.toInt ≤ (xi (E 0) 86).toInt → 4 - v251_4.toInt < (d : Int) → IX cT shM spM 72 ad E251_ → Kp w_tryChangesX E E251_ → xv (E251_ 0) 88 = .int v75_2 → xv (E251_ 0) 89 = .int v44_3 → xi (E251_ 64) = g1 → xi (E251_ 65) = g251_65 → va_P (dC, dI) vwCl (WX 72 ad E251_) H → va_S A s.heap H locs → lv_has ls 9 [(4, .int v251_4), (3, .int v44_3), (2, .int v75_2), (0, .ref (ad 0)), (1, .int a0)] → W p l e (headSpec v_tryChangesX (rm_tryChangesX n)).room s m args below meth c H locs 0 0 Q (F0 m 251 ls []) := by
                    intro d
                    induction d with
                    | zero =>
                      intro g251_65 v251_4 E251_ H locs ls hv251_4 hx251_0 hx251_1 hx251_2 hI hKp hs251_0_88 hs251_0_89 hr251_64 hr251_65 hP hS hl
                      exact absurd hx251_2 (by first | exact ms_zu hv251_4.2 | omega)
                    | succ d ih251 =>
                      intro g251_65 v251_4 E251_ H locs ls hv251_4 hx251_0 hx251_1 hx251_2 hI hKp hs251_0_88 hs251_0_89 hr251_64 hr251_65 hP hS hl
                      refine lv_iload hx hb dX13_tryChanges_251 (lv_at hl 0 rfl) ?_
                      refine lv_aload_n hx hb dX13_tryChanges_253 rfl (lv_at hl 3 rfl) ?_
                      refine th_get (ci := 14) (C := RX13) (T := TX13) (N := 97) (v := .int (xi (E 0) 86)) hx hb hts hinX13 hown hK hP hI 0 (Nat.le_of_ble_eq_true rfl) rfl rfl 86 (Nat.le_of_ble_eq_true rfl) (hts _ (vA_in _ _ (in_27 _ (zs16 (zs4 (zs1 (zs1 (zs0)))))))) (fun _ h9 => h9) (th_v0 hKp hI0 0 (Nat.le_of_ble_eq_true rfl) rfl (Nat.le_of_ble_eq_true rfl) rfl rfl) dX13_tryChanges_254 ?_
                      refine lv_icmp_ge (tgt := 280) hx hb dX13_tryChanges_257 (by decide) (fun c27 => ?_) (fun c27 => ?_)
                      · --257 taken
                        have t28 : (xi (E 0) 86).toInt ≤ v251_4.toInt := ti_le c27
                        rw [hQ]
                        exact W.vret hx hb hr (fun t ht hW => ⟨⟨E251_, rfl, ⟨hI, hKp, ⟨(by rw [show xi (E251_ 0) 88 = v75_2 from vi_e hs251_0_88, show xi (E251_ 0) 89 = v44_3 from vi_e hs251_0_89, show xi (E251_ 65) = g251_65 from hr251_65]; exact (BsK.new (k5.elim (fun q9 => Or.inl q9.1) (fun q9 => Or.inr ⟨q9, by have h8 := q9.nn k7; omega⟩)) k19 k15 (fun s9 h9 => by show (g251_65 s9).toInt + 3 = _; rw [hx251_0 s9 (by rw [tn_] at h9 ⊢; omega)]; have h8 := k12 s9 h9; omega) (by rw [k11, Nat.sub_self]; rfl))), (fun s9 h9 => by rw [show xi (E251_ 64) = g1 from hr251_64, show xi (E 64) = g1 from hg1])⟩⟩, by show va_P (dC, dI) vwCl (WX 72 ad E251_) t.heap; rw [ht]; exact hP⟩, hS.F ht⟩) hS.2.2 dX13_tryChanges_280
                      · --257 not
                        have t29 : v251_4.toInt < (xi (E 0) 86).toInt := ti_nle c27
                        have i30 : 0 ≤ v251_4.toInt ∧ v251_4.toInt ≤ 3 := iv_lt_l t29 hv251_4 i8 (by decide)
                        have i31 : 1 ≤ (xi (E 0) 86).toInt ∧ (xi (E 0) 86).toInt ≤ 4 := iv_lt_r t29 hv251_4 i8 (by decide)
                        refine lv_aload_n hx hb dX13_tryChanges_260 rfl (lv_at hl 3 rfl) ?_
                        refine th_get (ci := 14) (C := RX13) (T := TX13) (N := 97) (v := .ref (ad 65)) hx hb hts hinX13 hown hK hP hI 0 (Nat.le_of_ble_eq_true rfl) rfl rfl 85 (Nat.le_of_ble_eq_true rfl) (hts _ (vA_in _ _ (in_27 _ (zs16 (zs4 (zs4 (zs0))))))) (fun _ h9 => h9) (hI.fr 0 (Nat.le_of_ble_eq_true rfl) rfl (Nat.le_of_ble_eq_true rfl) 65 rfl) dX13_tryChanges_261 ?_
                        refine lv_iload hx hb dX13_tryChanges_264 (lv_at hl 0 rfl) ?_
                        refine lv_aload_n hx hb dX13_tryChanges_266 rfl (lv_at hl 3 rfl) ?_
                        refine th_get (ci := 14) (C := RX13) (T := TX13) (N := 97) (v := .ref (ad 64)) hx hb hts hinX13 hown hK hP hI 0 (Nat.le_of_ble_eq_true rfl) rfl rfl 84 (Nat.le_of_ble_eq_true rfl) (hts _ (vA_in _ _ (in_30 _ (zs1 (zs0))))) (fun _ h9 => h9) (hI.fr 0 (Nat.le_of_ble_eq_true rfl) rfl (Nat.le_of_ble_eq_true rfl) 64 rfl) dX13_tryChanges_267 ?_
                        refine lv_iload hx hb dX13_tryChanges_270 (lv_at hl 0 rfl) ?_
                        have n33 : vp_in v251_4 4 := (iv_in (n := 4) i30 (by decide))
                        refine th_iald hx hb hK hP hI 64 (Nat.le_of_ble_eq_true rfl) rfl rfl n33 dX13_tryChanges_272 (fun y32 ey32 => ?_)
                        have iy32 : -3 ≤ y32.toInt ∧ y32.toInt ≤ 3 := hI.el 64 (Nat.le_of_ble_eq_true rfl) rfl n33 (fun _ => rfl) ey32
                        have ey32 := ey32.trans (congrFun hr251_64 _)
                        have n34 : vp_in v251_4 4 := (iv_in (n := 4) i30 (by decide))
                        refine th_iast hx hb hK hP (WX_D hD) hS hI 65 (Nat.le_of_ble_eq_true rfl) rfl rfl n34 (okI rfl iy32) dX13_tryChanges_273 (fun H locs E35 pw36 hI hP hS => ?_)
                        have hKp := hKp.pw pw36 rfl
                        obtain ⟨g37, eg37⟩ : ∃ z : Nat → Int32, z = upd g251_65 v251_4.toNatClampNeg y32 := ⟨_, rfl⟩
                        have hg37 : xi (E35 65) = g37 := by rw [pw36.eu, hr251_65, eg37]
                        obtain ⟨y38, ey38⟩ : ∃ y : Int32, y = v251_4 + (1 : Int32) := ⟨_, rfl⟩
                        obtain ⟨ty38, iy38⟩ := ti_add (e := 1) (f := 4) i30 ln_1 ey38 (by decide)
                        have ty38 : y38.toInt = v251_4.toInt + 1 := ty38
                        have iy38 : 1 ≤ y38.toInt ∧ y38.toInt ≤ 4 := iy38
                        refine lv_iinc (v := y38) (lv' := [(4, .int y38), (3, .int v44_3), (2, .int v75_2), (0, .ref (ad 0)), (1, .int a0)]) hx hb dX13_tryChanges_274 hl (k := 0) rfl (by rw [ey38]; rfl) (by decide) rfl (fun ls hl => ?_)
                        refine lv_goto (tgt := 251) hx hb dX13_tryChanges_277 (by decide) ?_
                        exact ih251 g37 y38 E35 _ _ _ (iv_w iy38 (by decide)) (up_s (P := fun s9 z9 => z9 = g1 s9) hx251_0 eg37 ey32 (by omega) (by omega)) (by omega) (by first | exact ms_su hx251_2 ty38 (by decide) | omega) hI hKp ((pw36.2 0 88 (fun q9 => absurd q9.1 (Nat.ne_of_beq_eq_false rfl))).trans hs251_0_88) ((pw36.2 0 89 (fun q9 => absurd q9.1 (Nat.ne_of_beq_eq_false rfl))).trans hs251_0_89) ((pw36.ef 64 (Nat.ne_of_beq_eq_false rfl)).trans hr251_64) hg37 hP hS (lv_sub hl [0, 1, 2, 3, 4] rfl)
                  exact hL251 (5) g2 (0 : Int32) E25 _ _ _ (iv_w ln_0 (by decide)) (fun s9 h9 => absurd h9 (Nat.not_lt_zero s9)) (by have z9 := ln_0; omega) (by have h9 := ln_0; first | exact ms_bu h9.1 (by decide) | omega) hI hKp ((pw26.2 0 88 (fun q9 => absurd q9.2 (Nat.ne_of_beq_eq_false rfl))).trans pw24.1) pw26.1 ((pw26.ef 64 (Nat.ne_of_beq_eq_false rfl)).trans ((pw24.ef 64 (Nat.ne_of_beq_eq_false rfl)).trans hg1)) ((pw26.ef 65 (Nat.ne_of_beq_eq_false rfl)).trans ((pw24.ef 65 (Nat.ne_of_beq_eq_false rfl)).trans hg2)) hP hS (lv_sub hl [0, 1, 2, 3, 4] rfl)
                · --210 not
                  have t39 : ¬ y3.toInt = -1 := ti_ne c20
                  refine lv_iload_n hx hb dX13_tryChanges_213 rfl (lv_at hl 2 rfl) ?_
                  refine lv_aload_n hx hb dX13_tryChanges_214 rfl (lv_at hl 3 rfl) ?_
                  refine th_get (ci := 14) (C := RX13) (T := TX13) (N := 97) (v := .int y3) hx hb hts hinX13 hown hK hP hI 0 (Nat.le_of_ble_eq_true rfl) rfl rfl 88 (Nat.le_of_ble_eq_true rfl) (hts _ (vA_in _ _ (in_27 _ (zs16 (zs16 (zs1 (zs1 (zs0)))))))) (fun _ h9 => h9) fy3 dX13_tryChanges_215 ?_
                  refine lv_icmp_gt (tgt := 237) hx hb dX13_tryChanges_218 (by decide) (fun c40 => ?_) (fun c40 => ?_)
                  · --218 taken
                    have t41 : y3.toInt < v75_2.toInt := ti_lt c40
                    have i42 : -2147483648 ≤ y3.toInt ∧ y3.toInt ≤ 8011999 := iv_lt_l t41 (iv_all _) hv75_2 (by decide)
                    rw [hQ]
                    exact W.vret hx hb hr (fun t ht hW => ⟨⟨E, rfl, ⟨hI, hKp, ⟨(by rw [show xi (E 0) 88 = y3 from vi_e fy3, show xi (E 0) 89 = y4 from vi_e fy4, show xi (E 65) = g2 from hg2]; exact (k5.elim (fun q9 => by exfalso; omega) (fun q9 => q9.keep (by omega) (fun s9 _ => rfl) (by rw [k11, Nat.sub_self]; rfl)))), (fun s9 _ => rfl)⟩⟩, by show va_P (dC, dI) vwCl (WX 72 ad E) t.heap; rw [ht]; exact hP⟩, hS.F ht⟩) hS.2.2 dX13_tryChanges_237
                  · --218 not
                    have t43 : v75_2.toInt ≤ y3.toInt := ti_nlt c40
                    have i44 : 0 ≤ y3.toInt ∧ y3.toInt ≤ 2147483647 := iv_le_r t43 hv75_2 (iv_all _) (by decide)
                    refine lv_iload_n hx hb dX13_tryChanges_221 rfl (lv_at hl 2 rfl) ?_
                    refine lv_aload_n hx hb dX13_tryChanges_222 rfl (lv_at hl 3 rfl) ?_
                    refine th_get (ci := 14) (C := RX13) (T := TX13) (N := 97) (v := .int y3) hx hb hts hinX13 hown hK hP hI 0 (Nat.le_of_ble_eq_true rfl) rfl rfl 88 (Nat.le_of_ble_eq_true rfl) (hts _ (vA_in _ _ (in_27 _ (zs16 (zs16 (zs1 (zs1 (zs0)))))))) (fun _ h9 => h9) fy3 dX13_tryChanges_223 ?_
                    refine lv_icmp_ne (tgt := 238) hx hb dX13_tryChanges_226 (by decide) (fun c45 => ?_) (fun c45 => ?_)
                    · --226 taken
                      have t46 : ¬ v75_2.toInt = y3.toInt := ti_ne c45
                      refine lv_aload_n hx hb dX13_tryChanges_238 rfl (lv_at hl 3 rfl) ?_
                      refine lv_iload_n hx hb dX13_tryChanges_239 rfl (lv_at hl 2 rfl) ?_
                      refine th_put (ci := 14) (C := RX13) (T := TX13) (N := 97) (v := .int v75_2) (ty := .int) hx hb hts hinX13 tyX13 tyX13_ok nmX13 hown hK hP (WX_D hD) hS hI 0 (Nat.le_of_ble_eq_true rfl) rfl rfl 88 (Nat.le_of_ble_eq_true rfl) (hts _ (vA_in _ _ (in_27 _ (zs16 (zs16 (zs1 (zs1 (zs0)))))))) (fun _ h9 => h9) rfl (by decide +kernel) rfl rfl (okI rfl (iv_w hv75_2 (by decide))) dX13_tryChanges_240 (fun H locs E47 pw48 hI hP hS => ?_)
                      have hKp := hKp.pw pw48 rfl
                      refine lv_aload_n hx hb dX13_tryChanges_243 rfl (lv_at hl 3 rfl) ?_
                      refine lv_iload_n hx hb dX13_tryChanges_244 rfl (lv_at hl 1 rfl) ?_
                      refine th_put (ci := 14) (C := RX13) (T := TX13) (N := 97) (v := .int v44_3) (ty := .int) hx hb hts hinX13 tyX13 tyX13_ok nmX13 hown hK hP (WX_D hD) hS hI 0 (Nat.le_of_ble_eq_true rfl) rfl rfl 89 (Nat.le_of_ble_eq_true rfl) (hts _ (vA_in _ _ (in_30 _ (zs4 (zs0))))) (fun _ h9 => h9) rfl (by decide +kernel) rfl rfl (okI rfl (iv_w hv44_3 (by decide))) dX13_tryChanges_245 (fun H locs E49 pw50 hI hP hS => ?_)
                      have hKp := hKp.pw pw50 rfl
                      refine lv_iconst (v := 0) hx hb dX13_tryChanges_248 (by decide) ?_
                      refine lv_istore (lv' := [(4, .int 0), (3, .int v44_3), (2, .int v75_2), (0, .ref (ad 0)), (1, .int a0)]) hx hb dX13_tryChanges_249 hl (by decide) rfl (fun ls hl => ?_)
                      have hL251 : ∀ d : Nat, ∀ (g251_65 : Nat → Int32) (v251_4 : Int32) (E251_ : Nat → va_E) (H : Heap) (locs : List Loc) (ls : Array Slot), 0 ≤ v251_4.toInt ∧ v251_4.toInt ≤ 4 → (∀ s9 : Nat, s9 < v251_4.toNatClampNeg → g251_65 s9 = g1 s9) → v251_4.toInt ≤ (xi (E 0) 86).toInt → 4 - v251_4.toInt < (d : Int) → IX cT shM spM 72 ad E251_ → Kp w_tryChangesX E E251_ → xv (E251_ 0) 88 = .int v75_2 → xv (E251_ 0) 89 = .int v44_3 → xi (E251_ 64) = g1 → xi (E251_ 65) = g251_65 → va_P (dC, dI) vwCl (WX 72 ad E251_) H → va_S A s.heap H locs → lv_has ls 9 [(4, .int v251_4), (3, .int v44_3), (2, .int v75_2), (0, .ref (ad 0)), (1, .int a0)] → W p l e (headSpec v_tryChangesX (rm_tryChangesX n)).room s m args below meth c H locs 0 0 Q (F0 m 251 ls []) := by
                        intro d
                        induction d with
                        | zero =>
                          intro g251_65 v251_4 E251_ H locs ls hv251_4 hx251_0 hx251_1 hx251_2 hI hKp hs251_0_88 hs251_0_89 hr251_64 hr251_65 hP hS hl
                          exact absurd hx251_2 (by first | exact ms_zu hv251_4.2 | omega)
                        | succ d ih251 =>
                          intro g251_65 v251_4 E251_ H locs ls hv251_4 hx251_0 hx251_1 hx251_2 hI hKp hs251_0_88 hs251_0_89 hr251_64 hr251_65 hP hS hl
                          refine lv_iload hx hb dX13_tryChanges_251 (lv_at hl 0 rfl) ?_
                          refine lv_aload_n hx hb dX13_tryChanges_253 rfl (lv_at hl 3 rfl) ?_
                          refine th_get (ci := 14) (C := RX13) (T := TX13) (N := 97) (v := .int (xi (E 0) 86)) hx hb hts hinX13 hown hK hP hI 0 (Nat.le_of_ble_eq_true rfl) rfl rfl 86 (Nat.le_of_ble_eq_true rfl) (hts _ (vA_in _ _ (in_27 _ (zs16 (zs4 (zs1 (zs1 (zs0)))))))) (fun _ h9 => h9) (th_v0 hKp hI0 0 (Nat.le_of_ble_eq_true rfl) rfl (Nat.le_of_ble_eq_true rfl) rfl rfl) dX13_tryChanges_254 ?_
                          refine lv_icmp_ge (tgt := 280) hx hb dX13_tryChanges_257 (by decide) (fun c51 => ?_) (fun c51 => ?_)
                          · --257 taken
                            have t52 : (xi (E 0) 86).toInt ≤ v251_4.toInt := ti_le c51
                            rw [hQ]
                            exact W.vret hx hb hr (fun t ht hW => ⟨⟨E251_, rfl, ⟨hI, hKp, ⟨(by rw [show xi (E251_ 0) 88 = v75_2 from vi_e hs251_0_88, show xi (E251_ 0) 89 = v44_3 from vi_e hs251_0_89, show xi (E251_ 65) = g251_65 from hr251_65]; exact (BsK.new (k5.elim (fun q9 => Or.inl q9.1) (fun q9 => Or.inr ⟨q9, by have h8 := q9.nn k7; omega⟩)) k19 k15 (fun s9 h9 => by show (g251_65 s9).toInt + 3 = _; rw [hx251_0 s9 (by rw [tn_] at h9 ⊢; omega)]; have h8 := k12 s9 h9; omega) (by rw [k11, Nat.sub_self]; rfl))), (fun s9 h9 => by rw [show xi (E251_ 64) = g1 from hr251_64, show xi (E 64) = g1 from hg1])⟩⟩, by show va_P (dC, dI) vwCl (WX 72 ad E251_) t.heap; rw [ht]; exact hP⟩, hS.F ht⟩) hS.2.2 dX13_tryChanges_280
                          · --257 not
                            have t53 : v251_4.toInt < (xi (E 0) 86).toInt := ti_nle c51
                            have i54 : 0 ≤ v251_4.toInt ∧ v251_4.toInt ≤ 3 := iv_lt_l t53 hv251_4 i8 (by decide)
                            have i55 : 1 ≤ (xi (E 0) 86).toInt ∧ (xi (E 0) 86).toInt ≤ 4 := iv_lt_r t53 hv251_4 i8 (by decide)
                            refine lv_aload_n hx hb dX13_tryChanges_260 rfl (lv_at hl 3 rfl) ?_
                            refine th_get (ci := 14) (C := RX13) (T := TX13) (N := 97) (v := .ref (ad 65)) hx hb hts hinX13 hown hK hP hI 0 (Nat.le_of_ble_eq_true rfl) rfl rfl 85 (Nat.le_of_ble_eq_true rfl) (hts _ (vA_in _ _ (in_27 _ (zs16 (zs4 (zs4 (zs0))))))) (fun _ h9 => h9) (hI.fr 0 (Nat.le_of_ble_eq_true rfl) rfl (Nat.le_of_ble_eq_true rfl) 65 rfl) dX13_tryChanges_261 ?_
                            refine lv_iload hx hb dX13_tryChanges_264 (lv_at hl 0 rfl) ?_
                            refine lv_aload_n hx hb dX13_tryChanges_266 rfl (lv_at hl 3 rfl) ?_
                            refine th_get (ci := 14) (C := RX13) (T := TX13) (N := 97) (v := .ref (ad 64)) hx hb hts hinX13 hown hK hP hI 0 (Nat.le_of_ble_eq_true rfl) rfl rfl 84 (Nat.le_of_ble_eq_true rfl) (hts _ (vA_in _ _ (in_30 _ (zs1 (zs0))))) (fun _ h9 => h9) (hI.fr 0 (Nat.le_of_ble_eq_true rfl) rfl (Nat.le_of_ble_eq_true rfl) 64 rfl) dX13_tryChanges_267 ?_
                            refine lv_iload hx hb dX13_tryChanges_270 (lv_at hl 0 rfl) ?_
                            have n57 : vp_in v251_4 4 := (iv_in (n := 4) i54 (by decide))
                            refine th_iald hx hb hK hP hI 64 (Nat.le_of_ble_eq_true rfl) rfl rfl n57 dX13_tryChanges_272 (fun y56 ey56 => ?_)
                            have iy56 : -3 ≤ y56.toInt ∧ y56.toInt ≤ 3 := hI.el 64 (Nat.le_of_ble_eq_true rfl) rfl n57 (fun _ => rfl) ey56
                            have ey56 := ey56.trans (congrFun hr251_64 _)
                            have n58 : vp_in v251_4 4 := (iv_in (n := 4) i54 (by decide))
                            refine th_iast hx hb hK hP (WX_D hD) hS hI 65 (Nat.le_of_ble_eq_true rfl) rfl rfl n58 (okI rfl iy56) dX13_tryChanges_273 (fun H locs E59 pw60 hI hP hS => ?_)
                            have hKp := hKp.pw pw60 rfl
                            obtain ⟨g61, eg61⟩ : ∃ z : Nat → Int32, z = upd g251_65 v251_4.toNatClampNeg y56 := ⟨_, rfl⟩
                            have hg61 : xi (E59 65) = g61 := by rw [pw60.eu, hr251_65, eg61]
                            obtain ⟨y62, ey62⟩ : ∃ y : Int32, y = v251_4 + (1 : Int32) := ⟨_, rfl⟩
                            obtain ⟨ty62, iy62⟩ := ti_add (e := 1) (f := 4) i54 ln_1 ey62 (by decide)
                            have ty62 : y62.toInt = v251_4.toInt + 1 := ty62
                            have iy62 : 1 ≤ y62.toInt ∧ y62.toInt ≤ 4 := iy62
                            refine lv_iinc (v := y62) (lv' := [(4, .int y62), (3, .int v44_3), (2, .int v75_2), (0, .ref (ad 0)), (1, .int a0)]) hx hb dX13_tryChanges_274 hl (k := 0) rfl (by rw [ey62]; rfl) (by decide) rfl (fun ls hl => ?_)
                            refine lv_goto (tgt := 251) hx hb dX13_tryChanges_277 (by decide) ?_
                            exact ih251 g61 y62 E59 _ _ _ (iv_w iy62 (by decide)) (up_s (P := fun s9 z9 => z9 = g1 s9) hx251_0 eg61 ey56 (by omega) (by omega)) (by omega) (by first | exact ms_su hx251_2 ty62 (by decide) | omega) hI hKp ((pw60.2 0 88 (fun q9 => absurd q9.1 (Nat.ne_of_beq_eq_false rfl))).trans hs251_0_88) ((pw60.2 0 89 (fun q9 => absurd q9.1 (Nat.ne_of_beq_eq_false rfl))).trans hs251_0_89) ((pw60.ef 64 (Nat.ne_of_beq_eq_false rfl)).trans hr251_64) hg61 hP hS (lv_sub hl [0, 1, 2, 3, 4] rfl)
                      exact hL251 (5) g2 (0 : Int32) E49 _ _ _ (iv_w ln_0 (by decide)) (fun s9 h9 => absurd h9 (Nat.not_lt_zero s9)) (by have z9 := ln_0; omega) (by have h9 := ln_0; first | exact ms_bu h9.1 (by decide) | omega) hI hKp ((pw50.2 0 88 (fun q9 => absurd q9.2 (Nat.ne_of_beq_eq_false rfl))).trans pw48.1) pw50.1 ((pw50.ef 64 (Nat.ne_of_beq_eq_false rfl)).trans ((pw48.ef 64 (Nat.ne_of_beq_eq_false rfl)).trans hg1)) ((pw50.ef 65 (Nat.ne_of_beq_eq_false rfl)).trans ((pw48.ef 65 (Nat.ne_of_beq_eq_false rfl)).trans hg2)) hP hS (lv_sub hl [0, 1, 2, 3, 4] rfl)
                    · --226 not
                      have t63 : v75_2.toInt = y3.toInt := ti_eq c45
                      have i64 : 0 ≤ y3.toInt ∧ y3.toInt ≤ 8012000 := iv_eqi t63.symm i44 hv75_2 (by decide)
                      refine lv_iload_n hx hb dX13_tryChanges_229 rfl (lv_at hl 1 rfl) ?_
                      refine lv_aload_n hx hb dX13_tryChanges_230 rfl (lv_at hl 3 rfl) ?_
                      refine th_get (ci := 14) (C := RX13) (T := TX13) (N := 97) (v := .int y4) hx hb hts hinX13 hown hK hP hI 0 (Nat.le_of_ble_eq_true rfl) rfl rfl 89 (Nat.le_of_ble_eq_true rfl) (hts _ (vA_in _ _ (in_30 _ (zs4 (zs0))))) (fun _ h9 => h9) fy4 dX13_tryChanges_231 ?_
                      refine lv_icmp_lt (tgt := 238) hx hb dX13_tryChanges_234 (by decide) (fun c65 => ?_) (fun c65 => ?_)
                      · --234 taken
                        have t66 : v44_3.toInt < y4.toInt := ti_lt c65
                        have i67 : 1 ≤ y4.toInt ∧ y4.toInt ≤ 2147483647 := iv_lt_r t66 hv44_3 (iv_all _) (by decide)
                        refine lv_aload_n hx hb dX13_tryChanges_238 rfl (lv_at hl 3 rfl) ?_
                        refine lv_iload_n hx hb dX13_tryChanges_239 rfl (lv_at hl 2 rfl) ?_
                        refine th_put (ci := 14) (C := RX13) (T := TX13) (N := 97) (v := .int v75_2) (ty := .int) hx hb hts hinX13 tyX13 tyX13_ok nmX13 hown hK hP (WX_D hD) hS hI 0 (Nat.le_of_ble_eq_true rfl) rfl rfl 88 (Nat.le_of_ble_eq_true rfl) (hts _ (vA_in _ _ (in_27 _ (zs16 (zs16 (zs1 (zs1 (zs0)))))))) (fun _ h9 => h9) rfl (by decide +kernel) rfl rfl (okI rfl (iv_w hv75_2 (by decide))) dX13_tryChanges_240 (fun H locs E68 pw69 hI hP hS => ?_)
                        have hKp := hKp.pw pw69 rfl
                        refine lv_aload_n hx hb dX13_tryChanges_243 rfl (lv_at hl 3 rfl) ?_
                        refine lv_iload_n hx hb dX13_tryChanges_244 rfl (lv_at hl 1 rfl) ?_
                        refine th_put (ci := 14) (C := RX13) (T := TX13) (N := 97) (v := .int v44_3) (ty := .int) hx hb hts hinX13 tyX13 tyX13_ok nmX13 hown hK hP (WX_D hD) hS hI 0 (Nat.le_of_ble_eq_true rfl) rfl rfl 89 (Nat.le_of_ble_eq_true rfl) (hts _ (vA_in _ _ (in_30 _ (zs4 (zs0))))) (fun _ h9 => h9) rfl (by decide +kernel) rfl rfl (okI rfl (iv_w hv44_3 (by decide))) dX13_tryChanges_245 (fun H locs E70 pw71 hI hP hS => ?_)
                        have hKp := hKp.pw pw71 rfl
                        refine lv_iconst (v := 0) hx hb dX13_tryChanges_248 (by decide) ?_
                        refine lv_istore (lv' := [(4, .int 0), (3, .int v44_3), (2, .int v75_2), (0, .ref (ad 0)), (1, .int a0)]) hx hb dX13_tryChanges_249 hl (by decide) rfl (fun ls hl => ?_)
                        have hL251 : ∀ d : Nat, ∀ (g251_65 : Nat → Int32) (v251_4 : Int32) (E251_ : Nat → va_E) (H : Heap) (locs : List Loc) (ls : Array Slot), 0 ≤ v251_4.toInt ∧ v251_4.toInt ≤ 4 → (∀ s9 : Nat, s9 < v251_4.toNatClampNeg → g251_65 s9 = g1 s9) → v251_4.toInt ≤ (xi (E 0) 86).toInt → 4 - v251_4.toInt < (d : Int) → IX cT shM spM 72 ad E251_ → Kp w_tryChangesX E E251_ → xv (E251_ 0) 88 = .int v75_2 → xv (E251_ 0) 89 = .int v44_3 → xi (E251_ 64) = g1 → xi (E251_ 65) = g251_65 → va_P (dC, dI) vwCl (WX 72 ad E251_) H → va_S A s.heap H locs → lv_has ls 9 [(4, .int v251_4), (3, .int v44_3), (2, .int v75_2), (0, .ref (ad 0)), (1, .int a0)] → W p l e (headSpec v_tryChangesX (rm_tryChangesX n)).room s m args below meth c H locs 0 0 Q (F0 m 251 ls []) := by
                          intro d
                          induction d with
                          | zero =>
                            intro g251_65 v251_4 E251_ H locs ls hv251_4 hx251_0 hx251_1 hx251_2 hI hKp hs251_0_88 hs251_0_89 hr251_64 hr251_65 hP hS hl
                            exact absurd hx251_2 (by first | exact ms_zu hv251_4.2 | omega)
                          | succ d ih251 =>
                            intro g251_65 v251_4 E251_ H locs ls hv251_4 hx251_0 hx251_1 hx251_2 hI hKp hs251_0_88 hs251_0_89 hr251_64 hr251_65 hP hS hl
                            refine lv_iload hx hb dX13_tryChanges_251 (lv_at hl 0 rfl) ?_
                            refine lv_aload_n hx hb dX13_tryChanges_253 rfl (lv_at hl 3 rfl) ?_
                            refine th_get (ci := 14) (C := RX13) (T := TX13) (N := 97) (v := .int (xi (E 0) 86)) hx hb hts hinX13 hown hK hP hI 0 (Nat.le_of_ble_eq_true rfl) rfl rfl 86 (Nat.le_of_ble_eq_true rfl) (hts _ (vA_in _ _ (in_27 _ (zs16 (zs4 (zs1 (zs1 (zs0)))))))) (fun _ h9 => h9) (th_v0 hKp hI0 0 (Nat.le_of_ble_eq_true rfl) rfl (Nat.le_of_ble_eq_true rfl) rfl rfl) dX13_tryChanges_254 ?_
                            refine lv_icmp_ge (tgt := 280) hx hb dX13_tryChanges_257 (by decide) (fun c72 => ?_) (fun c72 => ?_)
                            · --257 taken
                              have t73 : (xi (E 0) 86).toInt ≤ v251_4.toInt := ti_le c72
                              rw [hQ]
                              exact W.vret hx hb hr (fun t ht hW => ⟨⟨E251_, rfl, ⟨hI, hKp, ⟨(by rw [show xi (E251_ 0) 88 = v75_2 from vi_e hs251_0_88, show xi (E251_ 0) 89 = v44_3 from vi_e hs251_0_89, show xi (E251_ 65) = g251_65 from hr251_65]; exact (BsK.new (k5.elim (fun q9 => Or.inl q9.1) (fun q9 => Or.inr ⟨q9, by have h8 := q9.nn k7; omega⟩)) k19 k15 (fun s9 h9 => by show (g251_65 s9).toInt + 3 = _; rw [hx251_0 s9 (by rw [tn_] at h9 ⊢; omega)]; have h8 := k12 s9 h9; omega) (by rw [k11, Nat.sub_self]; rfl))), (fun s9 h9 => by rw [show xi (E251_ 64) = g1 from hr251_64, show xi (E 64) = g1 from hg1])⟩⟩, by show va_P (dC, dI) vwCl (WX 72 ad E251_) t.heap; rw [ht]; exact hP⟩, hS.F ht⟩) hS.2.2 dX13_tryChanges_280
                            · --257 not
                              have t74 : v251_4.toInt < (xi (E 0) 86).toInt := ti_nle c72
                              have i75 : 0 ≤ v251_4.toInt ∧ v251_4.toInt ≤ 3 := iv_lt_l t74 hv251_4 i8 (by decide)
                              have i76 : 1 ≤ (xi (E 0) 86).toInt ∧ (xi (E 0) 86).toInt ≤ 4 := iv_lt_r t74 hv251_4 i8 (by decide)
                              refine lv_aload_n hx hb dX13_tryChanges_260 rfl (lv_at hl 3 rfl) ?_
                              refine th_get (ci := 14) (C := RX13) (T := TX13) (N := 97) (v := .ref (ad 65)) hx hb hts hinX13 hown hK hP hI 0 (Nat.le_of_ble_eq_true rfl) rfl rfl 85 (Nat.le_of_ble_eq_true rfl) (hts _ (vA_in _ _ (in_27 _ (zs16 (zs4 (zs4 (zs0))))))) (fun _ h9 => h9) (hI.fr 0 (Nat.le_of_ble_eq_true rfl) rfl (Nat.le_of_ble_eq_true rfl) 65 rfl) dX13_tryChanges_261 ?_
                              refine lv_iload hx hb dX13_tryChanges_264 (lv_at hl 0 rfl) ?_
                              refine lv_aload_n hx hb dX13_tryChanges_266 rfl (lv_at hl 3 rfl) ?_
                              refine th_get (ci := 14) (C := RX13) (T := TX13) (N := 97) (v := .ref (ad 64)) hx hb hts hinX13 hown hK hP hI 0 (Nat.le_of_ble_eq_true rfl) rfl rfl 84 (Nat.le_of_ble_eq_true rfl) (hts _ (vA_in _ _ (in_30 _ (zs1 (zs0))))) (fun _ h9 => h9) (hI.fr 0 (Nat.le_of_ble_eq_true rfl) rfl (Nat.le_of_ble_eq_true rfl) 64 rfl) dX13_tryChanges_267 ?_
                              refine lv_iload hx hb dX13_tryChanges_270 (lv_at hl 0 rfl) ?_
                              have n78 : vp_in v251_4 4 := (iv_in (n := 4) i75 (by decide))
                              refine th_iald hx hb hK hP hI 64 (Nat.le_of_ble_eq_true rfl) rfl rfl n78 dX13_tryChanges_272 (fun y77 ey77 => ?_)
                              have iy77 : -3 ≤ y77.toInt ∧ y77.toInt ≤ 3 := hI.el 64 (Nat.le_of_ble_eq_true rfl) rfl n78 (fun _ => rfl) ey77
                              have ey77 := ey77.trans (congrFun hr251_64 _)
                              have n79 : vp_in v251_4 4 := (iv_in (n := 4) i75 (by decide))
                              refine th_iast hx hb hK hP (WX_D hD) hS hI 65 (Nat.le_of_ble_eq_true rfl) rfl rfl n79 (okI rfl iy77) dX13_tryChanges_273 (fun H locs E80 pw81 hI hP hS => ?_)
                              have hKp := hKp.pw pw81 rfl
                              obtain ⟨g82, eg82⟩ : ∃ z : Nat → Int32, z = upd g251_65 v251_4.toNatClampNeg y77 := ⟨_, rfl⟩
                              have hg82 : xi (E80 65) = g82 := by rw [pw81.eu, hr251_65, eg82]
                              obtain ⟨y83, ey83⟩ : ∃ y : Int32, y = v251_4 + (1 : Int32) := ⟨_, rfl⟩
                              obtain ⟨ty83, iy83⟩ := ti_add (e := 1) (f := 4) i75 ln_1 ey83 (by decide)
                              have ty83 : y83.toInt = v251_4.toInt + 1 := ty83
                              have iy83 : 1 ≤ y83.toInt ∧ y83.toInt ≤ 4 := iy83
                              refine lv_iinc (v := y83) (lv' := [(4, .int y83), (3, .int v44_3), (2, .int v75_2), (0, .ref (ad 0)), (1, .int a0)]) hx hb dX13_tryChanges_274 hl (k := 0) rfl (by rw [ey83]; rfl) (by decide) rfl (fun ls hl => ?_)
                              refine lv_goto (tgt := 251) hx hb dX13_tryChanges_277 (by decide) ?_
                              exact ih251 g82 y83 E80 _ _ _ (iv_w iy83 (by decide)) (up_s (P := fun s9 z9 => z9 = g1 s9) hx251_0 eg82 ey77 (by omega) (by omega)) (by omega) (by first | exact ms_su hx251_2 ty83 (by decide) | omega) hI hKp ((pw81.2 0 88 (fun q9 => absurd q9.1 (Nat.ne_of_beq_eq_false rfl))).trans hs251_0_88) ((pw81.2 0 89 (fun q9 => absurd q9.1 (Nat.ne_of_beq_eq_false rfl))).trans hs251_0_89) ((pw81.ef 64 (Nat.ne_of_beq_eq_false rfl)).trans hr251_64) hg82 hP hS (lv_sub hl [0, 1, 2, 3, 4] rfl)
                        exact hL251 (5) g2 (0 : Int32) E70 _ _ _ (iv_w ln_0 (by decide)) (fun s9 h9 => absurd h9 (Nat.not_lt_zero s9)) (by have z9 := ln_0; omega) (by have h9 := ln_0; first | exact ms_bu h9.1 (by decide) | omega) hI hKp ((pw71.2 0 88 (fun q9 => absurd q9.2 (Nat.ne_of_beq_eq_false rfl))).trans pw69.1) pw71.1 ((pw71.ef 64 (Nat.ne_of_beq_eq_false rfl)).trans ((pw69.ef 64 (Nat.ne_of_beq_eq_false rfl)).trans hg1)) ((pw71.ef 65 (Nat.ne_of_beq_eq_false rfl)).trans ((pw69.ef 65 (Nat.ne_of_beq_eq_false rfl)).trans hg2)) hP hS (lv_sub hl [0, 1, 2, 3, 4] rfl)
                      · --234 not
                        have t84 : y4.toInt ≤ v44_3.toInt := ti_nlt c65
                        have i85 : -2147483648 ≤ y4.toInt ∧ y4.toInt ≤ 12 := iv_le_l t84 (iv_all _) hv44_3 (by decide)
                        rw [hQ]
                        exact W.vret hx hb hr (fun t ht hW => ⟨⟨E, rfl, ⟨hI, hKp, ⟨(by rw [show xi (E 0) 88 = y3 from vi_e fy3, show xi (E 0) 89 = y4 from vi_e fy4, show xi (E 65) = g2 from hg2]; exact (k5.elim (fun q9 => by exfalso; omega) (fun q9 => q9.keep (by omega) (fun s9 _ => rfl) (by rw [k11, Nat.sub_self]; rfl)))), (fun s9 _ => rfl)⟩⟩, by show va_P (dC, dI) vwCl (WX 72 ad E) t.heap; rw [ht]; exact hP⟩, hS.F ht⟩) hS.2.2 dX13_tryChanges_237
              · --81 not
                have t86 : v75_4.toInt < (xi (E 0) 87).toInt := ti_nle c17
                have i87 : 0 ≤ v75_4.toInt ∧ v75_4.toInt ≤ 19 := iv_lt_l t86 hv75_4 i16 (by decide)
                have i88 : 1 ≤ (xi (E 0) 87).toInt ∧ (xi (E 0) 87).toInt ≤ 20 := iv_lt_r t86 hv75_4 i16 (by decide)
                have i89 : 0 ≤ v75_2.toInt ∧ v75_2.toInt ≤ 7611400 := by omega
                have k90 := ev_xt hI0 (m := (xi (E 0) 86).toNatClampNeg) (k := v75_4.toNatClampNeg) (by rw [tn_]; omega) (by rw [tn_]; omega) (hh6 v75_4.toNatClampNeg (by rw [tn_, tn_]; omega)) (D := fun j => dg7 (xi (E 0) 86).toNatClampNeg N j) (fun j => dg7_lt)
                refine lv_ldcw hx hb hown (hts _ (vA_in _ _ (in_30 _ (zs1 (zs1 (zs0)))))) dX13_tryChanges_84 ?_
                refine lv_istore (lv' := [(5, .int 2147483647), (4, .int v75_4), (3, .int v44_3), (2, .int v75_2), (0, .ref (ad 0)), (1, .int a0)]) hx hb dX13_tryChanges_87 hl (by decide) rfl (fun ls hl => ?_)
                refine lv_ldcw hx hb hown (hts _ (vA_in _ _ (in_30 _ (zs1 (zs1 (zs1 (zs0))))))) dX13_tryChanges_89 ?_
                refine lv_istore (lv' := [(6, .int (-2147483648)), (5, .int 2147483647), (4, .int v75_4), (3, .int v44_3), (2, .int v75_2), (0, .ref (ad 0)), (1, .int a0)]) hx hb dX13_tryChanges_92 hl (by decide) rfl (fun ls hl => ?_)
                refine lv_iconst (v := 0) hx hb dX13_tryChanges_94 (by decide) ?_
                refine lv_istore (lv' := [(7, .int 0), (6, .int (-2147483648)), (5, .int 2147483647), (4, .int v75_4), (3, .int v44_3), (2, .int v75_2), (0, .ref (ad 0)), (1, .int a0)]) hx hb dX13_tryChanges_95 hl (by decide) rfl (fun ls hl => ?_)
                have hL97 : ∀ d : Nat, ∀ (v97_7 : Int32) (v97_6 : Int32) (v97_5 : Int32) (H : Heap) (locs : List Loc) (ls : Array Slot), 0 ≤ v97_7.toInt ∧ v97_7.toInt ≤ 4 → -2147483648 ≤ v97_6.toInt ∧ v97_6.toInt ≤ 400600 → 0 ≤ v97_5.toInt ∧ v97_5.toInt ≤ 2147483647 → v97_5.toInt = loF (fun j => evM (xi (E 62)) (xi (E 63)) v75_4.toNatClampNeg j (dg7 (xi (E 0) 86).toNatClampNeg N j)) v97_7.toNatClampNeg → HiI (fun j => evM (xi (E 62)) (xi (E 63)) v75_4.toNatClampNeg j (dg7 (xi (E 0) 86).toNatClampNeg N j)) v97_7.toNatClampNeg v97_6.toInt → v97_7.toInt ≤ (xi (E 0) 86).toInt → 4 - v97_7.toInt < (d : Int) → va_P (dC, dI) vwCl (WX 72 ad E) H → va_S A s.heap H locs → lv_has ls 9 [(7, .int v97_7), (6, .int v97_6), (5, .int v97_5), (4, .int v75_4), (3, .int v44_3), (2, .int v75_2), (0, .ref (ad 0)), (1, .int a0)] → W p l e (headSpec v_tryChangesX (rm_tryChangesX n)).room s m args below meth c H locs 0 0 Q (F0 m 97 ls []) := by
                  intro d
                  induction d with
                  | zero =>
                    intro v97_7 v97_6 v97_5 H locs ls hv97_7 hv97_6 hv97_5 hx97_0 hx97_1 hx97_2 hx97_3 hP hS hl
                    exact absurd hx97_3 (by first | exact ms_zu hv97_7.2 | omega)
                  | succ d ih97 =>
                    intro v97_7 v97_6 v97_5 H locs ls hv97_7 hv97_6 hv97_5 hx97_0 hx97_1 hx97_2 hx97_3 hP hS hl
                    refine lv_iload hx hb dX13_tryChanges_97 (lv_at hl 0 rfl) ?_
                    refine lv_aload_n hx hb dX13_tryChanges_99 rfl (lv_at hl 6 rfl) ?_
                    refine th_get (ci := 14) (C := RX13) (T := TX13) (N := 97) (v := .int (xi (E 0) 86)) hx hb hts hinX13 hown hK hP hI 0 (Nat.le_of_ble_eq_true rfl) rfl rfl 86 (Nat.le_of_ble_eq_true rfl) (hts _ (vA_in _ _ (in_27 _ (zs16 (zs4 (zs1 (zs1 (zs0)))))))) (fun _ h9 => h9) (th_v0 hKp hI0 0 (Nat.le_of_ble_eq_true rfl) rfl (Nat.le_of_ble_eq_true rfl) rfl rfl) dX13_tryChanges_100 ?_
                    refine lv_icmp_ge (tgt := 191) hx hb dX13_tryChanges_103 (by decide) (fun c91 => ?_) (fun c91 => ?_)
                    · --103 taken
                      have t92 : (xi (E 0) 86).toInt ≤ v97_7.toInt := ti_le c91
                      have k93 : v97_6.toInt - v97_5.toInt = xtF (fun j => evM (xi (E 62)) (xi (E 63)) v75_4.toNatClampNeg j (dg7 (xi (E 0) 86).toNatClampNeg N j)) (xi (E 0) 86).toNatClampNeg ∧ 0 ≤ v97_6.toInt - v97_5.toInt ∧ v97_6.toInt - v97_5.toInt ≤ 400600 := by
                        have h8 := hx97_0; have h9 := hx97_1
                        rw [show v97_7.toNatClampNeg = (xi (E 0) 86).toNatClampNeg by rw [tn_, tn_]; omega] at h8 h9
                        have h7 := h9.fin k90.1; have h6 : 0 ≤ xtF (fun j => evM (xi (E 62)) (xi (E 63)) v75_4.toNatClampNeg j (dg7 (xi (E 0) 86).toNatClampNeg N j)) (xi (E 0) 86).toNatClampNeg ∧ xtF (fun j => evM (xi (E 62)) (xi (E 63)) v75_4.toNatClampNeg j (dg7 (xi (E 0) 86).toNatClampNeg N j)) (xi (E 0) 86).toNatClampNeg ≤ 400600 := k90.2; unfold xtF at h6 ⊢; omega
                      refine lv_iload_n hx hb dX13_tryChanges_191 rfl (lv_at hl 5 rfl) ?_
                      refine lv_iload hx hb dX13_tryChanges_192 (lv_at hl 1 rfl) ?_
                      refine lv_iload hx hb dX13_tryChanges_194 (lv_at hl 2 rfl) ?_
                      refine lv_isub hx hb dX13_tryChanges_196 ?_
                      refine lv_topi (fun y94 ey94 => ?_)
                      have k95 : y94.toInt = v97_6.toInt - v97_5.toInt := by have h9 := k93; rw [ey94, Int32.toInt_sub]; have b1 := iv_all v97_6; have b2 := iv_all v97_5; exact ti_bm (by omega) (by omega)
                      have i96 : 0 ≤ y94.toInt ∧ y94.toInt ≤ 400600 := by have h9 := k93; omega
                      refine lv_iadd hx hb dX13_tryChanges_197 ?_
                      refine lv_topi (fun y97 ey97 => ?_)
                      obtain ⟨ty97, iy97⟩ := ti_add (e := 0) (f := 8012000) i89 i96 ey97 (by decide)
                      have ty97 : y97.toInt = v75_2.toInt + y94.toInt := ty97
                      have iy97 : 0 ≤ y97.toInt ∧ y97.toInt ≤ 8012000 := iy97
                      refine lv_istore_n (lv' := [(2, .int y97), (7, .int v97_7), (6, .int v97_6), (5, .int v97_5), (4, .int v75_4), (3, .int v44_3), (0, .ref (ad 0)), (1, .int a0)]) hx hb dX13_tryChanges_198 rfl hl (by decide) rfl (fun ls hl => ?_)
                      obtain ⟨y98, ey98⟩ : ∃ y : Int32, y = v75_4 + (1 : Int32) := ⟨_, rfl⟩
                      obtain ⟨ty98, iy98⟩ := ti_add (e := 1) (f := 20) i87 ln_1 ey98 (by decide)
                      have ty98 : y98.toInt = v75_4.toInt + 1 := ty98
                      have iy98 : 1 ≤ y98.toInt ∧ y98.toInt ≤ 20 := iy98
                      refine lv_iinc (v := y98) (lv' := [(4, .int y98), (2, .int y97), (7, .int v97_7), (6, .int v97_6), (5, .int v97_5), (3, .int v44_3), (0, .ref (ad 0)), (1, .int a0)]) hx hb dX13_tryChanges_199 hl (k := 4) rfl (by rw [ey98]; rfl) (by decide) rfl (fun ls hl => ?_)
                      refine lv_goto (tgt := 75) hx hb dX13_tryChanges_202 (by decide) ?_
                      exact ih75 y98 y97 _ _ _ (iv_w iy98 (by decide)) iy97 (by rw [show y98.toNatClampNeg = v75_4.toNatClampNeg + 1 by rw [tn_ y98, tn_ v75_4]; omega]; show y97.toInt = sumF (fun k => xtF (fun j => evM (xi (E 62)) (xi (E 63)) k j (dg7 (xi (E 0) 86).toNatClampNeg N j)) (xi (E 0) 86).toNatClampNeg) v75_4.toNatClampNeg + xtF (fun j => evM (xi (E 62)) (xi (E 63)) v75_4.toNatClampNeg j (dg7 (xi (E 0) 86).toNatClampNeg N j)) (xi (E 0) 86).toNatClampNeg; have q9 := k93; omega) (by have q9 := k93; omega) (by omega) (by first | exact ms_su hx75_3 ty98 (by decide) | omega) hP hS (lv_sub hl [0, 5, 1, 6, 7] rfl)
                    · --103 not
                      have t99 : v97_7.toInt < (xi (E 0) 86).toInt := ti_nle c91
                      have i100 : 0 ≤ v97_7.toInt ∧ v97_7.toInt ≤ 3 := iv_lt_l t99 hv97_7 i8 (by decide)
                      have i101 : 1 ≤ (xi (E 0) 86).toInt ∧ (xi (E 0) 86).toInt ≤ 4 := iv_lt_r t99 hv97_7 i8 (by decide)
                      refine lv_aload_n hx hb dX13_tryChanges_106 rfl (lv_at hl 6 rfl) ?_
                      refine th_get (ci := 14) (C := RX13) (T := TX13) (N := 97) (v := .ref (ad 62)) hx hb hts hinX13 hown hK hP hI 0 (Nat.le_of_ble_eq_true rfl) rfl rfl 82 (Nat.le_of_ble_eq_true rfl) (hts _ (vA_in _ _ (in_27 _ (zs16 (zs4 (zs4 (zs4 (zs1 (zs1 (zs0)))))))))) (fun _ h9 => h9) (hI.fr 0 (Nat.le_of_ble_eq_true rfl) rfl (Nat.le_of_ble_eq_true rfl) 62 rfl) dX13_tryChanges_107 ?_
                      refine lv_iconst (v := 4) hx hb dX13_tryChanges_110 (by decide) ?_
                      refine lv_iload hx hb dX13_tryChanges_111 (lv_at hl 3 rfl) ?_
                      refine lv_imul hx hb dX13_tryChanges_113 ?_
                      refine lv_topi (fun y102 ey102 => ?_)
                      obtain ⟨ty102, iy102⟩ := ti_mul (e := 0) (f := 76) ln_4 i87 ey102 (by decide)
                      have ty102 : y102.toInt = 4 * v75_4.toInt := ty102
                      have iy102 : 0 ≤ y102.toInt ∧ y102.toInt ≤ 76 := iy102
                      refine lv_iload hx hb dX13_tryChanges_114 (lv_at hl 0 rfl) ?_
                      refine lv_iadd hx hb dX13_tryChanges_116 ?_
                      refine lv_topi (fun y103 ey103 => ?_)
                      obtain ⟨ty103, iy103⟩ := ti_add (e := 0) (f := 79) iy102 i100 ey103 (by decide)
                      have ty103 : y103.toInt = y102.toInt + v97_7.toInt := ty103
                      have iy103 : 0 ≤ y103.toInt ∧ y103.toInt ≤ 79 := iy103
                      have n105 : vp_in y103 80 := (iv_in (n := 80) iy103 (by decide))
                      refine th_iald hx hb hK hP hI 62 (Nat.le_of_ble_eq_true rfl) rfl rfl n105 dX13_tryChanges_117 (fun y104 ey104 => ?_)
                      have iy104 : 0 ≤ y104.toInt ∧ y104.toInt ≤ 200000 := hI.el 62 (Nat.le_of_ble_eq_true rfl) rfl n105 (fun _ => rfl) ey104
                      have ey104 := ey104.trans (hKp.ei 62 _ rfl)
                      refine lv_if_ne (tgt := 124) hx hb dX13_tryChanges_118 (by decide) (fun c106 => ?_) (fun c106 => ?_)
                      · --118 taken
                        have t107 : ¬ y104.toInt = 0 := ti_ne c106
                        have i108 : 1 ≤ y104.toInt ∧ y104.toInt ≤ 200000 := iv_ne_l t107 iy104 (il_ 0)
                        refine lv_aload_n hx hb dX13_tryChanges_124 rfl (lv_at hl 6 rfl) ?_
                        refine th_get (ci := 14) (C := RX13) (T := TX13) (N := 97) (v := .ref (ad 62)) hx hb hts hinX13 hown hK hP hI 0 (Nat.le_of_ble_eq_true rfl) rfl rfl 82 (Nat.le_of_ble_eq_true rfl) (hts _ (vA_in _ _ (in_27 _ (zs16 (zs4 (zs4 (zs4 (zs1 (zs1 (zs0)))))))))) (fun _ h9 => h9) (hI.fr 0 (Nat.le_of_ble_eq_true rfl) rfl (Nat.le_of_ble_eq_true rfl) 62 rfl) dX13_tryChanges_125 ?_
                        refine lv_iconst (v := 4) hx hb dX13_tryChanges_128 (by decide) ?_
                        refine lv_iload hx hb dX13_tryChanges_129 (lv_at hl 3 rfl) ?_
                        refine lv_imul hx hb dX13_tryChanges_131 ?_
                        refine lv_topi (fun y109 ey109 => ?_)
                        obtain ⟨ty109, iy109⟩ := ti_mul (e := 0) (f := 76) ln_4 i87 ey109 (by decide)
                        have ty109 : y109.toInt = 4 * v75_4.toInt := ty109
                        have iy109 : 0 ≤ y109.toInt ∧ y109.toInt ≤ 76 := iy109
                        refine lv_iload hx hb dX13_tryChanges_132 (lv_at hl 0 rfl) ?_
                        refine lv_iadd hx hb dX13_tryChanges_134 ?_
                        refine lv_topi (fun y110 ey110 => ?_)
                        obtain ⟨ty110, iy110⟩ := ti_add (e := 0) (f := 79) iy109 i100 ey110 (by decide)
                        have ty110 : y110.toInt = y109.toInt + v97_7.toInt := ty110
                        have iy110 : 0 ≤ y110.toInt ∧ y110.toInt ≤ 79 := iy110
                        have n112 : vp_in y110 80 := (iv_in (n := 80) iy110 (by decide))
                        refine th_iald hx hb hK hP hI 62 (Nat.le_of_ble_eq_true rfl) rfl rfl n112 dX13_tryChanges_135 (fun y111 ey111 => ?_)
                        have iy111 : 0 ≤ y111.toInt ∧ y111.toInt ≤ 200000 := hI.el 62 (Nat.le_of_ble_eq_true rfl) rfl n112 (fun _ => rfl) ey111
                        have ey111 := ey111.trans (hKp.ei 62 _ rfl)
                        refine lv_iconst (v := 1) hx hb dX13_tryChanges_136 (by decide) ?_
                        refine lv_aload_n hx hb dX13_tryChanges_137 rfl (lv_at hl 6 rfl) ?_
                        refine th_get (ci := 14) (C := RX13) (T := TX13) (N := 97) (v := .ref (ad 63)) hx hb hts hinX13 hown hK hP hI 0 (Nat.le_of_ble_eq_true rfl) rfl rfl 83 (Nat.le_of_ble_eq_true rfl) (hts _ (vA_in _ _ (in_27 _ (zs16 (zs4 (zs4 (zs4 (zs1 (zs1 (zs1 (zs0))))))))))) (fun _ h9 => h9) (hI.fr 0 (Nat.le_of_ble_eq_true rfl) rfl (Nat.le_of_ble_eq_true rfl) 63 rfl) dX13_tryChanges_138 ?_
                        refine lv_iconst (v := 4) hx hb dX13_tryChanges_141 (by decide) ?_
                        refine lv_iload hx hb dX13_tryChanges_142 (lv_at hl 3 rfl) ?_
                        refine lv_imul hx hb dX13_tryChanges_144 ?_
                        refine lv_topi (fun y113 ey113 => ?_)
                        obtain ⟨ty113, iy113⟩ := ti_mul (e := 0) (f := 76) ln_4 i87 ey113 (by decide)
                        have ty113 : y113.toInt = 4 * v75_4.toInt := ty113
                        have iy113 : 0 ≤ y113.toInt ∧ y113.toInt ≤ 76 := iy113
                        refine lv_iload hx hb dX13_tryChanges_145 (lv_at hl 0 rfl) ?_
                        refine lv_iadd hx hb dX13_tryChanges_147 ?_
                        refine lv_topi (fun y114 ey114 => ?_)
                        obtain ⟨ty114, iy114⟩ := ti_add (e := 0) (f := 79) iy113 i100 ey114 (by decide)
                        have ty114 : y114.toInt = y113.toInt + v97_7.toInt := ty114
                        have iy114 : 0 ≤ y114.toInt ∧ y114.toInt ≤ 79 := iy114
                        have n116 : vp_in y114 80 := (iv_in (n := 80) iy114 (by decide))
                        refine th_iald hx hb hK hP hI 63 (Nat.le_of_ble_eq_true rfl) rfl rfl n116 dX13_tryChanges_148 (fun y115 ey115 => ?_)
                        have iy115 : 0 ≤ y115.toInt ∧ y115.toInt ≤ 2000 := hI.el 63 (Nat.le_of_ble_eq_true rfl) rfl n116 (fun _ => rfl) ey115
                        have ey115 := ey115.trans (hKp.ei 63 _ rfl)
                        refine lv_aload_n hx hb dX13_tryChanges_149 rfl (lv_at hl 6 rfl) ?_
                        refine th_get (ci := 14) (C := RX13) (T := TX13) (N := 97) (v := .ref (ad 64)) hx hb hts hinX13 hown hK hP hI 0 (Nat.le_of_ble_eq_true rfl) rfl rfl 84 (Nat.le_of_ble_eq_true rfl) (hts _ (vA_in _ _ (in_30 _ (zs1 (zs0))))) (fun _ h9 => h9) (hI.fr 0 (Nat.le_of_ble_eq_true rfl) rfl (Nat.le_of_ble_eq_true rfl) 64 rfl) dX13_tryChanges_150 ?_
                        refine lv_iload hx hb dX13_tryChanges_153 (lv_at hl 0 rfl) ?_
                        have n118 : vp_in v97_7 4 := (iv_in (n := 4) i100 (by decide))
                        refine th_iald hx hb hK hP hI 64 (Nat.le_of_ble_eq_true rfl) rfl rfl n118 dX13_tryChanges_155 (fun y117 ey117 => ?_)
                        have iy117 : -3 ≤ y117.toInt ∧ y117.toInt ≤ 3 := hI.el 64 (Nat.le_of_ble_eq_true rfl) rfl n118 (fun _ => rfl) ey117
                        have ey117 := ey117.trans (congrFun hg1 _)
                        refine lv_iadd hx hb dX13_tryChanges_156 ?_
                        refine lv_topi (fun y119 ey119 => ?_)
                        obtain ⟨ty119, iy119⟩ := ti_add (e := (-3)) (f := 2003) iy115 iy117 ey119 (by decide)
                        have ty119 : y119.toInt = y115.toInt + y117.toInt := ty119
                        have iy119 : -3 ≤ y119.toInt ∧ y119.toInt ≤ 2003 := iy119
                        refine va_mmax hx hb (by rw [hml]; exact hl.1.symm) hown (hts _ (vA_in _ _ (in_25 _ (zs16 (zs4 (zs4 (zs1 (zs1 (zs1 (zs0)))))))))) (hts _ (vA_in _ _ (in_0 _ (zs16 (zs16 (zs0)))))) (hts _ (vA_in _ _ (in_0 _ (zs16 (zs16 (zs1 (zs0))))))) (hts _ (vA_in _ _ (in_0 _ (zs16 (zs16 (zs1 (zs1 (zs0)))))))) (Nat.le_of_ble_eq_true rfl) (Nat.le_of_ble_eq_true rfl) (Nat.le_of_ble_eq_true rfl) (Nat.le_of_ble_eq_true rfl) dX13_tryChanges_157 ?_
                        have z1 := ln_1
                        refine lv_topi (fun y120 ey120 => ?_)
                        obtain ⟨ty120, iy120⟩ := ti_max (e := 1) (f := 2003) ln_1 iy119 ey120 (by decide)
                        have iy120 : 1 ≤ y120.toInt ∧ y120.toInt ≤ 2003 := iy120
                        refine lv_imul hx hb dX13_tryChanges_160 ?_
                        refine lv_topi (fun y121 ey121 => ?_)
                        obtain ⟨ty121, iy121⟩ := ti_mul (e := 0) (f := 400600000) iy111 iy120 ey121 (by decide)
                        have ty121 : y121.toInt = y111.toInt * y120.toInt := ty121
                        have iy121 : 0 ≤ y121.toInt ∧ y121.toInt ≤ 400600000 := iy121
                        refine lv_sipush (v := 1000) hx hb dX13_tryChanges_161 (by decide) ?_
                        refine lv_idiv hx hb dX13_tryChanges_164 (by decide) ?_
                        refine lv_topi (fun y122 ey122 => ?_)
                        obtain ⟨ty122, iy122⟩ := ti_div (e := 0) (f := 400600) iy121 ln_1000 ey122 (by decide)
                        have iy122 : 0 ≤ y122.toInt ∧ y122.toInt ≤ 400600 := iy122
                        have k123 : y122.toInt = evM (xi (E 62)) (xi (E 63)) v75_4.toNatClampNeg v97_7.toNatClampNeg (dg7 (xi (E 0) 86).toNatClampNeg N v97_7.toNatClampNeg) ∧ 0 ≤ y122.toInt := by
                          have h9 := k12 v97_7.toNatClampNeg (by rw [tn_, tn_]; omega)
                          rw [← ey117] at h9
                          obtain ⟨d9, hd9⟩ : ∃ d9 : Int32, d9.toInt = ((dg7 (xi (E 0) 86).toNatClampNeg N v97_7.toNatClampNeg : Nat) : Int) := ⟨nI (dg7 (xi (E 0) 86).toNatClampNeg N v97_7.toNatClampNeg), nI_toInt (by have h8 : dg7 (xi (E 0) 86).toNatClampNeg N v97_7.toNatClampNeg < 7 := dg7_lt; omega)⟩
                          have h8 := chT_of (i := d9) (mx := y120) (p := y121) (s := y111) (n := y115) (r := y122) hd9 (by omega) ty121 (by have q7 := ty122; rw [show (1000 : Int32).toInt = 1000 from rfl] at q7; exact q7)
                          unfold evM; rw [show 4 * v75_4.toNatClampNeg + v97_7.toNatClampNeg = y110.toNatClampNeg by rw [tn_ v75_4, tn_ v97_7, tn_ y110]; omega, ← ey111, if_neg (by have q8 : y111 = y104 := ey111.trans ((congrArg (xi (E 62)) (show y110.toNatClampNeg = y103.toNatClampNeg by rw [tn_ y110, tn_ y103]; omega)).trans ey104.symm); rw [q8]; omega)]
                          rw [show y110.toNatClampNeg = y114.toNatClampNeg by rw [tn_ y110, tn_ y114]; omega, ← ey115]; exact ⟨h8, by omega⟩
                        refine lv_istore (lv' := [(8, .int y122), (7, .int v97_7), (6, .int v97_6), (5, .int v97_5), (4, .int v75_4), (3, .int v44_3), (2, .int v75_2), (0, .ref (ad 0)), (1, .int a0)]) hx hb dX13_tryChanges_165 hl (by decide) rfl (fun ls hl => ?_)
                        refine lv_iload hx hb dX13_tryChanges_167 (lv_at hl 3 rfl) ?_
                        refine lv_iload hx hb dX13_tryChanges_169 (lv_at hl 0 rfl) ?_
                        refine va_mmin hx hb (by rw [hml]; exact hl.1.symm) hown (hts _ (vA_in _ _ (in_28 _ (zs16 (zs4 (zs4 (zs1 (zs1 (zs0))))))))) (hts _ (vA_in _ _ (in_0 _ (zs16 (zs16 (zs4 (zs0))))))) (hts _ (vA_in _ _ (in_0 _ (zs16 (zs16 (zs1 (zs0))))))) (hts _ (vA_in _ _ (in_0 _ (zs16 (zs16 (zs4 (zs1 (zs0)))))))) (Nat.le_of_ble_eq_true rfl) (Nat.le_of_ble_eq_true rfl) (Nat.le_of_ble_eq_true rfl) (Nat.le_of_ble_eq_true rfl) dX13_tryChanges_171 ?_
                        refine lv_topi (fun y124 ey124 => ?_)
                        obtain ⟨ty124, iy124⟩ := ti_min (e := 0) (f := 400600) hv97_5 iy122 ey124 (by decide)
                        have iy124 : 0 ≤ y124.toInt ∧ y124.toInt ≤ 400600 := iy124
                        refine lv_istore (lv' := [(5, .int y124), (8, .int y122), (7, .int v97_7), (6, .int v97_6), (4, .int v75_4), (3, .int v44_3), (2, .int v75_2), (0, .ref (ad 0)), (1, .int a0)]) hx hb dX13_tryChanges_174 hl (by decide) rfl (fun ls hl => ?_)
                        refine lv_iload hx hb dX13_tryChanges_176 (lv_at hl 3 rfl) ?_
                        refine lv_iload hx hb dX13_tryChanges_178 (lv_at hl 1 rfl) ?_
                        refine va_mmax hx hb (by rw [hml]; exact hl.1.symm) hown (hts _ (vA_in _ _ (in_25 _ (zs16 (zs4 (zs4 (zs1 (zs1 (zs1 (zs0)))))))))) (hts _ (vA_in _ _ (in_0 _ (zs16 (zs16 (zs0)))))) (hts _ (vA_in _ _ (in_0 _ (zs16 (zs16 (zs1 (zs0))))))) (hts _ (vA_in _ _ (in_0 _ (zs16 (zs16 (zs1 (zs1 (zs0)))))))) (Nat.le_of_ble_eq_true rfl) (Nat.le_of_ble_eq_true rfl) (Nat.le_of_ble_eq_true rfl) (Nat.le_of_ble_eq_true rfl) dX13_tryChanges_180 ?_
                        refine lv_topi (fun y125 ey125 => ?_)
                        obtain ⟨ty125, iy125⟩ := ti_max (e := 0) (f := 400600) hv97_6 iy122 ey125 (by decide)
                        have iy125 : 0 ≤ y125.toInt ∧ y125.toInt ≤ 400600 := iy125
                        refine lv_istore (lv' := [(6, .int y125), (5, .int y124), (8, .int y122), (7, .int v97_7), (4, .int v75_4), (3, .int v44_3), (2, .int v75_2), (0, .ref (ad 0)), (1, .int a0)]) hx hb dX13_tryChanges_183 hl (by decide) rfl (fun ls hl => ?_)
                        obtain ⟨y126, ey126⟩ : ∃ y : Int32, y = v97_7 + (1 : Int32) := ⟨_, rfl⟩
                        obtain ⟨ty126, iy126⟩ := ti_add (e := 1) (f := 4) i100 ln_1 ey126 (by decide)
                        have ty126 : y126.toInt = v97_7.toInt + 1 := ty126
                        have iy126 : 1 ≤ y126.toInt ∧ y126.toInt ≤ 4 := iy126
                        refine lv_iinc (v := y126) (lv' := [(7, .int y126), (6, .int y125), (5, .int y124), (8, .int y122), (4, .int v75_4), (3, .int v44_3), (2, .int v75_2), (0, .ref (ad 0)), (1, .int a0)]) hx hb dX13_tryChanges_185 hl (k := 3) rfl (by rw [ey126]; rfl) (by decide) rfl (fun ls hl => ?_)
                        refine lv_goto (tgt := 97) hx hb dX13_tryChanges_188 (by decide) ?_
                        exact ih97 y126 y125 y124 _ _ _ (iv_w iy126 (by decide)) (iv_w iy125 (by decide)) (iv_w iy124 (by decide)) (lo_y (f := (fun j => evM (xi (E 62)) (xi (E 63)) v75_4.toNatClampNeg j (dg7 (xi (E 0) 86).toNatClampNeg N j))) hx97_0 (by show ¬ evM _ _ _ _ _ = -1; rw [← k123.1]; omega) (by show _ = min _ (evM _ _ _ _ _); rw [← k123.1]; omega) (by rw [tn_ y126, tn_ v97_7]; omega)) (hx97_1.y (by show 0 ≤ evM _ _ _ _ _; rw [← k123.1]; omega) (by show _ = max _ (evM _ _ _ _ _); rw [← k123.1]; omega) (by rw [tn_ y126, tn_ v97_7]; omega)) (by omega) (by first | exact ms_su hx97_3 ty126 (by decide) | omega) hP hS (lv_sub hl [0, 1, 2, 4, 5, 6, 7, 8] rfl)
                      · --118 not
                        have t127 : y104.toInt = 0 := ti_eq c106
                        have i128 : 0 ≤ y104.toInt ∧ y104.toInt ≤ 0 := iv_eqi t127 iy104 (il_ 0) (by decide)
                        refine lv_goto (tgt := 185) hx hb dX13_tryChanges_121 (by decide) ?_
                        obtain ⟨y129, ey129⟩ : ∃ y : Int32, y = v97_7 + (1 : Int32) := ⟨_, rfl⟩
                        obtain ⟨ty129, iy129⟩ := ti_add (e := 1) (f := 4) i100 ln_1 ey129 (by decide)
                        have ty129 : y129.toInt = v97_7.toInt + 1 := ty129
                        have iy129 : 1 ≤ y129.toInt ∧ y129.toInt ≤ 4 := iy129
                        refine lv_iinc (v := y129) (lv' := [(7, .int y129), (6, .int v97_6), (5, .int v97_5), (4, .int v75_4), (3, .int v44_3), (2, .int v75_2), (0, .ref (ad 0)), (1, .int a0)]) hx hb dX13_tryChanges_185 hl (k := 0) rfl (by rw [ey129]; rfl) (by decide) rfl (fun ls hl => ?_)
                        refine lv_goto (tgt := 97) hx hb dX13_tryChanges_188 (by decide) ?_
                        exact ih97 y129 v97_6 v97_5 _ _ _ (iv_w iy129 (by decide)) hv97_6 hv97_5 (lo_n hx97_0 (show evM (xi (E 62)) (xi (E 63)) v75_4.toNatClampNeg v97_7.toNatClampNeg (dg7 (xi (E 0) 86).toNatClampNeg N v97_7.toNatClampNeg) = -1 by unfold evM; rw [show 4 * v75_4.toNatClampNeg + v97_7.toNatClampNeg = y103.toNatClampNeg by rw [tn_ v75_4, tn_ v97_7, tn_ y103]; omega, ← ey104, if_pos (by omega)]) (by rw [tn_ y129, tn_ v97_7]; omega)) (hx97_1.n (show evM (xi (E 62)) (xi (E 63)) v75_4.toNatClampNeg v97_7.toNatClampNeg (dg7 (xi (E 0) 86).toNatClampNeg N v97_7.toNatClampNeg) = -1 by unfold evM; rw [show 4 * v75_4.toNatClampNeg + v97_7.toNatClampNeg = y103.toNatClampNeg by rw [tn_ v75_4, tn_ v97_7, tn_ y103]; omega, ← ey104, if_pos (by omega)]) (by rw [tn_ y129, tn_ v97_7]; omega)) (by omega) (by first | exact ms_su hx97_3 ty129 (by decide) | omega) hP hS (lv_sub hl [0, 1, 2, 3, 4, 5, 6, 7] rfl)
                exact hL97 (5) (0 : Int32) (-2147483648 : Int32) (2147483647 : Int32) _ _ _ (iv_w ln_0 (by decide)) (iv_w ln_m2147483648 (by decide)) (iv_w ln_2147483647 (by decide)) (show (2147483647 : Int32).toInt = 2147483647 from rfl) (Or.inr ⟨fun i9 h9 => absurd h9 (Nat.not_lt_zero i9), rfl⟩) (by have z9 := ln_0; omega) (by have h9 := ln_0; first | exact ms_bu h9.1 (by decide) | omega) hP hS (lv_sub hl [0, 1, 2, 3, 4, 5, 6, 7] rfl)
          exact hL75 (21) (0 : Int32) (0 : Int32) _ _ _ (iv_w ln_0 (by decide)) (iv_w ln_0 (by decide)) (show (0 : Int32).toInt = 0 from rfl) (by have z9 := ln_0; omega) (by have z9 := ln_0; omega) (by have h9 := ln_0; first | exact ms_bu h9.1 (by decide) | omega) hP hS (lv_sub hl [0, 1, 2, 3, 4] rfl)
        · --50 not
          have t130 : v44_4.toInt < (xi (E 0) 86).toInt := ti_nle c13
          have i131 : 0 ≤ v44_4.toInt ∧ v44_4.toInt ≤ 3 := iv_lt_l t130 hv44_4 i8 (by decide)
          have i132 : 1 ≤ (xi (E 0) 86).toInt ∧ (xi (E 0) 86).toInt ≤ 4 := iv_lt_r t130 hv44_4 i8 (by decide)
          have i133 : 0 ≤ v44_3.toInt ∧ v44_3.toInt ≤ 9 := by omega
          refine lv_iload_n hx hb dX13_tryChanges_53 rfl (lv_at hl 1 rfl) ?_
          refine lv_aload_n hx hb dX13_tryChanges_54 rfl (lv_at hl 3 rfl) ?_
          refine th_get (ci := 14) (C := RX13) (T := TX13) (N := 97) (v := .ref (ad 64)) hx hb hts hinX13 hown hK hP hI 0 (Nat.le_of_ble_eq_true rfl) rfl rfl 84 (Nat.le_of_ble_eq_true rfl) (hts _ (vA_in _ _ (in_30 _ (zs1 (zs0))))) (fun _ h9 => h9) (hI.fr 0 (Nat.le_of_ble_eq_true rfl) rfl (Nat.le_of_ble_eq_true rfl) 64 rfl) dX13_tryChanges_55 ?_
          refine lv_iload hx hb dX13_tryChanges_58 (lv_at hl 0 rfl) ?_
          have n135 : vp_in v44_4 4 := (iv_in (n := 4) i131 (by decide))
          refine th_iald hx hb hK hP hI 64 (Nat.le_of_ble_eq_true rfl) rfl rfl n135 dX13_tryChanges_60 (fun y134 ey134 => ?_)
          have iy134 : -3 ≤ y134.toInt ∧ y134.toInt ≤ 3 := hI.el 64 (Nat.le_of_ble_eq_true rfl) rfl n135 (fun _ => rfl) ey134
          have ey134 := ey134.trans (congrFun hg1 _)
          refine va_mabs hx hb (by rw [hml]; exact hl.1.symm) hown (hts _ (vA_in _ _ (in_25 _ (zs16 (zs16 (zs1 (zs1 (zs0)))))))) (hts _ (vA_in _ _ (in_23 _ (zs4 (zs4 (zs1 (zs1 (zs0)))))))) (hts _ (vA_in _ _ (in_0 _ (zs16 (zs16 (zs1 (zs0))))))) (hts _ (vA_in _ _ (in_23 _ (zs4 (zs4 (zs1 (zs1 (zs1 (zs0))))))))) (Nat.le_of_ble_eq_true rfl) (Nat.le_of_ble_eq_true rfl) (Nat.le_of_ble_eq_true rfl) (Nat.le_of_ble_eq_true rfl) dX13_tryChanges_61 ?_
          refine lv_topi (fun y136 ey136 => ?_)
          obtain ⟨ty136, iy136⟩ := ti_abs (e := 0) (f := 3) iy134 ey136 (by decide)
          have iy136 : 0 ≤ y136.toInt ∧ y136.toInt ≤ 3 := iy136
          have k137 : y136.toInt = ab (((dg7 (xi (E 0) 86).toNatClampNeg N v44_4.toNatClampNeg : Nat) : Int) - 3) := by have h9 := k12 v44_4.toNatClampNeg (by rw [tn_, tn_]; omega); rw [← ey134] at h9; rw [← h9]; unfold ab; exact dite (0 ≤ y134.toInt) (fun q6 => by rw [if_pos q6]; omega) (fun q6 => by rw [if_neg q6]; omega)
          refine lv_iadd hx hb dX13_tryChanges_64 ?_
          refine lv_topi (fun y138 ey138 => ?_)
          obtain ⟨ty138, iy138⟩ := ti_add (e := 0) (f := 12) i133 iy136 ey138 (by decide)
          have ty138 : y138.toInt = v44_3.toInt + y136.toInt := ty138
          have iy138 : 0 ≤ y138.toInt ∧ y138.toInt ≤ 12 := iy138
          refine lv_istore_n (lv' := [(3, .int y138), (4, .int v44_4), (2, .int 0), (0, .ref (ad 0)), (1, .int a0)]) hx hb dX13_tryChanges_65 rfl hl (by decide) rfl (fun ls hl => ?_)
          obtain ⟨y139, ey139⟩ : ∃ y : Int32, y = v44_4 + (1 : Int32) := ⟨_, rfl⟩
          obtain ⟨ty139, iy139⟩ := ti_add (e := 1) (f := 4) i131 ln_1 ey139 (by decide)
          have ty139 : y139.toInt = v44_4.toInt + 1 := ty139
          have iy139 : 1 ≤ y139.toInt ∧ y139.toInt ≤ 4 := iy139
          refine lv_iinc (v := y139) (lv' := [(4, .int y139), (3, .int y138), (2, .int 0), (0, .ref (ad 0)), (1, .int a0)]) hx hb dX13_tryChanges_66 hl (k := 1) rfl (by rw [ey139]; rfl) (by decide) rfl (fun ls hl => ?_)
          refine lv_goto (tgt := 44) hx hb dX13_tryChanges_69 (by decide) ?_
          exact ih44 y139 y138 _ _ _ (iv_w iy139 (by decide)) iy138 (by rw [show y139.toNatClampNeg = v44_4.toNatClampNeg + 1 by rw [tn_ y139, tn_ v44_4]; omega]; show y138.toInt = sumF (fun j => ab (((dg7 (xi (E 0) 86).toNatClampNeg N j : Nat) : Int) - 3)) v44_4.toNatClampNeg + ab (((dg7 (xi (E 0) 86).toNatClampNeg N v44_4.toNatClampNeg : Nat) : Int) - 3); omega) (by omega) (by omega) (by first | exact ms_su hx44_3 ty139 (by decide) | omega) hP hS (lv_sub hl [0, 1, 2, 3, 4] rfl)
    exact hL44 (5) (0 : Int32) (0 : Int32) _ _ _ (iv_w ln_0 (by decide)) (iv_w ln_0 (by decide)) (show (0 : Int32).toInt = 0 from rfl) (by have z9 := ln_0; omega) (by have z9 := ln_0; omega) (by have h9 := ln_0; first | exact ms_bu h9.1 (by decide) | omega) hP hS (lv_sub hl [0, 1, 2, 3, 4] rfl)
  · --5 not
    have t140 : a0.toInt < (xi (E 0) 86).toInt := ti_nle c9
    have i141 : 0 ≤ a0.toInt ∧ a0.toInt ≤ 3 := iv_lt_l t140 hh0 i8 (by decide)
    have i142 : 1 ≤ (xi (E 0) 86).toInt ∧ (xi (E 0) 86).toInt ≤ 4 := iv_lt_r t140 hh0 i8 (by decide)
    obtain ⟨k9, hk9⟩ : ∃ k9, n = k9 + 1 := ⟨n - 1, by omega⟩
    refine lv_bipush (v := -3) hx hb dX13_tryChanges_8 (by decide) ?_
    refine lv_istore_n (lv' := [(2, .int (-3)), (0, .ref (ad 0)), (1, .int a0)]) hx hb dX13_tryChanges_10 rfl hl (by decide) rfl (fun ls hl => ?_)
    have hL11 : ∀ d : Nat, ∀ (w11_0_88 : Int32) (w11_0_89 : Int32) (g11_64 : Nat → Int32) (g11_65 : Nat → Int32) (v11_2 : Int32) (E11_ : Nat → va_E) (H : Heap) (locs : List Loc) (ls : Array Slot), -3 ≤ v11_2.toInt ∧ v11_2.toInt ≤ 4 → TyI (sprM E (xi (E 0) 86).toNatClampNeg) (smF (xi (E 0) 86).toNatClampNeg) (xi (E 0) 86).toNatClampNeg (N + (v11_2.toInt + 3).toNat * p7 ((xi (E 0) 86).toNatClampNeg - a0.toNatClampNeg - 1)) w11_0_88.toInt w11_0_89.toInt (fun s9 => (g11_65 s9).toInt + 3) → (∀ s9 : Nat, s9 < a0.toNatClampNeg → g11_64 s9 = g1 s9) → -3 ≤ v11_2.toInt ∧ v11_2.toInt ≤ 4 → 4 - v11_2.toInt < (d : Int) → IX cT shM spM 72 ad E11_ → Kp w_tryChangesX E E11_ → xv (E11_ 0) 88 = .int w11_0_88 → xv (E11_ 0) 89 = .int w11_0_89 → xi (E11_ 64) = g11_64 → xi (E11_ 65) = g11_65 → va_P (dC, dI) vwCl (WX 72 ad E11_) H → va_S A s.heap H locs → lv_has ls 9 [(2, .int v11_2), (0, .ref (ad 0)), (1, .int a0)] → W p l e (headSpec v_tryChangesX (rm_tryChangesX n)).room s m args below meth c H locs 0 0 Q (F0 m 11 ls []) := by
      intro d
      induction d with
      | zero =>
        intro w11_0_88 w11_0_89 g11_64 g11_65 v11_2 E11_ H locs ls hv11_2 hx11_0 hx11_1 hx11_2 hx11_3 hI hKp hs11_0_88 hs11_0_89 hr11_64 hr11_65 hP hS hl
        exact absurd hx11_3 (by first | exact ms_zu hv11_2.2 | omega)
      | succ d ih11 =>
        intro w11_0_88 w11_0_89 g11_64 g11_65 v11_2 E11_ H locs ls hv11_2 hx11_0 hx11_1 hx11_2 hx11_3 hI hKp hs11_0_88 hs11_0_89 hr11_64 hr11_65 hP hS hl
        refine lv_iload_n hx hb dX13_tryChanges_11 rfl (lv_at hl 0 rfl) ?_
        refine lv_iconst (v := 3) hx hb dX13_tryChanges_12 (by decide) ?_
        refine lv_icmp_gt (tgt := 36) hx hb dX13_tryChanges_13 (by decide) (fun c143 => ?_) (fun c143 => ?_)
        · --13 taken
          have t144 : (3 : Int) < v11_2.toInt := ti_lt c143
          have i145 : 4 ≤ v11_2.toInt ∧ v11_2.toInt ≤ 4 := iv_lt_r t144 (il_ 3) hv11_2 (by decide)
          rw [hQ]
          exact W.vret hx hb hr (fun t ht hW => ⟨⟨E11_, rfl, ⟨hI, hKp, ⟨(by rw [show xi (E11_ 0) 88 = w11_0_88 from vi_e hs11_0_88, show xi (E11_ 0) 89 = w11_0_89 from vi_e hs11_0_89, show xi (E11_ 65) = g11_65 from hr11_65]; exact (hx11_0.elim (fun q9 => by exfalso; have h8 := p7_pos ((xi (E 0) 86).toNatClampNeg - a0.toNatClampNeg - 1); have h7 : (v11_2.toInt + 3).toNat = 7 := (by omega); have h6 := q9.1; rw [h7] at h6; omega) (fun q9 => BsK.cg q9 rfl (by rw [show (v11_2.toInt + 3).toNat = 7 by omega]; exact (dn_in (t := 0) (by rw [tn_, tn_]; omega) hh3 (by decide)).2.2.2.2.symm) rfl rfl (fun s9 _ => rfl)))), (fun s9 h9 => by rw [show xi (E11_ 64) = g11_64 from hr11_64, show xi (E 64) = g1 from hg1]; exact hx11_1 s9 h9)⟩⟩, by show va_P (dC, dI) vwCl (WX 72 ad E11_) t.heap; rw [ht]; exact hP⟩, hS.F ht⟩) hS.2.2 dX13_tryChanges_36
        · --13 not
          have t146 : v11_2.toInt ≤ 3 := ti_nlt c143
          have i147 : -3 ≤ v11_2.toInt ∧ v11_2.toInt ≤ 3 := iv_le_l t146 hv11_2 (il_ 3) (by decide)
          refine lv_aload_n hx hb dX13_tryChanges_16 rfl (lv_at hl 1 rfl) ?_
          refine th_get (ci := 14) (C := RX13) (T := TX13) (N := 97) (v := .ref (ad 64)) hx hb hts hinX13 hown hK hP hI 0 (Nat.le_of_ble_eq_true rfl) rfl rfl 84 (Nat.le_of_ble_eq_true rfl) (hts _ (vA_in _ _ (in_30 _ (zs1 (zs0))))) (fun _ h9 => h9) (hI.fr 0 (Nat.le_of_ble_eq_true rfl) rfl (Nat.le_of_ble_eq_true rfl) 64 rfl) dX13_tryChanges_17 ?_
          refine lv_iload_n hx hb dX13_tryChanges_20 rfl (lv_at hl 2 rfl) ?_
          refine lv_iload_n hx hb dX13_tryChanges_21 rfl (lv_at hl 0 rfl) ?_
          have n148 : vp_in a0 4 := (iv_in (n := 4) i141 (by decide))
          refine th_iast hx hb hK hP (WX_D hD) hS hI 64 (Nat.le_of_ble_eq_true rfl) rfl rfl n148 (okI rfl i147) dX13_tryChanges_22 (fun H locs E149 pw150 hI hP hS => ?_)
          have hKp := hKp.pw pw150 rfl
          obtain ⟨g151, eg151⟩ : ∃ z : Nat → Int32, z = upd g11_64 a0.toNatClampNeg v11_2 := ⟨_, rfl⟩
          have hg151 : xi (E149 64) = g151 := by rw [pw150.eu, hr11_64, eg151]
          have k152 := dn_in (m := (xi (E 0) 86).toNatClampNeg) (a := a0.toNatClampNeg) (N := N) (t := (v11_2.toInt + 3).toNat) (by rw [tn_, tn_]; omega) hh3 (by omega)
          refine lv_aload_n hx hb dX13_tryChanges_23 rfl (lv_at hl 1 rfl) ?_
          refine lv_iload_n hx hb dX13_tryChanges_24 rfl (lv_at hl 2 rfl) ?_
          refine lv_iconst (v := 1) hx hb dX13_tryChanges_25 (by decide) ?_
          refine lv_iadd hx hb dX13_tryChanges_26 ?_
          refine lv_topi (fun y153 ey153 => ?_)
          obtain ⟨ty153, iy153⟩ := ti_add (e := 1) (f := 4) i141 ln_1 ey153 (by decide)
          have ty153 : y153.toInt = a0.toInt + 1 := ty153
          have iy153 : 1 ≤ y153.toInt ∧ y153.toInt ≤ 4 := iy153
          refine th_v (va_runV (As := [.int y153]) (rest := []) ⟨hx, hb, hml, hown, hts⟩ ((gR k9 (by omega)) dC dI cT ad E149 H.size y153 ((N + (v11_2.toInt + 3).toNat * p7 ((xi (E 0) 86).toNatClampNeg - a0.toNatClampNeg - 1))) hI (iv_w iy153 (by decide)) (by omega) (by rw [show xi (E149 0) 86 = xi (E 0) 86 from hKp.ei 0 86 rfl]; omega) (by rw [show xi (E149 0) 86 = xi (E 0) 86 from hKp.ei 0 86 rfl, show y153.toNatClampNeg = a0.toNatClampNeg + 1 by rw [tn_ y153, tn_ a0]; omega]; exact k152.1) (by rw [show xi (E149 0) 86 = xi (E 0) 86 from hKp.ei 0 86 rfl, show y153.toNatClampNeg = a0.toNatClampNeg + 1 by rw [tn_ y153, tn_ a0]; omega, show xi (E149 64) = g151 from hg151]; intro s9 h9; exact dite (s9 = a0.toNatClampNeg) (fun q9 => by subst q9; rw [k152.2.1, eg151, upd_i]; omega) (fun q9 => by rw [k152.2.2.1 s9 (by omega), eg151, upd_j (by omega), hx11_1 s9 (by omega)]; exact k6 s9 (by omega))) (by rw [show xi (E149 0) 86 = xi (E 0) 86 from hKp.ei 0 86 rfl, show xi (E149 0) 88 = w11_0_88 from vi_e ((pw150.2 0 88 (fun q9 => absurd q9.1 (Nat.ne_of_beq_eq_false rfl))).trans hs11_0_88), show xi (E149 0) 89 = w11_0_89 from vi_e ((pw150.2 0 89 (fun q9 => absurd q9.1 (Nat.ne_of_beq_eq_false rfl))).trans hs11_0_89), show xi (E149 65) = g11_65 from ((pw150.ef 65 (Nat.ne_of_beq_eq_false rfl)).trans hr11_65), show sprM E149 (xi (E 0) 86).toNatClampNeg = sprM E (xi (E 0) 86).toNatClampNeg from (by unfold sprM; rw [hKp.ef 62 (fun _ => rfl), hKp.ef 63 (fun _ => rfl), hKp.ei 0 87 rfl])]; exact hx11_0) (by rw [show xi (E149 0) 86 = xi (E 0) 86 from hKp.ei 0 86 rfl]; have h9 := hh6; unfold evN at h9 ⊢; rw [hKp.ei 0 87 rfl, hKp.ef 62 (fun _ => rfl)]; exact h9)) (cwV 1 hts (gi_V (in_29 _ (zs16 (zs16 (zs4 (zs1 (zs0)))))) (in_29 _ (zs16 (zs16 (zs4 (zs1 (zs1 (zs0))))))) (in_29 _ (zs16 (zs16 (zs4 (zs1 (zs1 (zs1 (zs0)))))))) (in_24 _ (zs4 (zs4 (zs4 (zs1 (zs1 (zs1 (zs0)))))))) (in_30 _ zs0)) rfl rfl rfl (by decide +kernel) ⟨(show 2 * k9 + 1 + 1 ≤ 2 * n + 1 by omega), (show 8 + (9 + 11) + 40 * (2 * k9 + 1) ≤ 40 * (2 * n + 1) by omega)⟩) ⟨HW_bl, va_recv hK hP (ci := 14) (q0 := 0) rfl (hI.ob 0 (Nat.le_of_ble_eq_true rfl) rfl), (HW_wi hP hK (WX_D hD) hS hA hEV)⟩ rfl rfl hl.1 rfl (lv_room (Nat.le_of_ble_eq_true rfl)) dX13_tryChanges_27 ⟨Nat.le_of_ble_eq_true rfl, Nat.le_of_ble_eq_true rfl⟩) (WX_D hD) hS hA (fun E155 H locs hw hP hS => ?_)
          obtain ⟨hI, kq156, hw⟩ := hw
          have hKb := hKp
          have hKp := hKp.tr kq156 (wl_sub rfl rfl)
          obtain ⟨f157, f158⟩ := hw
          obtain ⟨g160, hg160⟩ : ∃ g, xi (E155 64) = g := ⟨_, rfl⟩
          obtain ⟨g161, hg161⟩ : ∃ g, xi (E155 65) = g := ⟨_, rfl⟩
          obtain ⟨y162, ey162⟩ : ∃ y, xi (E155 0) 88 = y := ⟨_, rfl⟩
          have fy162 : xv (E155 0) 88 = .int y162 := (hI.fi 0 (Nat.le_of_ble_eq_true rfl) rfl (Nat.le_of_ble_eq_true rfl) rfl).trans (congrArg Value.int ey162)
          obtain ⟨y163, ey163⟩ : ∃ y, xi (E155 0) 89 = y := ⟨_, rfl⟩
          have fy163 : xv (E155 0) 89 = .int y163 := (hI.fi 0 (Nat.le_of_ble_eq_true rfl) rfl (Nat.le_of_ble_eq_true rfl) rfl).trans (congrArg Value.int ey163)
          have k159 : BsK (sprM E (xi (E 0) 86).toNatClampNeg) (smF (xi (E 0) 86).toNatClampNeg) (xi (E 0) 86).toNatClampNeg ((N + (v11_2.toInt + 3).toNat * p7 ((xi (E 0) 86).toNatClampNeg - a0.toNatClampNeg - 1)) + p7 ((xi (E 0) 86).toNatClampNeg - (a0.toNatClampNeg + 1))) (xi (E155 0) 88).toInt (xi (E155 0) 89).toInt (fun s9 => (xi (E155 65) s9).toInt + 3) := by have h9 := f157; rw [show xi (E149 0) 86 = xi (E 0) 86 from hKb.ei 0 86 rfl, show y153.toNatClampNeg = a0.toNatClampNeg + 1 by rw [tn_ y153, tn_ a0]; omega, show sprM E149 (xi (E 0) 86).toNatClampNeg = sprM E (xi (E 0) 86).toNatClampNeg from (by unfold sprM; rw [hKb.ef 62 (fun _ => rfl), hKb.ef 63 (fun _ => rfl), hKb.ei 0 87 rfl])] at h9; exact h9
          obtain ⟨y164, ey164⟩ : ∃ y : Int32, y = v11_2 + (1 : Int32) := ⟨_, rfl⟩
          obtain ⟨ty164, iy164⟩ := ti_add (e := (-2)) (f := 4) i147 ln_1 ey164 (by decide)
          have ty164 : y164.toInt = v11_2.toInt + 1 := ty164
          have iy164 : -2 ≤ y164.toInt ∧ y164.toInt ≤ 4 := iy164
          refine lv_iinc (v := y164) (lv' := [(2, .int y164), (0, .ref (ad 0)), (1, .int a0)]) hx hb dX13_tryChanges_30 hl (k := 0) rfl (by rw [ey164]; rfl) (by decide) rfl (fun ls hl => ?_)
          refine lv_goto (tgt := 11) hx hb dX13_tryChanges_33 (by decide) ?_
          exact ih11 y162 y163 g160 g161 y164 E155 _ _ _ (iv_w iy164 (by decide)) (Or.inr (BsK.cg (g' := fun s9 => (g161 s9).toInt + 3) k159 rfl (by rw [show (y164.toInt + 3).toNat = (v11_2.toInt + 3).toNat + 1 by omega]; exact k152.2.2.2.1.symm) (by rw [show xi (E155 0) 88 = y162 from vi_e fy162]) (by rw [show xi (E155 0) 89 = y163 from vi_e fy163]) (fun s9 _ => by rw [show xi (E155 65) = g161 from hg161]))) (fun s9 h9 => (by rw [← (show xi (E155 64) = g160 from hg160), f158 s9 (by rw [show y153.toNatClampNeg = a0.toNatClampNeg + 1 by rw [tn_ y153, tn_ a0]; omega]; omega), show xi (E149 64) = g151 from hg151, eg151, upd_j (by omega)]; exact hx11_1 _ h9)) (by omega) (by first | exact ms_su hx11_3 ty164 (by decide) | omega) hI hKp fy162 fy163 hg160 hg161 hP hS (lv_sub hl [0, 1, 2] rfl)
    exact hL11 (8) y3 y4 g1 g2 (-3 : Int32) E _ _ _ (iv_w ln_m3 (by decide)) (TyI.cg k5 (by rw [show ((-3 : Int32).toInt + 3).toNat = 0 from rfl, Nat.zero_mul]; rfl) rfl rfl (fun s9 _ => rfl)) (fun s9 _ => rfl) (by have z9 := ln_m3; omega) (by have h9 := ln_m3; first | exact ms_bu h9.1 (by decide) | omega) hI hKp fy3 fy4 hg1 hg2 hP hS (lv_sub hl [0, 1, 2] rfl)
theorem q_tryAllX (l : Launch) : ∀ n, C_tryChangesX l n := by
  have key : ∀ n, ∀ k, k < n → C_tryChangesX l k := by
    intro n
    induction n with
    | zero => intro k hk; exact absurd hk (by omega)
    | succ n ih => intro k hk; exact q_tryChangesX l k (fun j hj => ih j (by omega))
  exact fun n => key (n + 1) n (by omega)
def v_findEvenM : List Cond := .code yX13_findEven cX13_findEven 6 (some .boolean) :: vA
abbrev rm_findEvenM : Room := { frames := 72, cells := 0, slots := 0, locals := 2880 }
def w_findEvenM : Nat → Nat → Bool := wl [12, 60, 62, 63, 64, 65] [(0, 0), (0, 18), (0, 19), (0, 20), (0, 21), (0, 22), (0, 23), (0, 24), (0, 25), (0, 26), (0, 86), (0, 87), (0, 88), (0, 89)]
set_option maxHeartbeats 4000000 in
set_option maxRecDepth 100000 in
theorem q_findEvenM (l : Launch) (dC : Nat → ClassId) (dI : Nat → Nat → Nat) (cT : Nat → ClassId) (ad : Nat → Nat) (E : Nat → va_E) (sz : Nat) (a0 : Int32) (hI0 : IX cT shM spM 72 ad E) (hh0 : TXM E) (hh1 : RSM E) : Met l yX13_findEven v_findEvenM rm_findEvenM (va_Pc [.ref (ad 0), .int a0] (HW dC dI (TYM cT) 72 ad E sz)) (va_Qi (S := Nat → va_E) (fun r u => IX cT shM spM 72 ad u ∧ Kp w_findEvenM E u ∧ ((r = 1 ∧ (SmB a0 (xi (E 0) 8)) ∧ (EvR (wyM E) (fnM E (xi (E 0) 1)) (seM E (xi (E 0) 1)) (nmM E (xi (E 0) 1)) (xi (E 0) 46).toNatClampNeg a0.toNatClampNeg (xi (E 0) 8).toNatClampNeg (fun m9 g9 b9 c9 => b9 = (xi (u 0) 88).toInt ∧ g9 = xi (u 60) ∧ (∀ s9 : Nat, s9 < m9 → c9 s9 = (xi (u 65) s9).toInt + 3) ∧ m9 = (xi (u 0) 86).toNatClampNeg))) ∨ (r = 0 ∧ (¬ SmB a0 (xi (E 0) 8))))) (HB dC dI 72 ad) (va_A (WX 72 ad E) sz)) 0 0 (va_A (WX 72 ad E) sz) := by
  refine Met.ofW (cc := cX13_findEven) (maxL := 6) (ret := (some .boolean)) (by decide) rfl ?_
  intro p e s m args below meth c s₁ B hml hv
  obtain ⟨hargs, hsz, hP, hK, hD0, hEV⟩ := hv
  subst hsz
  have hx := B.exec
  have hb := B.bytes
  have hr := B.returns
  have hts := atoms_spec (ws := v_findEvenM) B.pre
  have hown : s.vm.findClass RX13 = some m.cls := findClass_of_methodNamed B.named
  have hlocks := B.notSynchronized
  have hinX13 : ∀ w ∈ u_ws RX13 TX13 97, w ∈ v_findEvenM := fun w h => vA_in _ w (in_X13 w h)
  generalize hAe : va_A (WX 72 ad E) s.heap.size = A at hEV ⊢
  have hA : ∀ q : Nat, s.heap.size ≤ q → A q := fun q h => by rw [← hAe]; exact Or.inr h
  have hD : va_D A (WX 72 ad E) := by rw [← hAe]; exact hD0.self
  have hS : va_S A s.heap s.heap [] := va_S.rf
  have hI := hI0
  have hKp : Kp w_findEvenM E E := Kp.rf
  have hl := lv_entry ([.ref (ad 0), .int a0]) (n := 6) (Nat.le_of_ble_eq_true rfl)
  obtain ⟨Q, hQ⟩ : ∃ Q, Q = MQ below (va_Qi (S := Nat → va_E) (fun r u => IX cT shM spM 72 ad u ∧ Kp w_findEvenM E u ∧ ((r = 1 ∧ (SmB a0 (xi (E 0) 8)) ∧ (EvR (wyM E) (fnM E (xi (E 0) 1)) (seM E (xi (E 0) 1)) (nmM E (xi (E 0) 1)) (xi (E 0) 46).toNatClampNeg a0.toNatClampNeg (xi (E 0) 8).toNatClampNeg (fun m9 g9 b9 c9 => b9 = (xi (u 0) 88).toInt ∧ g9 = xi (u 60) ∧ (∀ s9 : Nat, s9 < m9 → c9 s9 = (xi (u 65) s9).toInt + 3) ∧ m9 = (xi (u 0) 86).toNatClampNeg))) ∨ (r = 0 ∧ (¬ SmB a0 (xi (E 0) 8))))) (HB dC dI 72 ad) (A)) args s 0 0 (A) := ⟨_, rfl⟩
  rw [← hQ, show entryFrame m args 6 = _ from (congrArg (fun z => entryFrame m z 6) hargs).trans (lg_entry_eq _ _ _)]
  generalize (lg_sl ([.ref (ad 0), .int a0]) ++ List.replicate (6 - (lg_sl ([.ref (ad 0), .int a0])).length) Slot.unset).toArray = ls at hl ⊢
  have hl : lv_has ls 6 [(0, .ref (ad 0)), (1, .int a0)] := hl
  obtain ⟨g1, hg1⟩ : ∃ g, xi (E 60) = g := ⟨_, rfl⟩
  obtain ⟨g2, hg2⟩ : ∃ g, xi (E 62) = g := ⟨_, rfl⟩
  obtain ⟨g3, hg3⟩ : ∃ g, xi (E 63) = g := ⟨_, rfl⟩
  obtain ⟨g4, hg4⟩ : ∃ g, xi (E 64) = g := ⟨_, rfl⟩
  obtain ⟨g5, hg5⟩ : ∃ g, xi (E 65) = g := ⟨_, rfl⟩
  have z0z : (0 : Int32).toInt = 0 := rfl
  have ib8 : 0 ≤ (xi (E 0) 8).toInt ∧ (xi (E 0) 8).toInt ≤ 16 := hI0.iv 0 (Nat.le_of_ble_eq_true rfl) rfl (Nat.le_of_ble_eq_true rfl) rfl
  have ib46 : 0 ≤ (xi (E 0) 46).toInt ∧ (xi (E 0) 46).toInt ≤ 20 := hI0.iv 0 (Nat.le_of_ble_eq_true rfl) rfl (Nat.le_of_ble_eq_true rfl) rfl
  have z0 := ln_0
  have z1 := ln_1
  have zm1 := ln_m1
  refine lv_aload_n hx hb dX13_findEven_0 rfl (lv_at hl 0 rfl) ?_
  refine lv_iconst (v := 0) hx hb dX13_findEven_1 (by decide) ?_
  refine th_put (ci := 14) (C := RX13) (T := TX13) (N := 97) (v := .int 0) (ty := .int) hx hb hts hinX13 tyX13 tyX13_ok nmX13 hown hK hP (WX_D hD) hS hI 0 (Nat.le_of_ble_eq_true rfl) rfl rfl 0 (Nat.le_of_ble_eq_true rfl) (hts _ (vA_in _ _ (in_24 _ (zs4 (zs4 (zs1 (zs1 (zs0)))))))) (fun _ h9 => h9) rfl (by decide +kernel) rfl rfl (okI rfl (iv_w ln_0 (by decide))) dX13_findEven_2 (fun H locs E6 pw7 hI hP hS => ?_)
  have hKp := hKp.pw pw7 rfl
  refine lv_iload_n hx hb dX13_findEven_5 rfl (lv_at hl 1 rfl) ?_
  refine lv_iconst (v := 1) hx hb dX13_findEven_6 (by decide) ?_
  refine lv_iconst (v := 1) hx hb dX13_findEven_7 (by decide) ?_
  refine lv_aload_n hx hb dX13_findEven_8 rfl (lv_at hl 0 rfl) ?_
  have i8 : 0 ≤ (xi (E 0) 8).toInt ∧ (xi (E 0) 8).toInt ≤ 16 := hI0.iv 0 (Nat.le_of_ble_eq_true rfl) rfl (Nat.le_of_ble_eq_true rfl) rfl
  refine th_get (ci := 14) (C := RX13) (T := TX13) (N := 97) (v := .int (xi (E 0) 8)) hx hb hts hinX13 hown hK hP hI 0 (Nat.le_of_ble_eq_true rfl) rfl rfl 8 (Nat.le_of_ble_eq_true rfl) (hts _ (vA_in _ _ (in_24 _ (zs16 (zs4 (zs1 (zs1 (zs0)))))))) (fun _ h9 => h9) (th_v0 hKp hI0 0 (Nat.le_of_ble_eq_true rfl) rfl (Nat.le_of_ble_eq_true rfl) rfl rfl) dX13_findEven_9 ?_
  refine lv_ishl hx hb dX13_findEven_12 ?_
  refine lv_topi (fun y9 ey9 => ?_)
  have iy9 : 1 ≤ y9.toInt ∧ y9.toInt ≤ 65536 := ti_shl1 i8 ey9 (by decide)
  have k10 : y9.toInt = ((2 ^ (xi (E 0) 8).toNatClampNeg : Nat) : Int) := ti_shlN ib8 ey9
  refine lv_iconst (v := 1) hx hb dX13_findEven_13 (by decide) ?_
  refine lv_isub hx hb dX13_findEven_14 ?_
  refine lv_topi (fun y11 ey11 => ?_)
  obtain ⟨ty11, iy11⟩ := ti_sub (e := 0) (f := 65535) iy9 ln_1 ey11 (by decide)
  have ty11 : y11.toInt = y9.toInt - 1 := ty11
  have iy11 : 0 ≤ y11.toInt ∧ y11.toInt ≤ 65535 := iy11
  refine th_pi (va_runS (As := [.int a0, .int 1, .int y11]) (rest := []) ⟨hx, hb, hml, hown, hts⟩ (q_isIn l a0 (1 : Int32) y11) (va_cwS 3 hts (gi_S (in_24 _ (zs16 (zs4 (zs4 (zs4 (zs0)))))) (in_24 _ (zs16 (zs4 (zs4 (zs4 (zs1 (zs0))))))) (in_24 _ (zs4 (zs4 (zs4 (zs1 (zs1 (zs1 (zs0)))))))) (in_24 _ (zs16 (zs4 (zs4 (zs4 (zs1 (zs1 (zs0))))))))) rfl rfl rfl hz_yX13_isIn_3 ⟨Nat.le_of_ble_eq_true rfl, Nat.le_of_ble_eq_true rfl⟩) ⟨fun _ _ _ _ q => q, fun _ _ _ => ⟨rfl, trivial⟩⟩ rfl rfl hl.1 rfl (lv_room (Nat.le_of_ble_eq_true rfl)) dX13_findEven_15 ⟨Nat.le_of_ble_eq_true rfl, Nat.le_of_ble_eq_true rfl⟩) hS (fun r12 H1 locs1 hw hk1 hS => ?_)
  have hP := ub_keep hP hk1
  generalize H1 = H at hP hS ⊢
  generalize locs1 = locs at hS ⊢
  rcases hw with hw | hw
  · -- isIn, case 0
    obtain ⟨rfl, f13⟩ := hw
    have t14 : (1 : Int) ≤ a0.toInt := f13.1
    have t15 : a0.toInt ≤ y11.toInt := f13.2
    have i16 : 1 ≤ a0.toInt ∧ a0.toInt ≤ 2147483647 := iv_le_r t14 (il_ 1) (iv_all _) (by decide)
    have i17 : 1 ≤ a0.toInt ∧ a0.toInt ≤ 65535 := iv_le_l t15 i16 iy11 (by decide)
    have i18 : 1 ≤ y11.toInt ∧ y11.toInt ≤ 65535 := iv_le_r t15 i16 iy11 (by decide)
    refine lv_if_eq (tgt := 37) hx hb dX13_findEven_18 (by decide) (fun c19 => ?_) (fun c19 => ?_)
    · --18 taken
      exact absurd c19 (by decide)
    · --18 not
      refine lv_iload_n hx hb dX13_findEven_21 rfl (lv_at hl 1 rfl) ?_
      refine th_pi (va_runS (As := [.int a0]) (rest := []) ⟨hx, hb, hml, hown, hts⟩ (q_bitCount l a0 (iv_w i17 (by decide))) (va_cwS 1 hts (gi_S (in_27 _ (zs16 (zs16 (zs1 (zs1 (zs1 (zs0))))))) (in_4 _ (zs16 (zs4 (zs4 (zs1 (zs1 (zs0))))))) (in_4 _ (zs16 (zs4 (zs4 (zs1 (zs1 (zs1 (zs0)))))))) (in_2 _ (zs4 (zs4 (zs1 (zs1 (zs0))))))) rfl rfl rfl hz_yJ6_bitCount_0f7a4_1 ⟨Nat.le_of_ble_eq_true rfl, Nat.le_of_ble_eq_true rfl⟩) ⟨fun _ _ _ _ q => q, fun _ _ _ => ⟨rfl, trivial⟩⟩ rfl rfl hl.1 rfl (lv_room (Nat.le_of_ble_eq_true rfl)) dX13_findEven_22 ⟨Nat.le_of_ble_eq_true rfl, Nat.le_of_ble_eq_true rfl⟩) hS (fun r20 H1 locs1 hw hk1 hS => ?_)
      have hP := ub_keep hP hk1
      generalize H1 = H at hP hS ⊢
      generalize locs1 = locs at hS ⊢
      have f21 := hw
      refine lv_iconst (v := 2) hx hb dX13_findEven_25 (by decide) ?_
      refine lv_icmp_lt (tgt := 37) hx hb dX13_findEven_26 (by decide) (fun c22 => ?_) (fun c22 => ?_)
      · --26 taken
        have t23 : r20.toInt < 2 := ti_lt c22
        have i24 : -2147483648 ≤ r20.toInt ∧ r20.toInt ≤ 1 := iv_lt_l t23 (iv_all _) (il_ 2) (by decide)
        refine lv_iconst (v := 0) hx hb dX13_findEven_37 (by decide) ?_
        rw [hQ]
        exact W.zret (v := 0) hx hb hr rfl (fun t ht hW => ⟨⟨0, E6, rfl, ⟨hI, hKp, Or.inr (⟨rfl, (SmB.no (show y9.toInt.toNat = 2 ^ (xi (E 0) 8).toNatClampNeg by omega) f21 (by omega))⟩)⟩, by show va_P (dC, dI) vwCl (WX 72 ad E6) t.heap; rw [ht]; exact hP⟩, hS.F ht⟩) hS.2.2 dX13_findEven_38
      · --26 not
        have t25 : (2 : Int) ≤ r20.toInt := ti_nlt c22
        have i26 : 2 ≤ r20.toInt ∧ r20.toInt ≤ 2147483647 := iv_le_r t25 (il_ 2) (iv_all _) (by decide)
        refine lv_iload_n hx hb dX13_findEven_29 rfl (lv_at hl 1 rfl) ?_
        refine th_pi (va_runS (As := [.int a0]) (rest := []) ⟨hx, hb, hml, hown, hts⟩ (q_bitCount l a0 (iv_w i17 (by decide))) (va_cwS 1 hts (gi_S (in_27 _ (zs16 (zs16 (zs1 (zs1 (zs1 (zs0))))))) (in_4 _ (zs16 (zs4 (zs4 (zs1 (zs1 (zs0))))))) (in_4 _ (zs16 (zs4 (zs4 (zs1 (zs1 (zs1 (zs0)))))))) (in_2 _ (zs4 (zs4 (zs1 (zs1 (zs0))))))) rfl rfl rfl hz_yJ6_bitCount_0f7a4_1 ⟨Nat.le_of_ble_eq_true rfl, Nat.le_of_ble_eq_true rfl⟩) ⟨fun _ _ _ _ q => q, fun _ _ _ => ⟨rfl, trivial⟩⟩ rfl rfl hl.1 rfl (lv_room (Nat.le_of_ble_eq_true rfl)) dX13_findEven_30 ⟨Nat.le_of_ble_eq_true rfl, Nat.le_of_ble_eq_true rfl⟩) hS (fun r27 H1 locs1 hw hk1 hS => ?_)
        have hP := ub_keep hP hk1
        generalize H1 = H at hP hS ⊢
        generalize locs1 = locs at hS ⊢
        have f28 := hw
        refine lv_iconst (v := 4) hx hb dX13_findEven_33 (by decide) ?_
        refine lv_icmp_le (tgt := 39) hx hb dX13_findEven_34 (by decide) (fun c29 => ?_) (fun c29 => ?_)
        · --34 taken
          have t30 : r27.toInt ≤ 4 := ti_le c29
          have i31 : -2147483648 ≤ r27.toInt ∧ r27.toInt ≤ 4 := iv_le_l t30 (iv_all _) (il_ 4) (by decide)
          have k32 : SmB a0 (xi (E 0) 8) := SmB.of (show y9.toInt.toNat = 2 ^ (xi (E 0) 8).toNatClampNeg by omega) f28 (by have h9 := f21; have h8 := f28; omega)
          refine lv_aload_n hx hb dX13_findEven_39 rfl (lv_at hl 0 rfl) ?_
          refine lv_iconst (v := 0) hx hb dX13_findEven_40 (by decide) ?_
          refine th_put (ci := 14) (C := RX13) (T := TX13) (N := 97) (v := .int 0) (ty := .int) hx hb hts hinX13 tyX13 tyX13_ok nmX13 hown hK hP (WX_D hD) hS hI 0 (Nat.le_of_ble_eq_true rfl) rfl rfl 86 (Nat.le_of_ble_eq_true rfl) (hts _ (vA_in _ _ (in_27 _ (zs16 (zs4 (zs1 (zs1 (zs0)))))))) (fun _ h9 => h9) rfl (by decide +kernel) rfl rfl (okI rfl (iv_w ln_0 (by decide))) dX13_findEven_41 (fun H locs E33 pw34 hI hP hS => ?_)
          have hKp := hKp.pw pw34 rfl
          refine lv_iconst (v := 0) hx hb dX13_findEven_44 (by decide) ?_
          refine lv_istore_n (lv' := [(2, .int 0), (0, .ref (ad 0)), (1, .int a0)]) hx hb dX13_findEven_45 rfl hl (by decide) rfl (fun ls hl => ?_)
          have hL46 : ∀ d : Nat, ∀ (w46_0_86 : Int32) (g46_60 : Nat → Int32) (v46_2 : Int32) (E46_ : Nat → va_E) (H : Heap) (locs : List Loc) (ls : Array Slot), 0 ≤ w46_0_86.toInt ∧ w46_0_86.toInt ≤ 4 → 0 ≤ v46_2.toInt ∧ v46_2.toInt ≤ 16 → EvL a0.toNatClampNeg v46_2.toNatClampNeg w46_0_86.toNatClampNeg g46_60 → v46_2.toInt ≤ (xi (E 0) 8).toInt → 16 - v46_2.toInt < (d : Int) → IX cT shM spM 72 ad E46_ → Kp w_findEvenM E E46_ → xv (E46_ 0) 86 = .int w46_0_86 → xv (E46_ 0) 0 = .int 0 → xi (E46_ 60) = g46_60 → xi (E46_ 62) = g2 → xi (E46_ 63) = g3 → xi (E46_ 64) = g4 → xi (E46_ 65) = g5 → va_P (dC, dI) vwCl (WX 72 ad E46_) H → va_S A s.heap H locs → lv_has ls 6 [(2, .int v46_2), (0, .ref (ad 0)), (1, .int a0)] → W p l e (headSpec v_findEvenM rm_findEvenM).room s m args below meth c H locs 0 0 Q (F0 m 46 ls []) := by
            intro d
            induction d with
            | zero =>
              intro w46_0_86 g46_60 v46_2 E46_ H locs ls hw46_0_86 hv46_2 hx46_0 hx46_1 hx46_2 hI hKp hs46_0_86 hs46_0_0 hr46_60 hr46_62 hr46_63 hr46_64 hr46_65 hP hS hl
              exact absurd hx46_2 (by first | exact ms_zu hv46_2.2 | omega)
            | succ d ih46 =>
              intro w46_0_86 g46_60 v46_2 E46_ H locs ls hw46_0_86 hv46_2 hx46_0 hx46_1 hx46_2 hI hKp hs46_0_86 hs46_0_0 hr46_60 hr46_62 hr46_63 hr46_64 hr46_65 hP hS hl
              refine lv_iload_n hx hb dX13_findEven_46 rfl (lv_at hl 0 rfl) ?_
              refine lv_aload_n hx hb dX13_findEven_47 rfl (lv_at hl 1 rfl) ?_
              refine th_get (ci := 14) (C := RX13) (T := TX13) (N := 97) (v := .int (xi (E 0) 8)) hx hb hts hinX13 hown hK hP hI 0 (Nat.le_of_ble_eq_true rfl) rfl rfl 8 (Nat.le_of_ble_eq_true rfl) (hts _ (vA_in _ _ (in_24 _ (zs16 (zs4 (zs1 (zs1 (zs0)))))))) (fun _ h9 => h9) (th_v0 hKp hI0 0 (Nat.le_of_ble_eq_true rfl) rfl (Nat.le_of_ble_eq_true rfl) rfl rfl) dX13_findEven_48 ?_
              refine lv_icmp_ge (tgt := 91) hx hb dX13_findEven_51 (by decide) (fun c35 => ?_) (fun c35 => ?_)
              · --51 taken
                have t36 : (xi (E 0) 8).toInt ≤ v46_2.toInt := ti_le c35
                have k37 : EvL a0.toNatClampNeg (xi (E 0) 8).toNatClampNeg w46_0_86.toNatClampNeg g46_60 := by have h9 := hx46_0; rw [show v46_2.toNatClampNeg = (xi (E 0) 8).toNatClampNeg by rw [tn_, tn_]; omega] at h9; exact h9
                have k38 : w46_0_86.toNatClampNeg ≤ 4 := by have h9 := (EvL.num _ _ _ k37).1; have h8 := pcS_mono a0.toNatClampNeg (show (xi (E 0) 8).toNatClampNeg ≤ 16 by rw [tn_]; omega); have h7 := k32.2.2; omega
                refine lv_aload_n hx hb dX13_findEven_91 rfl (lv_at hl 1 rfl) ?_
                refine lv_iconst (v := 0) hx hb dX13_findEven_92 (by decide) ?_
                refine th_put (ci := 14) (C := RX13) (T := TX13) (N := 97) (v := .int 0) (ty := .int) hx hb hts hinX13 tyX13 tyX13_ok nmX13 hown hK hP (WX_D hD) hS hI 0 (Nat.le_of_ble_eq_true rfl) rfl rfl 87 (Nat.le_of_ble_eq_true rfl) (hts _ (vA_in _ _ (in_27 _ (zs16 (zs4 (zs4 (zs4 (zs1 (zs0))))))))) (fun _ h9 => h9) rfl (by decide +kernel) rfl rfl (okI rfl (iv_w ln_0 (by decide))) dX13_findEven_93 (fun H locs E39 pw40 hI hP hS => ?_)
                have hKp := hKp.pw pw40 rfl
                refine lv_iconst (v := 0) hx hb dX13_findEven_96 (by decide) ?_
                refine lv_istore_n (lv' := [(2, .int 0), (0, .ref (ad 0)), (1, .int a0)]) hx hb dX13_findEven_97 rfl hl (by decide) rfl (fun ls hl => ?_)
                have hL98 : ∀ d : Nat, ∀ (w98_0_87 : Int32) (g98_62 : Nat → Int32) (g98_63 : Nat → Int32) (v98_2 : Int32) (E98_ : Nat → va_E) (H : Heap) (locs : List Loc) (ls : Array Slot), 0 ≤ w98_0_87.toInt ∧ w98_0_87.toInt ≤ 20 → 0 ≤ v98_2.toInt ∧ v98_2.toInt ≤ 20 → TbR (cnG (wyM E) (fnM E (xi (E 0) 1)) w46_0_86.toNatClampNeg g46_60) (qtG (fnM E (xi (E 0) 1)) (seM E (xi (E 0) 1)) (nmM E (xi (E 0) 1)) w46_0_86.toNatClampNeg g46_60) v98_2.toNatClampNeg w98_0_87.toNatClampNeg (evM g98_62 g98_63) → w98_0_87.toInt ≤ v98_2.toInt → v98_2.toInt ≤ (xi (E 0) 46).toInt → 20 - v98_2.toInt < (d : Int) → IX cT shM spM 72 ad E98_ → Kp w_findEvenM E E98_ → xv (E98_ 0) 87 = .int w98_0_87 → xv (E98_ 0) 86 = .int w46_0_86 → xv (E98_ 0) 0 = .int 0 → xi (E98_ 60) = g46_60 → xi (E98_ 62) = g98_62 → xi (E98_ 63) = g98_63 → xi (E98_ 64) = g4 → xi (E98_ 65) = g5 → va_P (dC, dI) vwCl (WX 72 ad E98_) H → va_S A s.heap H locs → lv_has ls 6 [(2, .int v98_2), (0, .ref (ad 0)), (1, .int a0)] → W p l e (headSpec v_findEvenM rm_findEvenM).room s m args below meth c H locs 0 0 Q (F0 m 98 ls []) := by
                  intro d
                  induction d with
                  | zero =>
                    intro w98_0_87 g98_62 g98_63 v98_2 E98_ H locs ls hw98_0_87 hv98_2 hx98_0 hx98_1 hx98_2 hx98_3 hI hKp hs98_0_87 hs98_0_86 hs98_0_0 hr98_60 hr98_62 hr98_63 hr98_64 hr98_65 hP hS hl
                    exact absurd hx98_3 (by first | exact ms_zu hv98_2.2 | omega)
                  | succ d ih98 =>
                    intro w98_0_87 g98_62 g98_63 v98_2 E98_ H locs ls hw98_0_87 hv98_2 hx98_0 hx98_1 hx98_2 hx98_3 hI hKp hs98_0_87 hs98_0_86 hs98_0_0 hr98_60 hr98_62 hr98_63 hr98_64 hr98_65 hP hS hl
                    refine lv_iload_n hx hb dX13_findEven_98 rfl (lv_at hl 0 rfl) ?_
                    refine lv_aload_n hx hb dX13_findEven_99 rfl (lv_at hl 1 rfl) ?_
                    have i41 : 0 ≤ (xi (E 0) 46).toInt ∧ (xi (E 0) 46).toInt ≤ 20 := hI0.iv 0 (Nat.le_of_ble_eq_true rfl) rfl (Nat.le_of_ble_eq_true rfl) rfl
                    refine th_get (ci := 14) (C := RX13) (T := TX13) (N := 97) (v := .int (xi (E 0) 46)) hx hb hts hinX13 hown hK hP hI 0 (Nat.le_of_ble_eq_true rfl) rfl rfl 46 (Nat.le_of_ble_eq_true rfl) (hts _ (vA_in _ _ (in_24 _ (zs16 (zs1 (zs0)))))) (fun _ h9 => h9) (th_v0 hKp hI0 0 (Nat.le_of_ble_eq_true rfl) rfl (Nat.le_of_ble_eq_true rfl) rfl rfl) dX13_findEven_100 ?_
                    refine lv_icmp_ge (tgt := 278) hx hb dX13_findEven_103 (by decide) (fun c42 => ?_) (fun c42 => ?_)
                    · --103 taken
                      have t43 : (xi (E 0) 46).toInt ≤ v98_2.toInt := ti_le c42
                      have k44 : TbR (cnG (wyM E) (fnM E (xi (E 0) 1)) w46_0_86.toNatClampNeg g46_60) (qtG (fnM E (xi (E 0) 1)) (seM E (xi (E 0) 1)) (nmM E (xi (E 0) 1)) w46_0_86.toNatClampNeg g46_60) (xi (E 0) 46).toNatClampNeg w98_0_87.toNatClampNeg (evM g98_62 g98_63) := by have h9 := hx98_0; rw [show v98_2.toNatClampNeg = (xi (E 0) 46).toNatClampNeg by rw [tn_, tn_]; omega] at h9; exact h9
                      have k45 := tb_evN hh1 k44
                      refine lv_aload_n hx hb dX13_findEven_278 rfl (lv_at hl 1 rfl) ?_
                      refine lv_iconst (v := -1) hx hb dX13_findEven_279 (by decide) ?_
                      refine th_put (ci := 14) (C := RX13) (T := TX13) (N := 97) (v := .int (-1)) (ty := .int) hx hb hts hinX13 tyX13 tyX13_ok nmX13 hown hK hP (WX_D hD) hS hI 0 (Nat.le_of_ble_eq_true rfl) rfl rfl 88 (Nat.le_of_ble_eq_true rfl) (hts _ (vA_in _ _ (in_27 _ (zs16 (zs16 (zs1 (zs1 (zs0)))))))) (fun _ h9 => h9) rfl (by decide +kernel) rfl rfl (okI rfl (iv_w ln_m1 (by decide))) dX13_findEven_280 (fun H locs E46 pw47 hI hP hS => ?_)
                      have hKp := hKp.pw pw47 rfl
                      refine lv_aload_n hx hb dX13_findEven_283 rfl (lv_at hl 1 rfl) ?_
                      refine lv_iconst (v := 0) hx hb dX13_findEven_284 (by decide) ?_
                      refine th_v (va_runV (As := [.int 0]) (rest := []) ⟨hx, hb, hml, hown, hts⟩ ((q_tryAllX l 4) dC dI cT ad E46 H.size (0 : Int32) 0 hI (iv_w ln_0 (by decide)) (by omega) (by rw [show xi (E46 0) 86 = w46_0_86 from vi_e ((pw47.2 0 86 (fun q9 => absurd q9.2 (Nat.ne_of_beq_eq_false rfl))).trans hs98_0_86)]; omega) (by exact ⟨0, (Nat.zero_mul _).symm⟩) (by intro s9 h9; exact absurd h9 (Nat.not_lt_zero s9)) (by exact Or.inl ⟨rfl, (congrArg Int32.toInt (show xi (E46 0) 88 = -1 from vi_e pw47.1)).trans (by decide)⟩) (by unfold evN; rw [show xi (E46 0) 86 = w46_0_86 from vi_e ((pw47.2 0 86 (fun q9 => absurd q9.2 (Nat.ne_of_beq_eq_false rfl))).trans hs98_0_86), show xi (E46 0) 87 = w98_0_87 from vi_e ((pw47.2 0 87 (fun q9 => absurd q9.2 (Nat.ne_of_beq_eq_false rfl))).trans hs98_0_87), show xi (E46 62) = g98_62 from ((pw47.ef 62 (Nat.ne_of_beq_eq_false rfl)).trans hr98_62)]; exact k45)) (cwV 1 hts (gi_V (in_29 _ (zs16 (zs16 (zs4 (zs1 (zs0)))))) (in_29 _ (zs16 (zs16 (zs4 (zs1 (zs1 (zs0))))))) (in_29 _ (zs16 (zs16 (zs4 (zs1 (zs1 (zs1 (zs0)))))))) (in_24 _ (zs4 (zs4 (zs4 (zs1 (zs1 (zs1 (zs0)))))))) (in_30 _ zs0)) rfl rfl rfl (by decide +kernel) ⟨(show 2 * 4 + 1 + 1 ≤ 72 from Nat.le_of_ble_eq_true rfl), (show 8 + (9 + 11) + 40 * (2 * 4 + 1) ≤ 40 * (72) from Nat.le_of_ble_eq_true rfl)⟩) ⟨HW_bl, va_recv hK hP (ci := 14) (q0 := 0) rfl (hI.ob 0 (Nat.le_of_ble_eq_true rfl) rfl), (HW_wi hP hK (WX_D hD) hS hA hEV)⟩ rfl rfl hl.1 rfl (lv_room (Nat.le_of_ble_eq_true rfl)) dX13_findEven_285 ⟨Nat.le_of_ble_eq_true rfl, Nat.le_of_ble_eq_true rfl⟩) (WX_D hD) hS hA (fun E49 H locs hw hP hS => ?_)
                      obtain ⟨hI, kq50, hw⟩ := hw
                      have hKb := hKp
                      have hKp := hKp.tr kq50 (wl_sub rfl rfl)
                      obtain ⟨f51, f52⟩ := hw
                      obtain ⟨g54, hg54⟩ : ∃ g, xi (E49 65) = g := ⟨_, rfl⟩
                      obtain ⟨y55, ey55⟩ : ∃ y, xi (E49 0) 88 = y := ⟨_, rfl⟩
                      have fy55 : xv (E49 0) 88 = .int y55 := (hI.fi 0 (Nat.le_of_ble_eq_true rfl) rfl (Nat.le_of_ble_eq_true rfl) rfl).trans (congrArg Value.int ey55)
                      have k53 : BsK (spF (evM g98_62 g98_63) w98_0_87.toNatClampNeg w46_0_86.toNatClampNeg) (smF w46_0_86.toNatClampNeg) w46_0_86.toNatClampNeg (p7 w46_0_86.toNatClampNeg) (xi (E49 0) 88).toInt (xi (E49 0) 89).toInt (fun s9 => (xi (E49 65) s9).toInt + 3) := by
                        have h9 := f51
                        rw [show xi (E46 0) 86 = w46_0_86 from vi_e ((pw47.2 0 86 (fun q9 => absurd q9.2 (Nat.ne_of_beq_eq_false rfl))).trans hs98_0_86)] at h9
                        exact BsK.cg h9 (by unfold sprM; rw [show xi (E46 0) 87 = w98_0_87 from vi_e ((pw47.2 0 87 (fun q9 => absurd q9.2 (Nat.ne_of_beq_eq_false rfl))).trans hs98_0_87), show xi (E46 62) = g98_62 from ((pw47.ef 62 (Nat.ne_of_beq_eq_false rfl)).trans hr98_62), show xi (E46 63) = g98_63 from ((pw47.ef 63 (Nat.ne_of_beq_eq_false rfl)).trans hr98_63)]) (by rw [show (0 : Int32).toNatClampNeg = 0 from rfl, Nat.sub_zero, Nat.zero_add]) rfl rfl (fun s9 _ => rfl)
                      refine lv_iconst (v := 1) hx hb dX13_findEven_288 (by decide) ?_
                      rw [hQ]
                      exact W.zret (v := 1) hx hb hr rfl (fun t ht hW => ⟨⟨1, E49, rfl, ⟨hI, hKp, Or.inl ⟨rfl, k32, (ev_mk k37 k44 k53 (by rw [show xi (E49 0) 88 = y55 from vi_e fy55]) (by rw [show xi (E49 60) = g46_60 from ((kq50.ef 60 (fun _ => rfl)).trans ((pw47.ef 60 (Nat.ne_of_beq_eq_false rfl)).trans hr98_60))]) rfl (by rw [show xi (E49 0) 86 = w46_0_86 from vi_e ((kq50 0 86 rfl).trans ((pw47.2 0 86 (fun q9 => absurd q9.2 (Nat.ne_of_beq_eq_false rfl))).trans hs98_0_86))]))⟩⟩, by show va_P (dC, dI) vwCl (WX 72 ad E49) t.heap; rw [ht]; exact hP⟩, hS.F ht⟩) hS.2.2 dX13_findEven_289
                    · --103 not
                      have t56 : v98_2.toInt < (xi (E 0) 46).toInt := ti_nle c42
                      have i57 : 0 ≤ v98_2.toInt ∧ v98_2.toInt ≤ 19 := iv_lt_l t56 hv98_2 i41 (by decide)
                      have i58 : 1 ≤ (xi (E 0) 46).toInt ∧ (xi (E 0) 46).toInt ≤ 20 := iv_lt_r t56 hv98_2 i41 (by decide)
                      have i59 : 0 ≤ w98_0_87.toInt ∧ w98_0_87.toInt ≤ 19 := by omega
                      refine lv_iconst (v := 0) hx hb dX13_findEven_106 (by decide) ?_
                      refine lv_istore_n (lv' := [(3, .int 0), (2, .int v98_2), (0, .ref (ad 0)), (1, .int a0)]) hx hb dX13_findEven_107 rfl hl (by decide) rfl (fun ls hl => ?_)
                      refine lv_iconst (v := 0) hx hb dX13_findEven_108 (by decide) ?_
                      refine lv_istore (lv' := [(4, .int 0), (3, .int 0), (2, .int v98_2), (0, .ref (ad 0)), (1, .int a0)]) hx hb dX13_findEven_109 hl (by decide) rfl (fun ls hl => ?_)
                      have hL111 : ∀ d : Nat, ∀ (g111_62 : Nat → Int32) (g111_63 : Nat → Int32) (v111_4 : Int32) (v111_3 : Int32) (E111_ : Nat → va_E) (H : Heap) (locs : List Loc) (ls : Array Slot), 0 ≤ v111_4.toInt ∧ v111_4.toInt ≤ 4 → 0 ≤ v111_3.toInt ∧ v111_3.toInt ≤ 4 → CnR (fun j9 => fnM E (xi (E 0) 1) v98_2.toNatClampNeg (g46_60 j9).toNatClampNeg) v111_4.toNatClampNeg v111_3.toInt → (∀ x9 : Nat, x9 < 4 * w98_0_87.toNatClampNeg → g111_62 x9 = g98_62 x9) → (∀ x9 : Nat, x9 < 4 * w98_0_87.toNatClampNeg → g111_63 x9 = g98_63 x9) → (∀ j9 : Nat, j9 < v111_4.toNatClampNeg → qcM E (xi (E 0) 1) v98_2.toNatClampNeg (g46_60 j9).toNatClampNeg (g111_62 (4 * w98_0_87.toNatClampNeg + j9)).toInt (g111_63 (4 * w98_0_87.toNatClampNeg + j9)).toInt) → v111_4.toInt ≤ w46_0_86.toInt → 4 - v111_4.toInt < (d : Int) → IX cT shM spM 72 ad E111_ → Kp w_findEvenM E E111_ → xv (E111_ 0) 87 = .int w98_0_87 → xv (E111_ 0) 86 = .int w46_0_86 → xv (E111_ 0) 0 = .int 0 → xi (E111_ 60) = g46_60 → xi (E111_ 62) = g111_62 → xi (E111_ 63) = g111_63 → xi (E111_ 64) = g4 → xi (E111_ 65) = g5 → va_P (dC, dI) vwCl (WX 72 ad E111_) H → va_S A s.heap H locs → lv_has ls 6 [(4, .int v111_4), (3, .int v111_3), (2, .int v98_2), (0, .ref (ad 0)), (1, .int a0)] → W p l e (headSpec v_findEvenM rm_findEvenM).room s m args below meth c H locs 0 0 Q (F0 m 111 ls []) := by
                        intro d
                        induction d with
                        | zero =>
                          intro g111_62 g111_63 v111_4 v111_3 E111_ H locs ls hv111_4 hv111_3 hx111_0 hx111_1 hx111_2 hx111_3 hx111_4 hx111_5 hI hKp hs111_0_87 hs111_0_86 hs111_0_0 hr111_60 hr111_62 hr111_63 hr111_64 hr111_65 hP hS hl
                          exact absurd hx111_5 (by first | exact ms_zu hv111_4.2 | omega)
                        | succ d ih111 =>
                          intro g111_62 g111_63 v111_4 v111_3 E111_ H locs ls hv111_4 hv111_3 hx111_0 hx111_1 hx111_2 hx111_3 hx111_4 hx111_5 hI hKp hs111_0_87 hs111_0_86 hs111_0_0 hr111_60 hr111_62 hr111_63 hr111_64 hr111_65 hP hS hl
                          refine lv_iload hx hb dX13_findEven_111 (lv_at hl 0 rfl) ?_
                          refine lv_aload_n hx hb dX13_findEven_113 rfl (lv_at hl 3 rfl) ?_
                          refine th_get (ci := 14) (C := RX13) (T := TX13) (N := 97) (v := .int w46_0_86) hx hb hts hinX13 hown hK hP hI 0 (Nat.le_of_ble_eq_true rfl) rfl rfl 86 (Nat.le_of_ble_eq_true rfl) (hts _ (vA_in _ _ (in_27 _ (zs16 (zs4 (zs1 (zs1 (zs0)))))))) (fun _ h9 => h9) hs111_0_86 dX13_findEven_114 ?_
                          refine lv_icmp_ge (tgt := 248) hx hb dX13_findEven_117 (by decide) (fun c60 => ?_) (fun c60 => ?_)
                          · --117 taken
                            have t61 : w46_0_86.toInt ≤ v111_4.toInt := ti_le c60
                            have k62 : CnR (fun j9 => fnM E (xi (E 0) 1) v98_2.toNatClampNeg (g46_60 j9).toNatClampNeg) w46_0_86.toNatClampNeg v111_3.toInt := by have z9 := hx111_0; rw [show v111_4.toNatClampNeg = w46_0_86.toNatClampNeg by rw [tn_, tn_]; omega] at z9; exact z9
                            refine lv_aload_n hx hb dX13_findEven_248 rfl (lv_at hl 3 rfl) ?_
                            refine th_get (ci := 14) (C := RX13) (T := TX13) (N := 97) (v := .ref (ad 15)) hx hb hts hinX13 hown hK hP hI 0 (Nat.le_of_ble_eq_true rfl) rfl rfl 29 (Nat.le_of_ble_eq_true rfl) (hts _ (vA_in _ _ (in_27 _ (zs16 (zs16 (zs1 (zs0))))))) (fun _ h9 => h9) (hI.fr 0 (Nat.le_of_ble_eq_true rfl) rfl (Nat.le_of_ble_eq_true rfl) 15 rfl) dX13_findEven_249 ?_
                            refine lv_iload_n hx hb dX13_findEven_252 rfl (lv_at hl 2 rfl) ?_
                            have n64 : vp_in v98_2 20 := (iv_in (n := 20) i57 (by decide))
                            refine th_iald hx hb hK hP hI 15 (Nat.le_of_ble_eq_true rfl) rfl rfl n64 dX13_findEven_253 (fun y63 ey63 => ?_)
                            have iy63 : 0 ≤ y63.toInt ∧ y63.toInt ≤ 1 := hI.el 15 (Nat.le_of_ble_eq_true rfl) rfl n64 (fun _ => rfl) ey63
                            have ey63 := ey63.trans (hKp.ei 15 _ rfl)
                            refine lv_if_ne (tgt := 272) hx hb dX13_findEven_254 (by decide) (fun c65 => ?_) (fun c65 => ?_)
                            · --254 taken
                              have t66 : ¬ y63.toInt = 0 := ti_ne c65
                              have i67 : 1 ≤ y63.toInt ∧ y63.toInt ≤ 1 := iv_ne_l t66 iy63 (il_ 0)
                              obtain ⟨y68, ey68⟩ : ∃ y : Int32, y = v98_2 + (1 : Int32) := ⟨_, rfl⟩
                              obtain ⟨ty68, iy68⟩ := ti_add (e := 1) (f := 20) i57 ln_1 ey68 (by decide)
                              have ty68 : y68.toInt = v98_2.toInt + 1 := ty68
                              have iy68 : 1 ≤ y68.toInt ∧ y68.toInt ≤ 20 := iy68
                              refine lv_iinc (v := y68) (lv' := [(2, .int y68), (4, .int v111_4), (3, .int v111_3), (0, .ref (ad 0)), (1, .int a0)]) hx hb dX13_findEven_272 hl (k := 2) rfl (by rw [ey68]; rfl) (by decide) rfl (fun ls hl => ?_)
                              refine lv_goto (tgt := 98) hx hb dX13_findEven_275 (by decide) ?_
                              exact ih98 w98_0_87 g111_62 g111_63 y68 E111_ _ _ _ (iv_w i59 (by decide)) (iv_w iy68 (by decide)) (TbR.no (TbM.up k38 hx98_0 hx111_1 hx111_2) (fun q9 => by have q8 : (xi (E 15) v98_2.toNatClampNeg).toInt = 0 := q9.1; rw [← ey63] at q8; omega) (by rw [tn_ y68, tn_ v98_2]; omega)) (by omega) (by omega) (by first | exact ms_su hx98_3 ty68 (by decide) | omega) hI hKp hs111_0_87 hs111_0_86 hs111_0_0 hr111_60 hr111_62 hr111_63 hr111_64 hr111_65 hP hS (lv_sub hl [0, 3, 4] rfl)
                            · --254 not
                              have t69 : y63.toInt = 0 := ti_eq c65
                              have i70 : 0 ≤ y63.toInt ∧ y63.toInt ≤ 0 := iv_eqi t69 iy63 (il_ 0) (by decide)
                              refine lv_iload_n hx hb dX13_findEven_257 rfl (lv_at hl 1 rfl) ?_
                              refine lv_iconst (v := 1) hx hb dX13_findEven_258 (by decide) ?_
                              refine lv_icmp_le (tgt := 272) hx hb dX13_findEven_259 (by decide) (fun c71 => ?_) (fun c71 => ?_)
                              · --259 taken
                                have t72 : v111_3.toInt ≤ 1 := ti_le c71
                                have i73 : 0 ≤ v111_3.toInt ∧ v111_3.toInt ≤ 1 := iv_le_l t72 hv111_3 (il_ 1) (by decide)
                                obtain ⟨y74, ey74⟩ : ∃ y : Int32, y = v98_2 + (1 : Int32) := ⟨_, rfl⟩
                                obtain ⟨ty74, iy74⟩ := ti_add (e := 1) (f := 20) i57 ln_1 ey74 (by decide)
                                have ty74 : y74.toInt = v98_2.toInt + 1 := ty74
                                have iy74 : 1 ≤ y74.toInt ∧ y74.toInt ≤ 20 := iy74
                                refine lv_iinc (v := y74) (lv' := [(2, .int y74), (4, .int v111_4), (3, .int v111_3), (0, .ref (ad 0)), (1, .int a0)]) hx hb dX13_findEven_272 hl (k := 2) rfl (by rw [ey74]; rfl) (by decide) rfl (fun ls hl => ?_)
                                refine lv_goto (tgt := 98) hx hb dX13_findEven_275 (by decide) ?_
                                exact ih98 w98_0_87 g111_62 g111_63 y74 E111_ _ _ _ (iv_w i59 (by decide)) (iv_w iy74 (by decide)) (TbR.no (TbM.up k38 hx98_0 hx111_1 hx111_2) (fun q9 => by obtain ⟨-, n9, h8, h9⟩ := q9; have h7 := CnR.un _ _ _ h8 k62 (fun k9 _ => Iff.rfl); omega) (by rw [tn_ y74, tn_ v98_2]; omega)) (by omega) (by omega) (by first | exact ms_su hx98_3 ty74 (by decide) | omega) hI hKp hs111_0_87 hs111_0_86 hs111_0_0 hr111_60 hr111_62 hr111_63 hr111_64 hr111_65 hP hS (lv_sub hl [0, 3, 4] rfl)
                              · --259 not
                                have t75 : (1 : Int) < v111_3.toInt := ti_nle c71
                                have i76 : 2 ≤ v111_3.toInt ∧ v111_3.toInt ≤ 4 := iv_lt_r t75 (il_ 1) hv111_3 (by decide)
                                refine lv_aload_n hx hb dX13_findEven_262 rfl (lv_at hl 3 rfl) ?_
                                refine lv_dup hx hb dX13_findEven_263 rfl ?_
                                refine th_get (ci := 14) (C := RX13) (T := TX13) (N := 97) (v := .int w98_0_87) hx hb hts hinX13 hown hK hP hI 0 (Nat.le_of_ble_eq_true rfl) rfl rfl 87 (Nat.le_of_ble_eq_true rfl) (hts _ (vA_in _ _ (in_27 _ (zs16 (zs4 (zs4 (zs4 (zs1 (zs0))))))))) (fun _ h9 => h9) hs111_0_87 dX13_findEven_264 ?_
                                refine lv_iconst (v := 1) hx hb dX13_findEven_267 (by decide) ?_
                                refine lv_iadd hx hb dX13_findEven_268 ?_
                                refine lv_topi (fun y77 ey77 => ?_)
                                obtain ⟨ty77, iy77⟩ := ti_add (e := 1) (f := 20) i59 ln_1 ey77 (by decide)
                                have ty77 : y77.toInt = w98_0_87.toInt + 1 := ty77
                                have iy77 : 1 ≤ y77.toInt ∧ y77.toInt ≤ 20 := iy77
                                refine th_put (ci := 14) (C := RX13) (T := TX13) (N := 97) (v := .int y77) (ty := .int) hx hb hts hinX13 tyX13 tyX13_ok nmX13 hown hK hP (WX_D hD) hS hI 0 (Nat.le_of_ble_eq_true rfl) rfl rfl 87 (Nat.le_of_ble_eq_true rfl) (hts _ (vA_in _ _ (in_27 _ (zs16 (zs4 (zs4 (zs4 (zs1 (zs0))))))))) (fun _ h9 => h9) rfl (by decide +kernel) rfl rfl (okI rfl (iv_w iy77 (by decide))) dX13_findEven_269 (fun H locs E78 pw79 hI hP hS => ?_)
                                have hKp := hKp.pw pw79 rfl
                                obtain ⟨y80, ey80⟩ : ∃ y : Int32, y = v98_2 + (1 : Int32) := ⟨_, rfl⟩
                                obtain ⟨ty80, iy80⟩ := ti_add (e := 1) (f := 20) i57 ln_1 ey80 (by decide)
                                have ty80 : y80.toInt = v98_2.toInt + 1 := ty80
                                have iy80 : 1 ≤ y80.toInt ∧ y80.toInt ≤ 20 := iy80
                                refine lv_iinc (v := y80) (lv' := [(2, .int y80), (4, .int v111_4), (3, .int v111_3), (0, .ref (ad 0)), (1, .int a0)]) hx hb dX13_findEven_272 hl (k := 2) rfl (by rw [ey80]; rfl) (by decide) rfl (fun ls hl => ?_)
                                refine lv_goto (tgt := 98) hx hb dX13_findEven_275 (by decide) ?_
                                exact ih98 y77 g111_62 g111_63 y80 E78 _ _ _ (iv_w iy77 (by decide)) (iv_w iy80 (by decide)) (TbR.yes (TbM.up k38 hx98_0 hx111_1 hx111_2) ⟨(show (xi (E 15) v98_2.toNatClampNeg).toInt = 0 by rw [← ey63]; omega), _, k62, by omega⟩ (qcM_row hh1 (fun j9 h8 => hx111_3 j9 (by rw [show v111_4.toNatClampNeg = w46_0_86.toNatClampNeg by rw [tn_, tn_]; omega]; exact h8))) (by rw [tn_ y77, tn_ w98_0_87]; omega) (by rw [tn_ y80, tn_ v98_2]; omega)) (by omega) (by omega) (by first | exact ms_su hx98_3 ty80 (by decide) | omega) hI hKp pw79.1 ((pw79.2 0 86 (fun q9 => absurd q9.2 (Nat.ne_of_beq_eq_false rfl))).trans hs111_0_86) ((pw79.2 0 0 (fun q9 => absurd q9.2 (Nat.ne_of_beq_eq_false rfl))).trans hs111_0_0) ((pw79.ef 60 (Nat.ne_of_beq_eq_false rfl)).trans hr111_60) ((pw79.ef 62 (Nat.ne_of_beq_eq_false rfl)).trans hr111_62) ((pw79.ef 63 (Nat.ne_of_beq_eq_false rfl)).trans hr111_63) ((pw79.ef 64 (Nat.ne_of_beq_eq_false rfl)).trans hr111_64) ((pw79.ef 65 (Nat.ne_of_beq_eq_false rfl)).trans hr111_65) hP hS (lv_sub hl [0, 3, 4] rfl)
                          · --117 not
                            have t81 : v111_4.toInt < w46_0_86.toInt := ti_nle c60
                            have i82 : 0 ≤ v111_4.toInt ∧ v111_4.toInt ≤ 3 := iv_lt_l t81 hv111_4 hw46_0_86 (by decide)
                            have i83 : 1 ≤ w46_0_86.toInt ∧ w46_0_86.toInt ≤ 4 := iv_lt_r t81 hv111_4 hw46_0_86 (by decide)
                            have i84 : 0 ≤ v111_3.toInt ∧ v111_3.toInt ≤ 3 := by have h9 := CnR.bd _ _ hx111_0; rw [tn_] at h9; omega
                            refine lv_aload_n hx hb dX13_findEven_120 rfl (lv_at hl 3 rfl) ?_
                            refine lv_iload_n hx hb dX13_findEven_121 rfl (lv_at hl 2 rfl) ?_
                            refine lv_aload_n hx hb dX13_findEven_122 rfl (lv_at hl 3 rfl) ?_
                            refine th_get (ci := 14) (C := RX13) (T := TX13) (N := 97) (v := .ref (ad 60)) hx hb hts hinX13 hown hK hP hI 0 (Nat.le_of_ble_eq_true rfl) rfl rfl 80 (Nat.le_of_ble_eq_true rfl) (hts _ (vA_in _ _ (in_27 _ (zs16 (zs4 (zs1 (zs1 (zs1 (zs0))))))))) (fun _ h9 => h9) (hI.fr 0 (Nat.le_of_ble_eq_true rfl) rfl (Nat.le_of_ble_eq_true rfl) 60 rfl) dX13_findEven_123 ?_
                            refine lv_iload hx hb dX13_findEven_126 (lv_at hl 0 rfl) ?_
                            have n86 : vp_in v111_4 4 := (iv_in (n := 4) i82 (by decide))
                            refine th_iald hx hb hK hP hI 60 (Nat.le_of_ble_eq_true rfl) rfl rfl n86 dX13_findEven_128 (fun y85 ey85 => ?_)
                            have iy85 : 0 ≤ y85.toInt ∧ y85.toInt ≤ 15 := hI.el 60 (Nat.le_of_ble_eq_true rfl) rfl n86 (fun _ => rfl) ey85
                            have ey85 := ey85.trans (congrFun hr111_60 _)
                            refine lv_aload_n hx hb dX13_findEven_129 rfl (lv_at hl 3 rfl) ?_
                            have i87 : 0 ≤ (xi (E 0) 1).toInt ∧ (xi (E 0) 1).toInt ≤ 400 := hI0.iv 0 (Nat.le_of_ble_eq_true rfl) rfl (Nat.le_of_ble_eq_true rfl) rfl
                            refine th_get (ci := 14) (C := RX13) (T := TX13) (N := 97) (v := .int (xi (E 0) 1)) hx hb hts hinX13 hown hK hP hI 0 (Nat.le_of_ble_eq_true rfl) rfl rfl 1 (Nat.le_of_ble_eq_true rfl) (hts _ (vA_in _ _ (in_24 _ (zs16 (zs4 (zs4 (zs1 (zs1 (zs1 (zs0)))))))))) (fun _ h9 => h9) (th_v0 hKp hI0 0 (Nat.le_of_ble_eq_true rfl) rfl (Nat.le_of_ble_eq_true rfl) rfl rfl) dX13_findEven_130 ?_
                            refine th_ri (va_runV (As := [.int v98_2, .int y85, .int (xi (E 0) 1)]) (rest := []) ⟨hx, hb, hml, hown, hts⟩ (q_codeOfM l dC dI cT ad E111_ H.size v98_2 y85 (xi (E 0) 1) hI i57 iy85) (cwV 3 hts (gi_V (in_27 _ (zs16 (zs16 (zs4 (zs0))))) (in_27 _ (zs16 (zs16 (zs4 (zs1 (zs0)))))) (in_27 _ (zs16 (zs16 (zs4 (zs1 (zs1 (zs0))))))) (in_24 _ (zs4 (zs4 (zs4 (zs1 (zs1 (zs1 (zs0)))))))) (in_27 _ (zs16 (zs16 (zs4 (zs1 (zs1 (zs1 (zs0))))))))) rfl rfl rfl ⟨rfl, hz_yX13_codeOf_3⟩ ⟨Nat.le_of_ble_eq_true rfl, Nat.le_of_ble_eq_true rfl⟩) ⟨HW_bl, va_recv hK hP (ci := 14) (q0 := 0) rfl (hI.ob 0 (Nat.le_of_ble_eq_true rfl) rfl), (HW_wi hP hK (WX_D hD) hS hA hEV)⟩ rfl rfl hl.1 rfl (lv_room (Nat.le_of_ble_eq_true rfl)) dX13_findEven_133 ⟨Nat.le_of_ble_eq_true rfl, Nat.le_of_ble_eq_true rfl⟩) hS hP (fun r88 H locs hw hP hS => ?_)
                            obtain ⟨f89, f90⟩ := hw
                            have i91 : 0 ≤ (xi (E 0) 47).toInt ∧ (xi (E 0) 47).toInt ≤ 300 := (show 0 ≤ (xi (E 0) 47).toInt ∧ (xi (E 0) 47).toInt ≤ 300 from hI0.iv 0 (Nat.le_of_ble_eq_true rfl) rfl (Nat.le_of_ble_eq_true rfl) rfl)
                            have k93 : KdN E E111_ := KdN.of hKp rfl rfl rfl rfl rfl
                            have k92 : CdM E (nI v98_2.toNatClampNeg) (nI (g46_60 v111_4.toNatClampNeg).toNatClampNeg) (xi (E 0) 1) r88.toInt := by rw [← ey85, nI_tn (show 0 ≤ v98_2.toInt by omega), nI_tn (show 0 ≤ y85.toInt by omega)]; exact k93.cd.mp f90
                            refine lv_if_ne (tgt := 143) hx hb dX13_findEven_136 (by decide) (fun c94 => ?_) (fun c94 => ?_)
                            · --136 taken
                              have t95 : ¬ r88.toInt = 0 := ti_ne c94
                              have i96 : 1 ≤ r88.toInt ∧ r88.toInt ≤ 5 := iv_ne_l t95 f89 (il_ 0)
                              refine lv_iconst (v := 0) hx hb dX13_findEven_143 (by decide) ?_
                              refine lv_istore (lv' := [(5, .int 0), (4, .int v111_4), (3, .int v111_3), (2, .int v98_2), (0, .ref (ad 0)), (1, .int a0)]) hx hb dX13_findEven_144 hl (by decide) rfl (fun ls hl => ?_)
                              refine lv_aload_n hx hb dX13_findEven_146 rfl (lv_at hl 4 rfl) ?_
                              refine th_get (ci := 14) (C := RX13) (T := TX13) (N := 97) (v := .ref (ad 62)) hx hb hts hinX13 hown hK hP hI 0 (Nat.le_of_ble_eq_true rfl) rfl rfl 82 (Nat.le_of_ble_eq_true rfl) (hts _ (vA_in _ _ (in_27 _ (zs16 (zs4 (zs4 (zs4 (zs1 (zs1 (zs0)))))))))) (fun _ h9 => h9) (hI.fr 0 (Nat.le_of_ble_eq_true rfl) rfl (Nat.le_of_ble_eq_true rfl) 62 rfl) dX13_findEven_147 ?_
                              refine lv_iconst (v := 4) hx hb dX13_findEven_150 (by decide) ?_
                              refine lv_aload_n hx hb dX13_findEven_151 rfl (lv_at hl 4 rfl) ?_
                              refine th_get (ci := 14) (C := RX13) (T := TX13) (N := 97) (v := .int w98_0_87) hx hb hts hinX13 hown hK hP hI 0 (Nat.le_of_ble_eq_true rfl) rfl rfl 87 (Nat.le_of_ble_eq_true rfl) (hts _ (vA_in _ _ (in_27 _ (zs16 (zs4 (zs4 (zs4 (zs1 (zs0))))))))) (fun _ h9 => h9) hs111_0_87 dX13_findEven_152 ?_
                              refine lv_imul hx hb dX13_findEven_155 ?_
                              refine lv_topi (fun y97 ey97 => ?_)
                              obtain ⟨ty97, iy97⟩ := ti_mul (e := 0) (f := 76) ln_4 i59 ey97 (by decide)
                              have ty97 : y97.toInt = 4 * w98_0_87.toInt := ty97
                              have iy97 : 0 ≤ y97.toInt ∧ y97.toInt ≤ 76 := iy97
                              refine lv_iload hx hb dX13_findEven_156 (lv_at hl 1 rfl) ?_
                              refine lv_iadd hx hb dX13_findEven_158 ?_
                              refine lv_topi (fun y98 ey98 => ?_)
                              obtain ⟨ty98, iy98⟩ := ti_add (e := 0) (f := 79) iy97 i82 ey98 (by decide)
                              have ty98 : y98.toInt = y97.toInt + v111_4.toInt := ty98
                              have iy98 : 0 ≤ y98.toInt ∧ y98.toInt ≤ 79 := iy98
                              refine lv_iload hx hb dX13_findEven_159 (lv_at hl 0 rfl) ?_
                              refine lv_if_eq (tgt := 183) hx hb dX13_findEven_161 (by decide) (fun c99 => ?_) (fun c99 => ?_)
                              · --161 taken
                                refine lv_iconst (v := 0) hx hb dX13_findEven_183 (by decide) ?_
                                have n100 : vp_in y98 80 := (iv_in (n := 80) iy98 (by decide))
                                refine th_iast hx hb hK hP (WX_D hD) hS hI 62 (Nat.le_of_ble_eq_true rfl) rfl rfl n100 (okI rfl (iv_w ln_0 (by decide))) dX13_findEven_184 (fun H locs E101 pw102 hI hP hS => ?_)
                                have hKp := hKp.pw pw102 rfl
                                obtain ⟨g103, eg103⟩ : ∃ z : Nat → Int32, z = upd g111_62 y98.toNatClampNeg (0 : Int32) := ⟨_, rfl⟩
                                have hg103 : xi (E101 62) = g103 := by rw [pw102.eu, hr111_62, eg103]
                                refine lv_aload_n hx hb dX13_findEven_185 rfl (lv_at hl 4 rfl) ?_
                                refine th_get (ci := 14) (C := RX13) (T := TX13) (N := 97) (v := .ref (ad 63)) hx hb hts hinX13 hown hK hP hI 0 (Nat.le_of_ble_eq_true rfl) rfl rfl 83 (Nat.le_of_ble_eq_true rfl) (hts _ (vA_in _ _ (in_27 _ (zs16 (zs4 (zs4 (zs4 (zs1 (zs1 (zs1 (zs0))))))))))) (fun _ h9 => h9) (hI.fr 0 (Nat.le_of_ble_eq_true rfl) rfl (Nat.le_of_ble_eq_true rfl) 63 rfl) dX13_findEven_186 ?_
                                refine lv_iconst (v := 4) hx hb dX13_findEven_189 (by decide) ?_
                                refine lv_aload_n hx hb dX13_findEven_190 rfl (lv_at hl 4 rfl) ?_
                                refine th_get (ci := 14) (C := RX13) (T := TX13) (N := 97) (v := .int w98_0_87) hx hb hts hinX13 hown hK hP hI 0 (Nat.le_of_ble_eq_true rfl) rfl rfl 87 (Nat.le_of_ble_eq_true rfl) (hts _ (vA_in _ _ (in_27 _ (zs16 (zs4 (zs4 (zs4 (zs1 (zs0))))))))) (fun _ h9 => h9) ((pw102.2 0 87 (fun q9 => absurd q9.1 (Nat.ne_of_beq_eq_false rfl))).trans hs111_0_87) dX13_findEven_191 ?_
                                refine lv_imul hx hb dX13_findEven_194 ?_
                                refine lv_topi (fun y104 ey104 => ?_)
                                obtain ⟨ty104, iy104⟩ := ti_mul (e := 0) (f := 76) ln_4 i59 ey104 (by decide)
                                have ty104 : y104.toInt = 4 * w98_0_87.toInt := ty104
                                have iy104 : 0 ≤ y104.toInt ∧ y104.toInt ≤ 76 := iy104
                                refine lv_iload hx hb dX13_findEven_195 (lv_at hl 1 rfl) ?_
                                refine lv_iadd hx hb dX13_findEven_197 ?_
                                refine lv_topi (fun y105 ey105 => ?_)
                                obtain ⟨ty105, iy105⟩ := ti_add (e := 0) (f := 79) iy104 i82 ey105 (by decide)
                                have ty105 : y105.toInt = y104.toInt + v111_4.toInt := ty105
                                have iy105 : 0 ≤ y105.toInt ∧ y105.toInt ≤ 79 := iy105
                                refine lv_iload hx hb dX13_findEven_198 (lv_at hl 0 rfl) ?_
                                refine lv_if_eq (tgt := 227) hx hb dX13_findEven_200 (by decide) (fun c106 => ?_) (fun c106 => ?_)
                                · --200 taken
                                  refine lv_iconst (v := 0) hx hb dX13_findEven_227 (by decide) ?_
                                  have n107 : vp_in y105 80 := (iv_in (n := 80) iy105 (by decide))
                                  refine th_iast hx hb hK hP (WX_D hD) hS hI 63 (Nat.le_of_ble_eq_true rfl) rfl rfl n107 (okI rfl (iv_w ln_0 (by decide))) dX13_findEven_228 (fun H locs E108 pw109 hI hP hS => ?_)
                                  have hKp := hKp.pw pw109 rfl
                                  obtain ⟨g110, eg110⟩ : ∃ z : Nat → Int32, z = upd g111_63 y105.toNatClampNeg (0 : Int32) := ⟨_, rfl⟩
                                  have hg110 : xi (E108 63) = g110 := by rw [pw109.eu, ((pw102.ef 63 (Nat.ne_of_beq_eq_false rfl)).trans hr111_63), eg110]
                                  refine lv_iload_n hx hb dX13_findEven_229 rfl (lv_at hl 2 rfl) ?_
                                  refine lv_iload hx hb dX13_findEven_230 (lv_at hl 0 rfl) ?_
                                  refine lv_if_eq (tgt := 239) hx hb dX13_findEven_232 (by decide) (fun c111 => ?_) (fun c111 => ?_)
                                  · --232 taken
                                    refine lv_iconst (v := 0) hx hb dX13_findEven_239 (by decide) ?_
                                    refine lv_iadd hx hb dX13_findEven_240 ?_
                                    refine lv_topi (fun y112 ey112 => ?_)
                                    obtain ⟨ty112, iy112⟩ := ti_add (e := 0) (f := 3) i84 ln_0 ey112 (by decide)
                                    have ty112 : y112.toInt = v111_3.toInt + 0 := ty112
                                    have iy112 : 0 ≤ y112.toInt ∧ y112.toInt ≤ 3 := iy112
                                    refine lv_istore_n (lv' := [(3, .int y112), (5, .int 0), (4, .int v111_4), (2, .int v98_2), (0, .ref (ad 0)), (1, .int a0)]) hx hb dX13_findEven_241 rfl hl (by decide) rfl (fun ls hl => ?_)
                                    obtain ⟨y113, ey113⟩ : ∃ y : Int32, y = v111_4 + (1 : Int32) := ⟨_, rfl⟩
                                    obtain ⟨ty113, iy113⟩ := ti_add (e := 1) (f := 4) i82 ln_1 ey113 (by decide)
                                    have ty113 : y113.toInt = v111_4.toInt + 1 := ty113
                                    have iy113 : 1 ≤ y113.toInt ∧ y113.toInt ≤ 4 := iy113
                                    refine lv_iinc (v := y113) (lv' := [(4, .int y113), (3, .int y112), (5, .int 0), (2, .int v98_2), (0, .ref (ad 0)), (1, .int a0)]) hx hb dX13_findEven_242 hl (k := 2) rfl (by rw [ey113]; rfl) (by decide) rfl (fun ls hl => ?_)
                                    refine lv_goto (tgt := 111) hx hb dX13_findEven_245 (by decide) ?_
                                    exact ih111 g103 g110 y113 y112 E108 _ _ _ (iv_w iy113 (by decide)) (iv_w iy112 (by decide)) (hx111_0.no (show ¬ fnM E (xi (E 0) 1) v98_2.toNatClampNeg (g46_60 v111_4.toNatClampNeg).toNatClampNeg from fun q9 => absurd (CdM.fn k92 q9) (by omega)) (by omega) (by rw [tn_ y113, tn_ v111_4]; omega)) (gc_a hx111_1 eg103 (by rw [(show y98.toNatClampNeg = 4 * w98_0_87.toNatClampNeg + v111_4.toNatClampNeg by rw [tn_ y98, tn_ w98_0_87, tn_ v111_4]; omega)]; exact Nat.le_add_right _ _)) (gc_a hx111_2 eg110 (by rw [(show y105.toNatClampNeg = 4 * w98_0_87.toNatClampNeg + v111_4.toNatClampNeg by rw [tn_ y105, tn_ w98_0_87, tn_ v111_4]; omega)]; exact Nat.le_add_right _ _)) (mc_c (P := (fun j9 s9 n9 => qcM E (xi (E 0) 1) v98_2.toNatClampNeg (g46_60 j9).toNatClampNeg s9 n9)) hx111_3 eg103 eg110 (show y98.toNatClampNeg = 4 * w98_0_87.toNatClampNeg + v111_4.toNatClampNeg by rw [tn_ y98, tn_ w98_0_87, tn_ v111_4]; omega) (show y105.toNatClampNeg = 4 * w98_0_87.toNatClampNeg + v111_4.toNatClampNeg by rw [tn_ y105, tn_ w98_0_87, tn_ v111_4]; omega) (show qcM E (xi (E 0) 1) v98_2.toNatClampNeg (g46_60 v111_4.toNatClampNeg).toNatClampNeg (0 : Int32).toInt (0 : Int32).toInt from ⟨fun q9 => absurd q9 (show ¬ fnM E (xi (E 0) 1) v98_2.toNatClampNeg (g46_60 v111_4.toNatClampNeg).toNatClampNeg from fun q9 => absurd (CdM.fn k92 q9) (by omega)), fun _ => rfl⟩) (by rw [tn_ y113, tn_ v111_4]; omega)) (by omega) (by first | exact ms_su hx111_5 ty113 (by decide) | omega) hI hKp ((pw109.2 0 87 (fun q9 => absurd q9.1 (Nat.ne_of_beq_eq_false rfl))).trans ((pw102.2 0 87 (fun q9 => absurd q9.1 (Nat.ne_of_beq_eq_false rfl))).trans hs111_0_87)) ((pw109.2 0 86 (fun q9 => absurd q9.1 (Nat.ne_of_beq_eq_false rfl))).trans ((pw102.2 0 86 (fun q9 => absurd q9.1 (Nat.ne_of_beq_eq_false rfl))).trans hs111_0_86)) ((pw109.2 0 0 (fun q9 => absurd q9.1 (Nat.ne_of_beq_eq_false rfl))).trans ((pw102.2 0 0 (fun q9 => absurd q9.1 (Nat.ne_of_beq_eq_false rfl))).trans hs111_0_0)) ((pw109.ef 60 (Nat.ne_of_beq_eq_false rfl)).trans ((pw102.ef 60 (Nat.ne_of_beq_eq_false rfl)).trans hr111_60)) ((pw109.ef 62 (Nat.ne_of_beq_eq_false rfl)).trans hg103) hg110 ((pw109.ef 64 (Nat.ne_of_beq_eq_false rfl)).trans ((pw102.ef 64 (Nat.ne_of_beq_eq_false rfl)).trans hr111_64)) ((pw109.ef 65 (Nat.ne_of_beq_eq_false rfl)).trans ((pw102.ef 65 (Nat.ne_of_beq_eq_false rfl)).trans hr111_65)) hP hS (lv_sub hl [0, 1, 3, 4, 5] rfl)
                                  · --232 not
                                    exact absurd c111 (by decide)
                                · --200 not
                                  exact absurd c106 (by decide)
                              · --161 not
                                exact absurd c99 (by decide)
                            · --136 not
                              have t114 : r88.toInt = 0 := ti_eq c94
                              have i115 : 0 ≤ r88.toInt ∧ r88.toInt ≤ 0 := iv_eqi t114 f89 (il_ 0) (by decide)
                              refine lv_iconst (v := 1) hx hb dX13_findEven_139 (by decide) ?_
                              refine lv_goto (tgt := 144) hx hb dX13_findEven_140 (by decide) ?_
                              refine lv_istore (lv' := [(5, .int 1), (4, .int v111_4), (3, .int v111_3), (2, .int v98_2), (0, .ref (ad 0)), (1, .int a0)]) hx hb dX13_findEven_144 hl (by decide) rfl (fun ls hl => ?_)
                              refine lv_aload_n hx hb dX13_findEven_146 rfl (lv_at hl 4 rfl) ?_
                              refine th_get (ci := 14) (C := RX13) (T := TX13) (N := 97) (v := .ref (ad 62)) hx hb hts hinX13 hown hK hP hI 0 (Nat.le_of_ble_eq_true rfl) rfl rfl 82 (Nat.le_of_ble_eq_true rfl) (hts _ (vA_in _ _ (in_27 _ (zs16 (zs4 (zs4 (zs4 (zs1 (zs1 (zs0)))))))))) (fun _ h9 => h9) (hI.fr 0 (Nat.le_of_ble_eq_true rfl) rfl (Nat.le_of_ble_eq_true rfl) 62 rfl) dX13_findEven_147 ?_
                              refine lv_iconst (v := 4) hx hb dX13_findEven_150 (by decide) ?_
                              refine lv_aload_n hx hb dX13_findEven_151 rfl (lv_at hl 4 rfl) ?_
                              refine th_get (ci := 14) (C := RX13) (T := TX13) (N := 97) (v := .int w98_0_87) hx hb hts hinX13 hown hK hP hI 0 (Nat.le_of_ble_eq_true rfl) rfl rfl 87 (Nat.le_of_ble_eq_true rfl) (hts _ (vA_in _ _ (in_27 _ (zs16 (zs4 (zs4 (zs4 (zs1 (zs0))))))))) (fun _ h9 => h9) hs111_0_87 dX13_findEven_152 ?_
                              refine lv_imul hx hb dX13_findEven_155 ?_
                              refine lv_topi (fun y116 ey116 => ?_)
                              obtain ⟨ty116, iy116⟩ := ti_mul (e := 0) (f := 76) ln_4 i59 ey116 (by decide)
                              have ty116 : y116.toInt = 4 * w98_0_87.toInt := ty116
                              have iy116 : 0 ≤ y116.toInt ∧ y116.toInt ≤ 76 := iy116
                              refine lv_iload hx hb dX13_findEven_156 (lv_at hl 1 rfl) ?_
                              refine lv_iadd hx hb dX13_findEven_158 ?_
                              refine lv_topi (fun y117 ey117 => ?_)
                              obtain ⟨ty117, iy117⟩ := ti_add (e := 0) (f := 79) iy116 i82 ey117 (by decide)
                              have ty117 : y117.toInt = y116.toInt + v111_4.toInt := ty117
                              have iy117 : 0 ≤ y117.toInt ∧ y117.toInt ≤ 79 := iy117
                              refine lv_iload hx hb dX13_findEven_159 (lv_at hl 0 rfl) ?_
                              refine lv_if_eq (tgt := 183) hx hb dX13_findEven_161 (by decide) (fun c118 => ?_) (fun c118 => ?_)
                              · --161 taken
                                exact absurd c118 (by decide)
                              · --161 not
                                refine lv_aload_n hx hb dX13_findEven_164 rfl (lv_at hl 4 rfl) ?_
                                refine lv_iload_n hx hb dX13_findEven_165 rfl (lv_at hl 3 rfl) ?_
                                refine lv_aload_n hx hb dX13_findEven_166 rfl (lv_at hl 4 rfl) ?_
                                refine th_get (ci := 14) (C := RX13) (T := TX13) (N := 97) (v := .ref (ad 60)) hx hb hts hinX13 hown hK hP hI 0 (Nat.le_of_ble_eq_true rfl) rfl rfl 80 (Nat.le_of_ble_eq_true rfl) (hts _ (vA_in _ _ (in_27 _ (zs16 (zs4 (zs1 (zs1 (zs1 (zs0))))))))) (fun _ h9 => h9) (hI.fr 0 (Nat.le_of_ble_eq_true rfl) rfl (Nat.le_of_ble_eq_true rfl) 60 rfl) dX13_findEven_167 ?_
                                refine lv_iload hx hb dX13_findEven_170 (lv_at hl 1 rfl) ?_
                                have n120 : vp_in v111_4 4 := (iv_in (n := 4) i82 (by decide))
                                refine th_iald hx hb hK hP hI 60 (Nat.le_of_ble_eq_true rfl) rfl rfl n120 dX13_findEven_172 (fun y119 ey119 => ?_)
                                have iy119 : 0 ≤ y119.toInt ∧ y119.toInt ≤ 15 := hI.el 60 (Nat.le_of_ble_eq_true rfl) rfl n120 (fun _ => rfl) ey119
                                have ey119 := ey119.trans (congrFun hr111_60 _)
                                refine lv_aload_n hx hb dX13_findEven_173 rfl (lv_at hl 4 rfl) ?_
                                refine th_get (ci := 14) (C := RX13) (T := TX13) (N := 97) (v := .int (xi (E 0) 1)) hx hb hts hinX13 hown hK hP hI 0 (Nat.le_of_ble_eq_true rfl) rfl rfl 1 (Nat.le_of_ble_eq_true rfl) (hts _ (vA_in _ _ (in_24 _ (zs16 (zs4 (zs4 (zs1 (zs1 (zs1 (zs0)))))))))) (fun _ h9 => h9) (th_v0 hKp hI0 0 (Nat.le_of_ble_eq_true rfl) rfl (Nat.le_of_ble_eq_true rfl) rfl rfl) dX13_findEven_174 ?_
                                refine th_ri (va_runV (As := [.int v98_2, .int y119, .int (xi (E 0) 1)]) (rest := [.int y117, .ref (ad 62)]) ⟨hx, hb, hml, hown, hts⟩ (q_secondsOfM l dC dI cT ad E111_ H.size v98_2 y119 (xi (E 0) 1) hI (by rw [(KdN.of hKp rfl rfl rfl rfl rfl).lr, show y119 = y85 from ey119.trans ey85.symm]; exact CdM_0 (by have h9 := k92; rw [← ey85, nI_tn (show 0 ≤ v98_2.toInt by omega), nI_tn (show 0 ≤ y85.toInt by omega), show r88.toInt = 0 by omega] at h9; exact h9))) (cwV 3 hts (gi_V (in_28 _ (zs16 (zs1 (zs0)))) (in_28 _ (zs16 (zs1 (zs1 (zs0))))) (in_28 _ (zs16 (zs1 (zs1 (zs1 (zs0)))))) (in_24 _ (zs4 (zs4 (zs4 (zs1 (zs1 (zs1 (zs0)))))))) (in_28 _ (zs16 (zs4 (zs0))))) rfl rfl rfl ⟨rfl, hz_yX13_secondsOf_3⟩ ⟨Nat.le_of_ble_eq_true rfl, Nat.le_of_ble_eq_true rfl⟩) ⟨HW_bl, va_recv hK hP (ci := 14) (q0 := 0) rfl (hI.ob 0 (Nat.le_of_ble_eq_true rfl) rfl), (HW_wi hP hK (WX_D hD) hS hA hEV)⟩ rfl rfl hl.1 rfl (lv_room (Nat.le_of_ble_eq_true rfl)) dX13_findEven_177 ⟨Nat.le_of_ble_eq_true rfl, Nat.le_of_ble_eq_true rfl⟩) hS hP (fun r121 H locs hw hP hS => ?_)
                                obtain ⟨f122, f123⟩ := hw
                                have k125 : KdN E E111_ := KdN.of hKp rfl rfl rfl rfl rfl
                                have k124 : r121.toInt = seM E (xi (E 0) 1) v98_2.toNatClampNeg (g46_60 v111_4.toNatClampNeg).toNatClampNeg := by unfold seM; rw [← ey119, nI_tn (show 0 ≤ v98_2.toInt by omega), nI_tn (show 0 ≤ y119.toInt by omega)]; have h9 := f123; rw [k125.rw_ 27 (by decide), k125.lr] at h9; rw [h9]
                                refine lv_goto (tgt := 184) hx hb dX13_findEven_180 (by decide) ?_
                                have n126 : vp_in y117 80 := (iv_in (n := 80) iy117 (by decide))
                                refine th_iast hx hb hK hP (WX_D hD) hS hI 62 (Nat.le_of_ble_eq_true rfl) rfl rfl n126 (okI rfl f122) dX13_findEven_184 (fun H locs E127 pw128 hI hP hS => ?_)
                                have hKp := hKp.pw pw128 rfl
                                obtain ⟨g129, eg129⟩ : ∃ z : Nat → Int32, z = upd g111_62 y117.toNatClampNeg r121 := ⟨_, rfl⟩
                                have hg129 : xi (E127 62) = g129 := by rw [pw128.eu, hr111_62, eg129]
                                refine lv_aload_n hx hb dX13_findEven_185 rfl (lv_at hl 4 rfl) ?_
                                refine th_get (ci := 14) (C := RX13) (T := TX13) (N := 97) (v := .ref (ad 63)) hx hb hts hinX13 hown hK hP hI 0 (Nat.le_of_ble_eq_true rfl) rfl rfl 83 (Nat.le_of_ble_eq_true rfl) (hts _ (vA_in _ _ (in_27 _ (zs16 (zs4 (zs4 (zs4 (zs1 (zs1 (zs1 (zs0))))))))))) (fun _ h9 => h9) (hI.fr 0 (Nat.le_of_ble_eq_true rfl) rfl (Nat.le_of_ble_eq_true rfl) 63 rfl) dX13_findEven_186 ?_
                                refine lv_iconst (v := 4) hx hb dX13_findEven_189 (by decide) ?_
                                refine lv_aload_n hx hb dX13_findEven_190 rfl (lv_at hl 4 rfl) ?_
                                refine th_get (ci := 14) (C := RX13) (T := TX13) (N := 97) (v := .int w98_0_87) hx hb hts hinX13 hown hK hP hI 0 (Nat.le_of_ble_eq_true rfl) rfl rfl 87 (Nat.le_of_ble_eq_true rfl) (hts _ (vA_in _ _ (in_27 _ (zs16 (zs4 (zs4 (zs4 (zs1 (zs0))))))))) (fun _ h9 => h9) ((pw128.2 0 87 (fun q9 => absurd q9.1 (Nat.ne_of_beq_eq_false rfl))).trans hs111_0_87) dX13_findEven_191 ?_
                                refine lv_imul hx hb dX13_findEven_194 ?_
                                refine lv_topi (fun y130 ey130 => ?_)
                                obtain ⟨ty130, iy130⟩ := ti_mul (e := 0) (f := 76) ln_4 i59 ey130 (by decide)
                                have ty130 : y130.toInt = 4 * w98_0_87.toInt := ty130
                                have iy130 : 0 ≤ y130.toInt ∧ y130.toInt ≤ 76 := iy130
                                refine lv_iload hx hb dX13_findEven_195 (lv_at hl 1 rfl) ?_
                                refine lv_iadd hx hb dX13_findEven_197 ?_
                                refine lv_topi (fun y131 ey131 => ?_)
                                obtain ⟨ty131, iy131⟩ := ti_add (e := 0) (f := 79) iy130 i82 ey131 (by decide)
                                have ty131 : y131.toInt = y130.toInt + v111_4.toInt := ty131
                                have iy131 : 0 ≤ y131.toInt ∧ y131.toInt ≤ 79 := iy131
                                refine lv_iload hx hb dX13_findEven_198 (lv_at hl 0 rfl) ?_
                                refine lv_if_eq (tgt := 227) hx hb dX13_findEven_200 (by decide) (fun c132 => ?_) (fun c132 => ?_)
                                · --200 taken
                                  exact absurd c132 (by decide)
                                · --200 not
                                  refine lv_aload_n hx hb dX13_findEven_203 rfl (lv_at hl 4 rfl) ?_
                                  refine lv_aload_n hx hb dX13_findEven_204 rfl (lv_at hl 4 rfl) ?_
                                  refine th_get (ci := 14) (C := RX13) (T := TX13) (N := 97) (v := .ref (ad 60)) hx hb hts hinX13 hown hK hP hI 0 (Nat.le_of_ble_eq_true rfl) rfl rfl 80 (Nat.le_of_ble_eq_true rfl) (hts _ (vA_in _ _ (in_27 _ (zs16 (zs4 (zs1 (zs1 (zs1 (zs0))))))))) (fun _ h9 => h9) (hI.fr 0 (Nat.le_of_ble_eq_true rfl) rfl (Nat.le_of_ble_eq_true rfl) 60 rfl) dX13_findEven_205 ?_
                                  refine lv_iload hx hb dX13_findEven_208 (lv_at hl 1 rfl) ?_
                                  have n134 : vp_in v111_4 4 := (iv_in (n := 4) i82 (by decide))
                                  refine th_iald hx hb hK hP hI 60 (Nat.le_of_ble_eq_true rfl) rfl rfl n134 dX13_findEven_210 (fun y133 ey133 => ?_)
                                  have iy133 : 0 ≤ y133.toInt ∧ y133.toInt ≤ 15 := hI.el 60 (Nat.le_of_ble_eq_true rfl) rfl n134 (fun _ => rfl) ey133
                                  have ey133 := ey133.trans (congrFun ((pw128.ef 60 (Nat.ne_of_beq_eq_false rfl)).trans hr111_60) _)
                                  refine lv_aload_n hx hb dX13_findEven_211 rfl (lv_at hl 4 rfl) ?_
                                  refine th_get (ci := 14) (C := RX13) (T := TX13) (N := 97) (v := .ref (ad 13)) hx hb hts hinX13 hown hK hP hI 0 (Nat.le_of_ble_eq_true rfl) rfl rfl 27 (Nat.le_of_ble_eq_true rfl) (hts _ (vA_in _ _ (in_27 _ (zs16 (zs16 (zs0)))))) (fun _ h9 => h9) (hI.fr 0 (Nat.le_of_ble_eq_true rfl) rfl (Nat.le_of_ble_eq_true rfl) 13 rfl) dX13_findEven_212 ?_
                                  refine lv_iload_n hx hb dX13_findEven_215 rfl (lv_at hl 3 rfl) ?_
                                  have n136 : vp_in v98_2 20 := (iv_in (n := 20) i57 (by decide))
                                  refine th_iald hx hb hK hP hI 13 (Nat.le_of_ble_eq_true rfl) rfl rfl n136 dX13_findEven_216 (fun y135 ey135 => ?_)
                                  have iy135 : 0 ≤ y135.toInt ∧ y135.toInt ≤ 400 := hI.el 13 (Nat.le_of_ble_eq_true rfl) rfl n136 (fun _ => rfl) ey135
                                  have ey135 := ey135.trans (hKp.ei 13 _ rfl)
                                  refine lv_aload_n hx hb dX13_findEven_217 rfl (lv_at hl 4 rfl) ?_
                                  refine th_get (ci := 14) (C := RX13) (T := TX13) (N := 97) (v := .int (xi (E 0) 1)) hx hb hts hinX13 hown hK hP hI 0 (Nat.le_of_ble_eq_true rfl) rfl rfl 1 (Nat.le_of_ble_eq_true rfl) (hts _ (vA_in _ _ (in_24 _ (zs16 (zs4 (zs4 (zs1 (zs1 (zs1 (zs0)))))))))) (fun _ h9 => h9) (th_v0 hKp hI0 0 (Nat.le_of_ble_eq_true rfl) rfl (Nat.le_of_ble_eq_true rfl) rfl rfl) dX13_findEven_218 ?_
                                  refine th_i (va_runV (As := [.int y133, .int y135, .int (xi (E 0) 1)]) (rest := [.int y131, .ref (ad 63)]) ⟨hx, hb, hml, hown, hts⟩ (q_numberOfM l dC dI cT ad E127 H.size y133 y135 (xi (E 0) 1) hI (by exact (KdN.of hKp rfl rfl rfl rfl rfl).txm hh0)) (cwV 3 hts (gi_V (in_28 _ (zs16 (zs4 (zs1 (zs1 (zs0)))))) (in_28 _ (zs16 (zs4 (zs1 (zs1 (zs1 (zs0))))))) (in_28 _ (zs16 (zs4 (zs4 (zs0))))) (in_24 _ (zs4 (zs4 (zs4 (zs1 (zs1 (zs1 (zs0)))))))) (in_28 _ (zs16 (zs4 (zs4 (zs1 (zs0))))))) rfl rfl rfl ⟨rfl, hz_yX13_numberOf_3⟩ ⟨Nat.le_of_ble_eq_true rfl, Nat.le_of_ble_eq_true rfl⟩) ⟨HW_bl, va_recv hK hP (ci := 14) (q0 := 0) rfl (hI.ob 0 (Nat.le_of_ble_eq_true rfl) rfl), (HW_wi hP hK (WX_D hD) hS hA hEV)⟩ rfl rfl hl.1 rfl (lv_room (Nat.le_of_ble_eq_true rfl)) dX13_findEven_221 ⟨Nat.le_of_ble_eq_true rfl, Nat.le_of_ble_eq_true rfl⟩) (WX_D hD) hS hA (fun r137 E138 H locs hw hP hS => ?_)
                                  obtain ⟨hI, kq139, hw⟩ := hw
                                  have hKb := hKp
                                  have hKp := hKp.tr kq139 (wl_sub rfl rfl)
                                  have f140 := hw
                                  have i141 : 0 ≤ (xi (E 0) 9).toInt ∧ (xi (E 0) 9).toInt ≤ 80 := (show 0 ≤ (xi (E 0) 9).toInt ∧ (xi (E 0) 9).toInt ≤ 80 from hI0.iv 0 (Nat.le_of_ble_eq_true rfl) rfl (Nat.le_of_ble_eq_true rfl) rfl)
                                  have k143 : KdN E E127 := KdN.of hKb rfl rfl rfl rfl rfl
                                  have k142 : r137.toInt = nmM E (xi (E 0) 1) v98_2.toNatClampNeg (g46_60 v111_4.toNatClampNeg).toNatClampNeg := by unfold nmM; rw [← ey133, ← ey135, nI_tn (show 0 ≤ y133.toInt by omega)]; exact f140.trans (k143.nm _ _ _)
                                  have i144 : 500 ≤ r137.toInt ∧ r137.toInt ≤ 2000 := by have h9 := numM_in (E := E) (boat := nI (g46_60 v111_4.toNatClampNeg).toNatClampNeg) (day := xi (E 13) v98_2.toNatClampNeg) (q := (xi (E 0) 1)); have h8 := k142; unfold nmM at h8; omega
                                  refine lv_goto (tgt := 228) hx hb dX13_findEven_224 (by decide) ?_
                                  have n145 : vp_in y131 80 := (iv_in (n := 80) iy131 (by decide))
                                  refine th_iast hx hb hK hP (WX_D hD) hS hI 63 (Nat.le_of_ble_eq_true rfl) rfl rfl n145 (okI rfl (iv_w i144 (by decide))) dX13_findEven_228 (fun H locs E146 pw147 hI hP hS => ?_)
                                  have hKp := hKp.pw pw147 rfl
                                  obtain ⟨g148, eg148⟩ : ∃ z : Nat → Int32, z = upd g111_63 y131.toNatClampNeg r137 := ⟨_, rfl⟩
                                  have hg148 : xi (E146 63) = g148 := by rw [pw147.eu, ((kq139.ef 63 (fun _ => rfl)).trans ((pw128.ef 63 (Nat.ne_of_beq_eq_false rfl)).trans hr111_63)), eg148]
                                  refine lv_iload_n hx hb dX13_findEven_229 rfl (lv_at hl 2 rfl) ?_
                                  refine lv_iload hx hb dX13_findEven_230 (lv_at hl 0 rfl) ?_
                                  refine lv_if_eq (tgt := 239) hx hb dX13_findEven_232 (by decide) (fun c149 => ?_) (fun c149 => ?_)
                                  · --232 taken
                                    exact absurd c149 (by decide)
                                  · --232 not
                                    refine lv_iconst (v := 1) hx hb dX13_findEven_235 (by decide) ?_
                                    refine lv_goto (tgt := 240) hx hb dX13_findEven_236 (by decide) ?_
                                    refine lv_iadd hx hb dX13_findEven_240 ?_
                                    refine lv_topi (fun y150 ey150 => ?_)
                                    obtain ⟨ty150, iy150⟩ := ti_add (e := 1) (f := 4) i84 ln_1 ey150 (by decide)
                                    have ty150 : y150.toInt = v111_3.toInt + 1 := ty150
                                    have iy150 : 1 ≤ y150.toInt ∧ y150.toInt ≤ 4 := iy150
                                    refine lv_istore_n (lv' := [(3, .int y150), (5, .int 1), (4, .int v111_4), (2, .int v98_2), (0, .ref (ad 0)), (1, .int a0)]) hx hb dX13_findEven_241 rfl hl (by decide) rfl (fun ls hl => ?_)
                                    obtain ⟨y151, ey151⟩ : ∃ y : Int32, y = v111_4 + (1 : Int32) := ⟨_, rfl⟩
                                    obtain ⟨ty151, iy151⟩ := ti_add (e := 1) (f := 4) i82 ln_1 ey151 (by decide)
                                    have ty151 : y151.toInt = v111_4.toInt + 1 := ty151
                                    have iy151 : 1 ≤ y151.toInt ∧ y151.toInt ≤ 4 := iy151
                                    refine lv_iinc (v := y151) (lv' := [(4, .int y151), (3, .int y150), (5, .int 1), (2, .int v98_2), (0, .ref (ad 0)), (1, .int a0)]) hx hb dX13_findEven_242 hl (k := 2) rfl (by rw [ey151]; rfl) (by decide) rfl (fun ls hl => ?_)
                                    refine lv_goto (tgt := 111) hx hb dX13_findEven_245 (by decide) ?_
                                    exact ih111 g129 g148 y151 y150 E146 _ _ _ (iv_w iy151 (by decide)) (iv_w iy150 (by decide)) (hx111_0.one (show fnM E (xi (E 0) 1) v98_2.toNatClampNeg (g46_60 v111_4.toNatClampNeg).toNatClampNeg from (by have h9 := k92; rw [show r88.toInt = 0 by omega] at h9; exact h9)) (by omega) (by rw [tn_ y151, tn_ v111_4]; omega)) (gc_a hx111_1 eg129 (by rw [(show y117.toNatClampNeg = 4 * w98_0_87.toNatClampNeg + v111_4.toNatClampNeg by rw [tn_ y117, tn_ w98_0_87, tn_ v111_4]; omega)]; exact Nat.le_add_right _ _)) (gc_a hx111_2 eg148 (by rw [(show y131.toNatClampNeg = 4 * w98_0_87.toNatClampNeg + v111_4.toNatClampNeg by rw [tn_ y131, tn_ w98_0_87, tn_ v111_4]; omega)]; exact Nat.le_add_right _ _)) (mc_c (P := (fun j9 s9 n9 => qcM E (xi (E 0) 1) v98_2.toNatClampNeg (g46_60 j9).toNatClampNeg s9 n9)) hx111_3 eg129 eg148 (show y117.toNatClampNeg = 4 * w98_0_87.toNatClampNeg + v111_4.toNatClampNeg by rw [tn_ y117, tn_ w98_0_87, tn_ v111_4]; omega) (show y131.toNatClampNeg = 4 * w98_0_87.toNatClampNeg + v111_4.toNatClampNeg by rw [tn_ y131, tn_ w98_0_87, tn_ v111_4]; omega) (show qcM E (xi (E 0) 1) v98_2.toNatClampNeg (g46_60 v111_4.toNatClampNeg).toNatClampNeg _ _ from ⟨fun _ => ⟨k124, k142⟩, fun q9 => absurd (show fnM E (xi (E 0) 1) v98_2.toNatClampNeg (g46_60 v111_4.toNatClampNeg).toNatClampNeg from (by have h9 := k92; rw [show r88.toInt = 0 by omega] at h9; exact h9)) q9⟩) (by rw [tn_ y151, tn_ v111_4]; omega)) (by omega) (by first | exact ms_su hx111_5 ty151 (by decide) | omega) hI hKp ((pw147.2 0 87 (fun q9 => absurd q9.1 (Nat.ne_of_beq_eq_false rfl))).trans ((kq139 0 87 rfl).trans ((pw128.2 0 87 (fun q9 => absurd q9.1 (Nat.ne_of_beq_eq_false rfl))).trans hs111_0_87))) ((pw147.2 0 86 (fun q9 => absurd q9.1 (Nat.ne_of_beq_eq_false rfl))).trans ((kq139 0 86 rfl).trans ((pw128.2 0 86 (fun q9 => absurd q9.1 (Nat.ne_of_beq_eq_false rfl))).trans hs111_0_86))) ((pw147.2 0 0 (fun q9 => absurd q9.1 (Nat.ne_of_beq_eq_false rfl))).trans ((kq139 0 0 rfl).trans ((pw128.2 0 0 (fun q9 => absurd q9.1 (Nat.ne_of_beq_eq_false rfl))).trans hs111_0_0))) ((pw147.ef 60 (Nat.ne_of_beq_eq_false rfl)).trans ((kq139.ef 60 (fun _ => rfl)).trans ((pw128.ef 60 (Nat.ne_of_beq_eq_false rfl)).trans hr111_60))) ((pw147.ef 62 (Nat.ne_of_beq_eq_false rfl)).trans ((kq139.ef 62 (fun _ => rfl)).trans hg129)) hg148 ((pw147.ef 64 (Nat.ne_of_beq_eq_false rfl)).trans ((kq139.ef 64 (fun _ => rfl)).trans ((pw128.ef 64 (Nat.ne_of_beq_eq_false rfl)).trans hr111_64))) ((pw147.ef 65 (Nat.ne_of_beq_eq_false rfl)).trans ((kq139.ef 65 (fun _ => rfl)).trans ((pw128.ef 65 (Nat.ne_of_beq_eq_false rfl)).trans hr111_65))) hP hS (lv_sub hl [0, 1, 3, 4, 5] rfl)
                      exact hL111 (5) g98_62 g98_63 (0 : Int32) (0 : Int32) E98_ _ _ _ (iv_w ln_0 (by decide)) (iv_w ln_0 (by decide)) (show CnR _ 0 (0 : Int32).toInt from rfl) (fun x9 h9 => rfl) (fun x9 h9 => rfl) (fun j9 h9 => absurd h9 (Nat.not_lt_zero j9)) (by have z9 := ln_0; omega) (by have h9 := ln_0; first | exact ms_bu h9.1 (by decide) | omega) hI hKp hs98_0_87 hs98_0_86 hs98_0_0 hr98_60 hr98_62 hr98_63 hr98_64 hr98_65 hP hS (lv_sub hl [0, 1, 2, 3, 4] rfl)
                exact hL98 (21) (0 : Int32) g2 g3 (0 : Int32) E39 _ _ _ (iv_w ln_0 (by decide)) (iv_w ln_0 (by decide)) (show TbR _ _ 0 0 _ from rfl) (by have z9 := ln_0; omega) (by have z9 := ln_0; omega) (by have h9 := ln_0; first | exact ms_bu h9.1 (by decide) | omega) hI hKp pw40.1 ((pw40.2 0 86 (fun q9 => absurd q9.2 (Nat.ne_of_beq_eq_false rfl))).trans hs46_0_86) ((pw40.2 0 0 (fun q9 => absurd q9.2 (Nat.ne_of_beq_eq_false rfl))).trans hs46_0_0) ((pw40.ef 60 (Nat.ne_of_beq_eq_false rfl)).trans hr46_60) ((pw40.ef 62 (Nat.ne_of_beq_eq_false rfl)).trans hr46_62) ((pw40.ef 63 (Nat.ne_of_beq_eq_false rfl)).trans hr46_63) ((pw40.ef 64 (Nat.ne_of_beq_eq_false rfl)).trans hr46_64) ((pw40.ef 65 (Nat.ne_of_beq_eq_false rfl)).trans hr46_65) hP hS (lv_sub hl [0, 1, 2] rfl)
              · --51 not
                have t152 : v46_2.toInt < (xi (E 0) 8).toInt := ti_nle c35
                have i153 : 0 ≤ v46_2.toInt ∧ v46_2.toInt ≤ 15 := iv_lt_l t152 hv46_2 i8 (by decide)
                have i154 : 1 ≤ (xi (E 0) 8).toInt ∧ (xi (E 0) 8).toInt ≤ 16 := iv_lt_r t152 hv46_2 i8 (by decide)
                refine lv_iload_n hx hb dX13_findEven_54 rfl (lv_at hl 2 rfl) ?_
                refine lv_iload_n hx hb dX13_findEven_55 rfl (lv_at hl 0 rfl) ?_
                refine lv_ishr hx hb dX13_findEven_56 ?_
                refine lv_topi (fun y155 ey155 => ?_)
                refine lv_iconst (v := 1) hx hb dX13_findEven_57 (by decide) ?_
                refine lv_iand hx hb dX13_findEven_58 ?_
                refine lv_topi (fun y156 ey156 => ?_)
                have iy156 : 0 ≤ y156.toInt ∧ y156.toInt ≤ 1 := ti_and (by decide) ey156
                refine lv_if_ne (tgt := 65) hx hb dX13_findEven_59 (by decide) (fun c157 => ?_) (fun c157 => ?_)
                · --59 taken
                  have t158 : ¬ y156.toInt = 0 := ti_ne c157
                  have i159 : 1 ≤ y156.toInt ∧ y156.toInt ≤ 1 := iv_ne_l t158 iy156 (il_ 0)
                  have k160 := bit_at (a := a0) (v := v46_2) (by omega) (by omega) ey155 ey156
                  have k161 : a0.toNatClampNeg / 2 ^ v46_2.toNatClampNeg % 2 < 2 := Nat.mod_lt _ (by decide)
                  have k162 : ¬ a0.toNatClampNeg / 2 ^ v46_2.toNatClampNeg % 2 = 0 := fun h9 => c157 (by rw [k160]; exact (nI01 k161).mpr h9)
                  have k163 : w46_0_86.toNatClampNeg = pcS a0.toNatClampNeg v46_2.toNatClampNeg := (EvL.num _ _ _ hx46_0).1
                  have k164 : pcS a0.toNatClampNeg v46_2.toNatClampNeg + a0.toNatClampNeg / 2 ^ v46_2.toNatClampNeg % 2 ≤ pcS a0.toNatClampNeg 16 := pcS_mono a0.toNatClampNeg (show v46_2.toNatClampNeg + 1 ≤ 16 by rw [tn_]; omega)
                  have i165 : 0 ≤ w46_0_86.toInt ∧ w46_0_86.toInt ≤ 3 := by have z9 := k163; have z8 := k164; have z7 := k162; have z6 := k32.2.2; rw [tn_ w46_0_86] at z9; omega
                  refine lv_aload_n hx hb dX13_findEven_65 rfl (lv_at hl 1 rfl) ?_
                  refine th_get (ci := 14) (C := RX13) (T := TX13) (N := 97) (v := .ref (ad 60)) hx hb hts hinX13 hown hK hP hI 0 (Nat.le_of_ble_eq_true rfl) rfl rfl 80 (Nat.le_of_ble_eq_true rfl) (hts _ (vA_in _ _ (in_27 _ (zs16 (zs4 (zs1 (zs1 (zs1 (zs0))))))))) (fun _ h9 => h9) (hI.fr 0 (Nat.le_of_ble_eq_true rfl) rfl (Nat.le_of_ble_eq_true rfl) 60 rfl) dX13_findEven_66 ?_
                  refine lv_aload_n hx hb dX13_findEven_69 rfl (lv_at hl 1 rfl) ?_
                  refine th_get (ci := 14) (C := RX13) (T := TX13) (N := 97) (v := .int w46_0_86) hx hb hts hinX13 hown hK hP hI 0 (Nat.le_of_ble_eq_true rfl) rfl rfl 86 (Nat.le_of_ble_eq_true rfl) (hts _ (vA_in _ _ (in_27 _ (zs16 (zs4 (zs1 (zs1 (zs0)))))))) (fun _ h9 => h9) hs46_0_86 dX13_findEven_70 ?_
                  refine lv_iload_n hx hb dX13_findEven_73 rfl (lv_at hl 0 rfl) ?_
                  have n166 : vp_in w46_0_86 4 := (iv_in (n := 4) i165 (by decide))
                  refine th_iast hx hb hK hP (WX_D hD) hS hI 60 (Nat.le_of_ble_eq_true rfl) rfl rfl n166 (okI rfl i153) dX13_findEven_74 (fun H locs E167 pw168 hI hP hS => ?_)
                  have hKp := hKp.pw pw168 rfl
                  obtain ⟨g169, eg169⟩ : ∃ z : Nat → Int32, z = upd g46_60 w46_0_86.toNatClampNeg v46_2 := ⟨_, rfl⟩
                  have hg169 : xi (E167 60) = g169 := by rw [pw168.eu, hr46_60, eg169]
                  refine lv_aload_n hx hb dX13_findEven_75 rfl (lv_at hl 1 rfl) ?_
                  refine lv_dup hx hb dX13_findEven_76 rfl ?_
                  refine th_get (ci := 14) (C := RX13) (T := TX13) (N := 97) (v := .int w46_0_86) hx hb hts hinX13 hown hK hP hI 0 (Nat.le_of_ble_eq_true rfl) rfl rfl 86 (Nat.le_of_ble_eq_true rfl) (hts _ (vA_in _ _ (in_27 _ (zs16 (zs4 (zs1 (zs1 (zs0)))))))) (fun _ h9 => h9) ((pw168.2 0 86 (fun q9 => absurd q9.1 (Nat.ne_of_beq_eq_false rfl))).trans hs46_0_86) dX13_findEven_77 ?_
                  refine lv_iconst (v := 1) hx hb dX13_findEven_80 (by decide) ?_
                  refine lv_iadd hx hb dX13_findEven_81 ?_
                  refine lv_topi (fun y170 ey170 => ?_)
                  obtain ⟨ty170, iy170⟩ := ti_add (e := 1) (f := 4) i165 ln_1 ey170 (by decide)
                  have ty170 : y170.toInt = w46_0_86.toInt + 1 := ty170
                  have iy170 : 1 ≤ y170.toInt ∧ y170.toInt ≤ 4 := iy170
                  refine th_put (ci := 14) (C := RX13) (T := TX13) (N := 97) (v := .int y170) (ty := .int) hx hb hts hinX13 tyX13 tyX13_ok nmX13 hown hK hP (WX_D hD) hS hI 0 (Nat.le_of_ble_eq_true rfl) rfl rfl 86 (Nat.le_of_ble_eq_true rfl) (hts _ (vA_in _ _ (in_27 _ (zs16 (zs4 (zs1 (zs1 (zs0)))))))) (fun _ h9 => h9) rfl (by decide +kernel) rfl rfl (okI rfl (iv_w iy170 (by decide))) dX13_findEven_82 (fun H locs E171 pw172 hI hP hS => ?_)
                  have hKp := hKp.pw pw172 rfl
                  obtain ⟨y173, ey173⟩ : ∃ y : Int32, y = v46_2 + (1 : Int32) := ⟨_, rfl⟩
                  obtain ⟨ty173, iy173⟩ := ti_add (e := 1) (f := 16) i153 ln_1 ey173 (by decide)
                  have ty173 : y173.toInt = v46_2.toInt + 1 := ty173
                  have iy173 : 1 ≤ y173.toInt ∧ y173.toInt ≤ 16 := iy173
                  refine lv_iinc (v := y173) (lv' := [(2, .int y173), (0, .ref (ad 0)), (1, .int a0)]) hx hb dX13_findEven_85 hl (k := 0) rfl (by rw [ey173]; rfl) (by decide) rfl (fun ls hl => ?_)
                  refine lv_goto (tgt := 46) hx hb dX13_findEven_88 (by decide) ?_
                  exact ih46 y170 g169 y173 E171 _ _ _ (iv_w iy170 (by decide)) (iv_w iy173 (by decide)) (hx46_0.yes k162 eg169 rfl (by rw [tn_]; omega) (by rw [tn_ y170, tn_ w46_0_86]; omega) (by rw [tn_ y173, tn_ v46_2]; omega)) (by omega) (by first | exact ms_su hx46_2 ty173 (by decide) | omega) hI hKp pw172.1 ((pw172.2 0 0 (fun q9 => absurd q9.2 (Nat.ne_of_beq_eq_false rfl))).trans ((pw168.2 0 0 (fun q9 => absurd q9.1 (Nat.ne_of_beq_eq_false rfl))).trans hs46_0_0)) ((pw172.ef 60 (Nat.ne_of_beq_eq_false rfl)).trans hg169) ((pw172.ef 62 (Nat.ne_of_beq_eq_false rfl)).trans ((pw168.ef 62 (Nat.ne_of_beq_eq_false rfl)).trans hr46_62)) ((pw172.ef 63 (Nat.ne_of_beq_eq_false rfl)).trans ((pw168.ef 63 (Nat.ne_of_beq_eq_false rfl)).trans hr46_63)) ((pw172.ef 64 (Nat.ne_of_beq_eq_false rfl)).trans ((pw168.ef 64 (Nat.ne_of_beq_eq_false rfl)).trans hr46_64)) ((pw172.ef 65 (Nat.ne_of_beq_eq_false rfl)).trans ((pw168.ef 65 (Nat.ne_of_beq_eq_false rfl)).trans hr46_65)) hP hS (lv_sub hl [0, 1, 2] rfl)
                · --59 not
                  have t174 : y156.toInt = 0 := ti_eq c157
                  have i175 : 0 ≤ y156.toInt ∧ y156.toInt ≤ 0 := iv_eqi t174 iy156 (il_ 0) (by decide)
                  have k176 := bit_at (a := a0) (v := v46_2) (by omega) (by omega) ey155 ey156
                  have k177 : a0.toNatClampNeg / 2 ^ v46_2.toNatClampNeg % 2 < 2 := Nat.mod_lt _ (by decide)
                  have k178 : a0.toNatClampNeg / 2 ^ v46_2.toNatClampNeg % 2 = 0 := (nI01 k177).mp (by rw [← k176]; exact c157)
                  have k179 : w46_0_86.toNatClampNeg = pcS a0.toNatClampNeg v46_2.toNatClampNeg := (EvL.num _ _ _ hx46_0).1
                  have k180 : pcS a0.toNatClampNeg v46_2.toNatClampNeg + a0.toNatClampNeg / 2 ^ v46_2.toNatClampNeg % 2 ≤ pcS a0.toNatClampNeg 16 := pcS_mono a0.toNatClampNeg (show v46_2.toNatClampNeg + 1 ≤ 16 by rw [tn_]; omega)
                  refine lv_goto (tgt := 85) hx hb dX13_findEven_62 (by decide) ?_
                  obtain ⟨y181, ey181⟩ : ∃ y : Int32, y = v46_2 + (1 : Int32) := ⟨_, rfl⟩
                  obtain ⟨ty181, iy181⟩ := ti_add (e := 1) (f := 16) i153 ln_1 ey181 (by decide)
                  have ty181 : y181.toInt = v46_2.toInt + 1 := ty181
                  have iy181 : 1 ≤ y181.toInt ∧ y181.toInt ≤ 16 := iy181
                  refine lv_iinc (v := y181) (lv' := [(2, .int y181), (0, .ref (ad 0)), (1, .int a0)]) hx hb dX13_findEven_85 hl (k := 0) rfl (by rw [ey181]; rfl) (by decide) rfl (fun ls hl => ?_)
                  refine lv_goto (tgt := 46) hx hb dX13_findEven_88 (by decide) ?_
                  exact ih46 w46_0_86 g46_60 y181 E46_ _ _ _ hw46_0_86 (iv_w iy181 (by decide)) (hx46_0.no k178 (by rw [tn_ y181, tn_ v46_2]; omega)) (by omega) (by first | exact ms_su hx46_2 ty181 (by decide) | omega) hI hKp hs46_0_86 hs46_0_0 hr46_60 hr46_62 hr46_63 hr46_64 hr46_65 hP hS (lv_sub hl [0, 1, 2] rfl)
          exact hL46 (17) (0 : Int32) g1 (0 : Int32) E33 _ _ _ (iv_w ln_0 (by decide)) (iv_w ln_0 (by decide)) (show EvL _ 0 0 _ from rfl) (by have z9 := ln_0; omega) (by have h9 := ln_0; first | exact ms_bu h9.1 (by decide) | omega) hI hKp pw34.1 ((pw34.2 0 0 (fun q9 => absurd q9.2 (Nat.ne_of_beq_eq_false rfl))).trans pw7.1) ((pw34.ef 60 (Nat.ne_of_beq_eq_false rfl)).trans ((pw7.ef 60 (Nat.ne_of_beq_eq_false rfl)).trans hg1)) ((pw34.ef 62 (Nat.ne_of_beq_eq_false rfl)).trans ((pw7.ef 62 (Nat.ne_of_beq_eq_false rfl)).trans hg2)) ((pw34.ef 63 (Nat.ne_of_beq_eq_false rfl)).trans ((pw7.ef 63 (Nat.ne_of_beq_eq_false rfl)).trans hg3)) ((pw34.ef 64 (Nat.ne_of_beq_eq_false rfl)).trans ((pw7.ef 64 (Nat.ne_of_beq_eq_false rfl)).trans hg4)) ((pw34.ef 65 (Nat.ne_of_beq_eq_false rfl)).trans ((pw7.ef 65 (Nat.ne_of_beq_eq_false rfl)).trans hg5)) hP hS (lv_sub hl [0, 1, 2] rfl)
        · --34 not
          have t182 : (4 : Int) < r27.toInt := ti_nle c29
          have i183 : 5 ≤ r27.toInt ∧ r27.toInt ≤ 2147483647 := iv_lt_r t182 (il_ 4) (iv_all _) (by decide)
          refine lv_iconst (v := 0) hx hb dX13_findEven_37 (by decide) ?_
          rw [hQ]
          exact W.zret (v := 0) hx hb hr rfl (fun t ht hW => ⟨⟨0, E6, rfl, ⟨hI, hKp, Or.inr (⟨rfl, (SmB.no (show y9.toInt.toNat = 2 ^ (xi (E 0) 8).toNatClampNeg by omega) f28 (by have h9 := f21; have h8 := f28; omega))⟩)⟩, by show va_P (dC, dI) vwCl (WX 72 ad E6) t.heap; rw [ht]; exact hP⟩, hS.F ht⟩) hS.2.2 dX13_findEven_38
  · -- isIn, case 1
    obtain ⟨rfl, f184⟩ := hw
    have t185 : ¬ ((1 : Int) ≤ a0.toInt ∧ a0.toInt ≤ y11.toInt) := f184
    refine lv_if_eq (tgt := 37) hx hb dX13_findEven_18 (by decide) (fun c186 => ?_) (fun c186 => ?_)
    · --18 taken
      refine lv_iconst (v := 0) hx hb dX13_findEven_37 (by decide) ?_
      rw [hQ]
      exact W.zret (v := 0) hx hb hr rfl (fun t ht hW => ⟨⟨0, E6, rfl, ⟨hI, hKp, Or.inr (⟨rfl, (dite (a0.toInt < 1) (fun q9 => SmB.no3 q9) (fun q9 => SmB.no2 (show y9.toInt.toNat = 2 ^ (xi (E 0) 8).toNatClampNeg by omega) (by omega)))⟩)⟩, by show va_P (dC, dI) vwCl (WX 72 ad E6) t.heap; rw [ht]; exact hP⟩, hS.F ht⟩) hS.2.2 dX13_findEven_38
    · --18 not
      exact absurd c186 (by decide)
def v_evenM : List Cond := .code yX13_even cX13_even 2 (some .int) :: vA
abbrev rm_evenM : Room := { frames := 73, cells := 0, slots := 0, locals := 2920 }
def w_evenM : Nat → Nat → Bool := wl [12, 60, 62, 63, 64, 65] [(0, 0), (0, 18), (0, 19), (0, 20), (0, 21), (0, 22), (0, 23), (0, 24), (0, 25), (0, 26), (0, 86), (0, 87), (0, 88), (0, 89)]
set_option maxHeartbeats 4000000 in
set_option maxRecDepth 100000 in
theorem q_evenM (l : Launch) (dC : Nat → ClassId) (dI : Nat → Nat → Nat) (cT : Nat → ClassId) (ad : Nat → Nat) (E : Nat → va_E) (sz : Nat) (a0 : Int32) (hI0 : IX cT shM spM 72 ad E) (hh0 : TXM E) (hh1 : RSM E) : Met l yX13_even v_evenM rm_evenM (va_Pc [.ref (ad 0), .int a0] (HW dC dI (TYM cT) 72 ad E sz)) (va_Qi (S := Nat → va_E) (fun r u => IX cT shM spM 72 ad u ∧ Kp w_evenM E u ∧ (((((SmB a0 (xi (E 0) 8)) → (EvR (wyM E) (fnM E (xi (E 0) 1)) (seM E (xi (E 0) 1)) (nmM E (xi (E 0) 1)) (xi (E 0) 46).toNatClampNeg a0.toNatClampNeg (xi (E 0) 8).toNatClampNeg (fun m9 g9 b9 c9 => r.toInt = b9))) ∧ (¬ (SmB a0 (xi (E 0) 8)) → (r.toInt = -1)))))) (HB dC dI 72 ad) (va_A (WX 72 ad E) sz)) 0 0 (va_A (WX 72 ad E) sz) := by
  refine Met.ofW (cc := cX13_even) (maxL := 2) (ret := (some .int)) (by decide) rfl ?_
  intro p e s m args below meth c s₁ B hml hv
  obtain ⟨hargs, hsz, hP, hK, hD0, hEV⟩ := hv
  subst hsz
  have hx := B.exec
  have hb := B.bytes
  have hr := B.returns
  have hts := atoms_spec (ws := v_evenM) B.pre
  have hown : s.vm.findClass RX13 = some m.cls := findClass_of_methodNamed B.named
  have hlocks := B.notSynchronized
  have hinX13 : ∀ w ∈ u_ws RX13 TX13 97, w ∈ v_evenM := fun w h => vA_in _ w (in_X13 w h)
  generalize hAe : va_A (WX 72 ad E) s.heap.size = A at hEV ⊢
  have hA : ∀ q : Nat, s.heap.size ≤ q → A q := fun q h => by rw [← hAe]; exact Or.inr h
  have hD : va_D A (WX 72 ad E) := by rw [← hAe]; exact hD0.self
  have hS : va_S A s.heap s.heap [] := va_S.rf
  have hI := hI0
  have hKp : Kp w_evenM E E := Kp.rf
  have hl := lv_entry ([.ref (ad 0), .int a0]) (n := 2) (Nat.le_of_ble_eq_true rfl)
  obtain ⟨Q, hQ⟩ : ∃ Q, Q = MQ below (va_Qi (S := Nat → va_E) (fun r u => IX cT shM spM 72 ad u ∧ Kp w_evenM E u ∧ (((((SmB a0 (xi (E 0) 8)) → (EvR (wyM E) (fnM E (xi (E 0) 1)) (seM E (xi (E 0) 1)) (nmM E (xi (E 0) 1)) (xi (E 0) 46).toNatClampNeg a0.toNatClampNeg (xi (E 0) 8).toNatClampNeg (fun m9 g9 b9 c9 => r.toInt = b9))) ∧ (¬ (SmB a0 (xi (E 0) 8)) → (r.toInt = -1)))))) (HB dC dI 72 ad) (A)) args s 0 0 (A) := ⟨_, rfl⟩
  rw [← hQ, show entryFrame m args 2 = _ from (congrArg (fun z => entryFrame m z 2) hargs).trans (lg_entry_eq _ _ _)]
  generalize (lg_sl ([.ref (ad 0), .int a0]) ++ List.replicate (2 - (lg_sl ([.ref (ad 0), .int a0])).length) Slot.unset).toArray = ls at hl ⊢
  have hl : lv_has ls 2 [(0, .ref (ad 0)), (1, .int a0)] := hl
  refine lv_aload_n hx hb dX13_even_0 rfl (lv_at hl 0 rfl) ?_
  refine lv_iload_n hx hb dX13_even_1 rfl (lv_at hl 1 rfl) ?_
  refine th_i (va_runV (As := [.int a0]) (rest := []) ⟨hx, hb, hml, hown, hts⟩ (q_findEvenM l dC dI cT ad E s.heap.size a0 hI (by exact hh0) (by exact hh1)) (cwV 1 hts (gi_V (in_27 _ (zs16 (zs4 (zs4 (zs1 (zs0)))))) (in_27 _ (zs16 (zs4 (zs4 (zs1 (zs1 (zs0))))))) (in_27 _ (zs16 (zs4 (zs4 (zs1 (zs1 (zs1 (zs0)))))))) (in_24 _ (zs4 (zs4 (zs4 (zs1 (zs1 (zs1 (zs0)))))))) (in_27 _ (zs16 (zs4 (zs4 (zs4 (zs0))))))) rfl rfl rfl ⟨rfl, hz_yX13_findEven_1⟩ ⟨Nat.le_of_ble_eq_true rfl, Nat.le_of_ble_eq_true rfl⟩) ⟨HW_bl, va_recv hK hP (ci := 14) (q0 := 0) rfl (hI.ob 0 (Nat.le_of_ble_eq_true rfl) rfl), (HW_wi hP hK (WX_D hD) hS hA hEV)⟩ rfl rfl hl.1 rfl (lv_room (Nat.le_of_ble_eq_true rfl)) dX13_even_2 ⟨Nat.le_of_ble_eq_true rfl, Nat.le_of_ble_eq_true rfl⟩) (WX_D hD) hS hA (fun r1 E2 H locs hw hP hS => ?_)
  obtain ⟨hI, kq3, hw⟩ := hw
  have hKb := hKp
  have hKp := hKp.tr kq3 (wl_sub rfl rfl)
  rcases hw with hw | hw
  · -- findEvenM, case 0
    obtain ⟨rfl, f4, f5⟩ := hw
    have i6 : 0 ≤ (xi (E 0) 1).toInt ∧ (xi (E 0) 1).toInt ≤ 400 := (show 0 ≤ (xi (E 0) 1).toInt ∧ (xi (E 0) 1).toInt ≤ 400 from hI0.iv 0 (Nat.le_of_ble_eq_true rfl) rfl (Nat.le_of_ble_eq_true rfl) rfl)
    have i7 : 0 ≤ (xi (E 0) 8).toInt ∧ (xi (E 0) 8).toInt ≤ 16 := (show 0 ≤ (xi (E 0) 8).toInt ∧ (xi (E 0) 8).toInt ≤ 16 from hI0.iv 0 (Nat.le_of_ble_eq_true rfl) rfl (Nat.le_of_ble_eq_true rfl) rfl)
    have i8 : 0 ≤ (xi (E 0) 46).toInt ∧ (xi (E 0) 46).toInt ≤ 20 := (show 0 ≤ (xi (E 0) 46).toInt ∧ (xi (E 0) 46).toInt ≤ 20 from hI0.iv 0 (Nat.le_of_ble_eq_true rfl) rfl (Nat.le_of_ble_eq_true rfl) rfl)
    refine lv_if_eq (tgt := 15) hx hb dX13_even_5 (by decide) (fun c9 => ?_) (fun c9 => ?_)
    · --5 taken
      exact absurd c9 (by decide)
    · --5 not
      refine lv_aload_n hx hb dX13_even_8 rfl (lv_at hl 0 rfl) ?_
      obtain ⟨y10, ey10⟩ : ∃ y, xi (E2 0) 88 = y := ⟨_, rfl⟩
      have fy10 : xv (E2 0) 88 = .int y10 := (hI.fi 0 (Nat.le_of_ble_eq_true rfl) rfl (Nat.le_of_ble_eq_true rfl) rfl).trans (congrArg Value.int ey10)
      refine th_get (ci := 14) (C := RX13) (T := TX13) (N := 97) (v := .int y10) hx hb hts hinX13 hown hK hP hI 0 (Nat.le_of_ble_eq_true rfl) rfl rfl 88 (Nat.le_of_ble_eq_true rfl) (hts _ (vA_in _ _ (in_27 _ (zs16 (zs16 (zs1 (zs1 (zs0)))))))) (fun _ h9 => h9) fy10 dX13_even_9 ?_
      refine lv_goto (tgt := 16) hx hb dX13_even_12 (by decide) ?_
      rw [hQ]
      exact W.iret (v := y10) hx hb hr (fun t ht hW => ⟨⟨y10, E2, rfl, ⟨hI, hKp, ⟨fun _ => by obtain ⟨m9, g9, c9, X9, b9, s9, d9, q1, q2, q3, q4, -⟩ := f5; exact ⟨m9, g9, c9, X9, b9, s9, d9, q1, q2, q3, (show y10.toInt = b9 by rw [q4, show xi (E2 0) 88 = y10 from vi_e fy10])⟩, fun g9 => absurd f4 g9⟩⟩, by show va_P (dC, dI) vwCl (WX 72 ad E2) t.heap; rw [ht]; exact hP⟩, hS.F ht⟩) hS.2.2 dX13_even_16
  · -- findEvenM, case 1
    obtain ⟨rfl, f11⟩ := hw
    have i12 : 0 ≤ (xi (E 0) 1).toInt ∧ (xi (E 0) 1).toInt ≤ 400 := (show 0 ≤ (xi (E 0) 1).toInt ∧ (xi (E 0) 1).toInt ≤ 400 from hI0.iv 0 (Nat.le_of_ble_eq_true rfl) rfl (Nat.le_of_ble_eq_true rfl) rfl)
    have i13 : 0 ≤ (xi (E 0) 8).toInt ∧ (xi (E 0) 8).toInt ≤ 16 := (show 0 ≤ (xi (E 0) 8).toInt ∧ (xi (E 0) 8).toInt ≤ 16 from hI0.iv 0 (Nat.le_of_ble_eq_true rfl) rfl (Nat.le_of_ble_eq_true rfl) rfl)
    have i14 : 0 ≤ (xi (E 0) 46).toInt ∧ (xi (E 0) 46).toInt ≤ 20 := (show 0 ≤ (xi (E 0) 46).toInt ∧ (xi (E 0) 46).toInt ≤ 20 from hI0.iv 0 (Nat.le_of_ble_eq_true rfl) rfl (Nat.le_of_ble_eq_true rfl) rfl)
    refine lv_if_eq (tgt := 15) hx hb dX13_even_5 (by decide) (fun c15 => ?_) (fun c15 => ?_)
    · --5 taken
      refine lv_iconst (v := -1) hx hb dX13_even_15 (by decide) ?_
      rw [hQ]
      exact W.iret (v := (-1)) hx hb hr (fun t ht hW => ⟨⟨(-1), E2, rfl, ⟨hI, hKp, ⟨fun g9 => absurd g9 f11, fun _ => rfl⟩⟩, by show va_P (dC, dI) vwCl (WX 72 ad E2) t.heap; rw [ht]; exact hP⟩, hS.F ht⟩) hS.2.2 dX13_even_16
    · --5 not
      exact absurd c15 (by decide)
def v_changeM : List Cond := .code yX13_change cX13_change 4 (some .int) :: vA
abbrev rm_changeM : Room := { frames := 73, cells := 0, slots := 0, locals := 2920 }
def w_changeM : Nat → Nat → Bool := wl [12, 60, 62, 63, 64, 65] [(0, 0), (0, 18), (0, 19), (0, 20), (0, 21), (0, 22), (0, 23), (0, 24), (0, 25), (0, 26), (0, 86), (0, 87), (0, 88), (0, 89)]
set_option maxHeartbeats 4000000 in
set_option maxRecDepth 100000 in
theorem q_changeM (l : Launch) (dC : Nat → ClassId) (dI : Nat → Nat → Nat) (cT : Nat → ClassId) (ad : Nat → Nat) (E : Nat → va_E) (sz : Nat) (a0 : Int32) (a1 : Int32) (hI0 : IX cT shM spM 72 ad E) (hh0 : TXM E) (hh1 : RSM E) : Met l yX13_change v_changeM rm_changeM (va_Pc [.ref (ad 0), .int a0, .int a1] (HW dC dI (TYM cT) 72 ad E sz)) (va_Qi (S := Nat → va_E) (fun r u => IX cT shM spM 72 ad u ∧ Kp w_changeM E u ∧ (((((SmB a0 (xi (E 0) 8)) → (EvR (wyM E) (fnM E (xi (E 0) 1)) (seM E (xi (E 0) 1)) (nmM E (xi (E 0) 1)) (xi (E 0) 46).toNatClampNeg a0.toNatClampNeg (xi (E 0) 8).toNatClampNeg (fun m9 g9 b9 c9 => (∃ s9 : Nat, s9 < m9 ∧ (g9 s9).toInt = a1.toInt ∧ r.toInt = c9 s9 - 3) ∨ ((∀ s9 : Nat, s9 < m9 → ¬ (g9 s9).toInt = a1.toInt) ∧ r.toInt = -1000000000)))) ∧ (¬ (SmB a0 (xi (E 0) 8)) → (r.toInt = -1000000000)))))) (HB dC dI 72 ad) (va_A (WX 72 ad E) sz)) 0 0 (va_A (WX 72 ad E) sz) := by
  refine Met.ofW (cc := cX13_change) (maxL := 4) (ret := (some .int)) (by decide) rfl ?_
  intro p e s m args below meth c s₁ B hml hv
  obtain ⟨hargs, hsz, hP, hK, hD0, hEV⟩ := hv
  subst hsz
  have hx := B.exec
  have hb := B.bytes
  have hr := B.returns
  have hts := atoms_spec (ws := v_changeM) B.pre
  have hown : s.vm.findClass RX13 = some m.cls := findClass_of_methodNamed B.named
  have hlocks := B.notSynchronized
  have hinX13 : ∀ w ∈ u_ws RX13 TX13 97, w ∈ v_changeM := fun w h => vA_in _ w (in_X13 w h)
  generalize hAe : va_A (WX 72 ad E) s.heap.size = A at hEV ⊢
  have hA : ∀ q : Nat, s.heap.size ≤ q → A q := fun q h => by rw [← hAe]; exact Or.inr h
  have hD : va_D A (WX 72 ad E) := by rw [← hAe]; exact hD0.self
  have hS : va_S A s.heap s.heap [] := va_S.rf
  have hI := hI0
  have hKp : Kp w_changeM E E := Kp.rf
  have hl := lv_entry ([.ref (ad 0), .int a0, .int a1]) (n := 4) (Nat.le_of_ble_eq_true rfl)
  obtain ⟨Q, hQ⟩ : ∃ Q, Q = MQ below (va_Qi (S := Nat → va_E) (fun r u => IX cT shM spM 72 ad u ∧ Kp w_changeM E u ∧ (((((SmB a0 (xi (E 0) 8)) → (EvR (wyM E) (fnM E (xi (E 0) 1)) (seM E (xi (E 0) 1)) (nmM E (xi (E 0) 1)) (xi (E 0) 46).toNatClampNeg a0.toNatClampNeg (xi (E 0) 8).toNatClampNeg (fun m9 g9 b9 c9 => (∃ s9 : Nat, s9 < m9 ∧ (g9 s9).toInt = a1.toInt ∧ r.toInt = c9 s9 - 3) ∨ ((∀ s9 : Nat, s9 < m9 → ¬ (g9 s9).toInt = a1.toInt) ∧ r.toInt = -1000000000)))) ∧ (¬ (SmB a0 (xi (E 0) 8)) → (r.toInt = -1000000000)))))) (HB dC dI 72 ad) (A)) args s 0 0 (A) := ⟨_, rfl⟩
  rw [← hQ, show entryFrame m args 4 = _ from (congrArg (fun z => entryFrame m z 4) hargs).trans (lg_entry_eq _ _ _)]
  generalize (lg_sl ([.ref (ad 0), .int a0, .int a1]) ++ List.replicate (4 - (lg_sl ([.ref (ad 0), .int a0, .int a1])).length) Slot.unset).toArray = ls at hl ⊢
  have hl : lv_has ls 4 [(0, .ref (ad 0)), (1, .int a0), (2, .int a1)] := hl
  refine lv_aload_n hx hb dX13_change_0 rfl (lv_at hl 0 rfl) ?_
  refine lv_iload_n hx hb dX13_change_1 rfl (lv_at hl 1 rfl) ?_
  refine th_i (va_runV (As := [.int a0]) (rest := []) ⟨hx, hb, hml, hown, hts⟩ (q_findEvenM l dC dI cT ad E s.heap.size a0 hI (by exact hh0) (by exact hh1)) (cwV 1 hts (gi_V (in_27 _ (zs16 (zs4 (zs4 (zs1 (zs0)))))) (in_27 _ (zs16 (zs4 (zs4 (zs1 (zs1 (zs0))))))) (in_27 _ (zs16 (zs4 (zs4 (zs1 (zs1 (zs1 (zs0)))))))) (in_24 _ (zs4 (zs4 (zs4 (zs1 (zs1 (zs1 (zs0)))))))) (in_27 _ (zs16 (zs4 (zs4 (zs4 (zs0))))))) rfl rfl rfl ⟨rfl, hz_yX13_findEven_1⟩ ⟨Nat.le_of_ble_eq_true rfl, Nat.le_of_ble_eq_true rfl⟩) ⟨HW_bl, va_recv hK hP (ci := 14) (q0 := 0) rfl (hI.ob 0 (Nat.le_of_ble_eq_true rfl) rfl), (HW_wi hP hK (WX_D hD) hS hA hEV)⟩ rfl rfl hl.1 rfl (lv_room (Nat.le_of_ble_eq_true rfl)) dX13_change_2 ⟨Nat.le_of_ble_eq_true rfl, Nat.le_of_ble_eq_true rfl⟩) (WX_D hD) hS hA (fun r1 E2 H locs hw hP hS => ?_)
  obtain ⟨hI, kq3, hw⟩ := hw
  have hKb := hKp
  have hKp := hKp.tr kq3 (wl_sub rfl rfl)
  rcases hw with hw | hw
  · -- findEvenM, case 0
    obtain ⟨rfl, f4, f5⟩ := hw
    have i6 : 0 ≤ (xi (E 0) 1).toInt ∧ (xi (E 0) 1).toInt ≤ 400 := (show 0 ≤ (xi (E 0) 1).toInt ∧ (xi (E 0) 1).toInt ≤ 400 from hI0.iv 0 (Nat.le_of_ble_eq_true rfl) rfl (Nat.le_of_ble_eq_true rfl) rfl)
    have i7 : 0 ≤ (xi (E 0) 8).toInt ∧ (xi (E 0) 8).toInt ≤ 16 := (show 0 ≤ (xi (E 0) 8).toInt ∧ (xi (E 0) 8).toInt ≤ 16 from hI0.iv 0 (Nat.le_of_ble_eq_true rfl) rfl (Nat.le_of_ble_eq_true rfl) rfl)
    have i8 : 0 ≤ (xi (E 0) 46).toInt ∧ (xi (E 0) 46).toInt ≤ 20 := (show 0 ≤ (xi (E 0) 46).toInt ∧ (xi (E 0) 46).toInt ≤ 20 from hI0.iv 0 (Nat.le_of_ble_eq_true rfl) rfl (Nat.le_of_ble_eq_true rfl) rfl)
    refine lv_if_ne (tgt := 12) hx hb dX13_change_5 (by decide) (fun c9 => ?_) (fun c9 => ?_)
    · --5 taken
      obtain ⟨g10, hg10⟩ : ∃ g, xi (E2 60) = g := ⟨_, rfl⟩
      obtain ⟨g11, hg11⟩ : ∃ g, xi (E2 65) = g := ⟨_, rfl⟩
      obtain ⟨y12, ey12⟩ : ∃ y, xi (E2 0) 86 = y := ⟨_, rfl⟩
      have fy12 : xv (E2 0) 86 = .int y12 := (hI.fi 0 (Nat.le_of_ble_eq_true rfl) rfl (Nat.le_of_ble_eq_true rfl) rfl).trans (congrArg Value.int ey12)
      have iy12 : 0 ≤ y12.toInt ∧ y12.toInt ≤ 4 := by rw [← ey12]; exact hI.iv 0 (Nat.le_of_ble_eq_true rfl) rfl (Nat.le_of_ble_eq_true rfl) rfl
      refine lv_iconst (v := 0) hx hb dX13_change_12 (by decide) ?_
      refine lv_istore_n (lv' := [(3, .int 0), (0, .ref (ad 0)), (1, .int a0), (2, .int a1)]) hx hb dX13_change_13 rfl hl (by decide) rfl (fun ls hl => ?_)
      have hL14 : ∀ d : Nat, ∀ (v14_3 : Int32) (H : Heap) (locs : List Loc) (ls : Array Slot), 0 ≤ v14_3.toInt ∧ v14_3.toInt ≤ 4 → (∀ s9 : Nat, s9 < v14_3.toNatClampNeg → ¬ (g10 s9).toInt = a1.toInt) → 4 - v14_3.toInt < (d : Int) → va_P (dC, dI) vwCl (WX 72 ad E2) H → va_S A s.heap H locs → lv_has ls 4 [(3, .int v14_3), (0, .ref (ad 0)), (1, .int a0), (2, .int a1)] → W p l e (headSpec v_changeM rm_changeM).room s m args below meth c H locs 0 0 Q (F0 m 14 ls []) := by
        intro d
        induction d with
        | zero =>
          intro v14_3 H locs ls hv14_3 hx14_0 hx14_1 hP hS hl
          exact absurd hx14_1 (by first | exact ms_zu hv14_3.2 | omega)
        | succ d ih14 =>
          intro v14_3 H locs ls hv14_3 hx14_0 hx14_1 hP hS hl
          refine lv_iload_n hx hb dX13_change_14 rfl (lv_at hl 0 rfl) ?_
          refine lv_aload_n hx hb dX13_change_15 rfl (lv_at hl 1 rfl) ?_
          refine th_get (ci := 14) (C := RX13) (T := TX13) (N := 97) (v := .int y12) hx hb hts hinX13 hown hK hP hI 0 (Nat.le_of_ble_eq_true rfl) rfl rfl 86 (Nat.le_of_ble_eq_true rfl) (hts _ (vA_in _ _ (in_27 _ (zs16 (zs4 (zs1 (zs1 (zs0)))))))) (fun _ h9 => h9) fy12 dX13_change_16 ?_
          refine lv_icmp_ge (tgt := 45) hx hb dX13_change_19 (by decide) (fun c13 => ?_) (fun c13 => ?_)
          · --19 taken
            have t14 : y12.toInt ≤ v14_3.toInt := ti_le c13
            refine lv_ldcw hx hb hown (hts _ (vA_in _ _ (in_27 _ (zs16 (zs4 (zs1 (zs0))))))) dX13_change_45 ?_
            rw [hQ]
            exact W.iret (v := (-1000000000)) hx hb hr (fun t ht hW => ⟨⟨(-1000000000), E2, rfl, ⟨hI, hKp, ⟨fun _ => by obtain ⟨m9, g9, c9, X9, b9, s9, d9, q1, q2, q3, -, q5, q6, q7⟩ := f5; rw [show xi (E2 0) 86 = y12 from vi_e fy12] at q7; rw [show xi (E2 60) = g10 from hg10] at q5; exact ⟨m9, g9, c9, X9, b9, s9, d9, q1, q2, q3, Or.inr ⟨fun t9 h9 => by rw [q5]; exact hx14_0 t9 (by rw [q7, tn_] at h9; rw [tn_]; omega), rfl⟩⟩, fun g9 => absurd f4 g9⟩⟩, by show va_P (dC, dI) vwCl (WX 72 ad E2) t.heap; rw [ht]; exact hP⟩, hS.F ht⟩) hS.2.2 dX13_change_48
          · --19 not
            have t15 : v14_3.toInt < y12.toInt := ti_nle c13
            have i16 : 0 ≤ v14_3.toInt ∧ v14_3.toInt ≤ 3 := iv_lt_l t15 hv14_3 iy12 (by decide)
            have i17 : 1 ≤ y12.toInt ∧ y12.toInt ≤ 4 := iv_lt_r t15 hv14_3 iy12 (by decide)
            refine lv_aload_n hx hb dX13_change_22 rfl (lv_at hl 1 rfl) ?_
            refine th_get (ci := 14) (C := RX13) (T := TX13) (N := 97) (v := .ref (ad 60)) hx hb hts hinX13 hown hK hP hI 0 (Nat.le_of_ble_eq_true rfl) rfl rfl 80 (Nat.le_of_ble_eq_true rfl) (hts _ (vA_in _ _ (in_27 _ (zs16 (zs4 (zs1 (zs1 (zs1 (zs0))))))))) (fun _ h9 => h9) (hI.fr 0 (Nat.le_of_ble_eq_true rfl) rfl (Nat.le_of_ble_eq_true rfl) 60 rfl) dX13_change_23 ?_
            refine lv_iload_n hx hb dX13_change_26 rfl (lv_at hl 0 rfl) ?_
            have n19 : vp_in v14_3 4 := (iv_in (n := 4) i16 (by decide))
            refine th_iald hx hb hK hP hI 60 (Nat.le_of_ble_eq_true rfl) rfl rfl n19 dX13_change_27 (fun y18 ey18 => ?_)
            have iy18 : 0 ≤ y18.toInt ∧ y18.toInt ≤ 15 := hI.el 60 (Nat.le_of_ble_eq_true rfl) rfl n19 (fun _ => rfl) ey18
            have ey18 := ey18.trans (congrFun hg10 _)
            refine lv_iload_n hx hb dX13_change_28 rfl (lv_at hl 3 rfl) ?_
            refine lv_icmp_ne (tgt := 39) hx hb dX13_change_29 (by decide) (fun c20 => ?_) (fun c20 => ?_)
            · --29 taken
              have t21 : ¬ y18.toInt = a1.toInt := ti_ne c20
              obtain ⟨y22, ey22⟩ : ∃ y : Int32, y = v14_3 + (1 : Int32) := ⟨_, rfl⟩
              obtain ⟨ty22, iy22⟩ := ti_add (e := 1) (f := 4) i16 ln_1 ey22 (by decide)
              have ty22 : y22.toInt = v14_3.toInt + 1 := ty22
              have iy22 : 1 ≤ y22.toInt ∧ y22.toInt ≤ 4 := iy22
              refine lv_iinc (v := y22) (lv' := [(3, .int y22), (0, .ref (ad 0)), (1, .int a0), (2, .int a1)]) hx hb dX13_change_39 hl (k := 0) rfl (by rw [ey22]; rfl) (by decide) rfl (fun ls hl => ?_)
              refine lv_goto (tgt := 14) hx hb dX13_change_42 (by decide) ?_
              exact ih14 y22 _ _ _ (iv_w iy22 (by decide)) (fun s9 h9 => dite (s9 = v14_3.toNatClampNeg) (fun q9 => by rw [q9, ← ey18]; omega) (fun q9 => hx14_0 s9 (by rw [tn_] at h9 q9 ⊢; omega))) (by first | exact ms_su hx14_1 ty22 (by decide) | omega) hP hS (lv_sub hl [0, 1, 2, 3] rfl)
            · --29 not
              have t23 : y18.toInt = a1.toInt := ti_eq c20
              have i24 : 0 ≤ a1.toInt ∧ a1.toInt ≤ 15 := iv_eqi t23.symm (iv_all _) iy18 (by decide)
              refine lv_aload_n hx hb dX13_change_32 rfl (lv_at hl 1 rfl) ?_
              refine th_get (ci := 14) (C := RX13) (T := TX13) (N := 97) (v := .ref (ad 65)) hx hb hts hinX13 hown hK hP hI 0 (Nat.le_of_ble_eq_true rfl) rfl rfl 85 (Nat.le_of_ble_eq_true rfl) (hts _ (vA_in _ _ (in_27 _ (zs16 (zs4 (zs4 (zs0))))))) (fun _ h9 => h9) (hI.fr 0 (Nat.le_of_ble_eq_true rfl) rfl (Nat.le_of_ble_eq_true rfl) 65 rfl) dX13_change_33 ?_
              refine lv_iload_n hx hb dX13_change_36 rfl (lv_at hl 0 rfl) ?_
              have n26 : vp_in v14_3 4 := (iv_in (n := 4) i16 (by decide))
              refine th_iald hx hb hK hP hI 65 (Nat.le_of_ble_eq_true rfl) rfl rfl n26 dX13_change_37 (fun y25 ey25 => ?_)
              have iy25 : -3 ≤ y25.toInt ∧ y25.toInt ≤ 3 := hI.el 65 (Nat.le_of_ble_eq_true rfl) rfl n26 (fun _ => rfl) ey25
              have ey25 := ey25.trans (congrFun hg11 _)
              rw [hQ]
              exact W.iret (v := y25) hx hb hr (fun t ht hW => ⟨⟨y25, E2, rfl, ⟨hI, hKp, ⟨fun _ => by obtain ⟨m9, g9, c9, X9, b9, s9, d9, q1, q2, q3, -, q5, q6, q7⟩ := f5; rw [show xi (E2 0) 86 = y12 from vi_e fy12] at q7; rw [show xi (E2 60) = g10 from hg10] at q5; exact ⟨m9, g9, c9, X9, b9, s9, d9, q1, q2, q3, Or.inl ⟨v14_3.toNatClampNeg, (by rw [q7, tn_, tn_]; omega), (by rw [q5, ← ey18]; omega), (by rw [q6 _ (by rw [q7, tn_, tn_]; omega), show xi (E2 65) = g11 from hg11, ← ey25]; omega)⟩⟩, fun g9 => absurd f4 g9⟩⟩, by show va_P (dC, dI) vwCl (WX 72 ad E2) t.heap; rw [ht]; exact hP⟩, hS.F ht⟩) hS.2.2 dX13_change_38
      exact hL14 (5) (0 : Int32) _ _ _ (iv_w ln_0 (by decide)) (fun s9 h9 => absurd h9 (Nat.not_lt_zero s9)) (by have h9 := ln_0; first | exact ms_bu h9.1 (by decide) | omega) hP hS (lv_sub hl [0, 1, 2, 3] rfl)
    · --5 not
      exact absurd c9 (by decide)
  · -- findEvenM, case 1
    obtain ⟨rfl, f27⟩ := hw
    have i28 : 0 ≤ (xi (E 0) 1).toInt ∧ (xi (E 0) 1).toInt ≤ 400 := (show 0 ≤ (xi (E 0) 1).toInt ∧ (xi (E 0) 1).toInt ≤ 400 from hI0.iv 0 (Nat.le_of_ble_eq_true rfl) rfl (Nat.le_of_ble_eq_true rfl) rfl)
    have i29 : 0 ≤ (xi (E 0) 8).toInt ∧ (xi (E 0) 8).toInt ≤ 16 := (show 0 ≤ (xi (E 0) 8).toInt ∧ (xi (E 0) 8).toInt ≤ 16 from hI0.iv 0 (Nat.le_of_ble_eq_true rfl) rfl (Nat.le_of_ble_eq_true rfl) rfl)
    have i30 : 0 ≤ (xi (E 0) 46).toInt ∧ (xi (E 0) 46).toInt ≤ 20 := (show 0 ≤ (xi (E 0) 46).toInt ∧ (xi (E 0) 46).toInt ≤ 20 from hI0.iv 0 (Nat.le_of_ble_eq_true rfl) rfl (Nat.le_of_ble_eq_true rfl) rfl)
    refine lv_if_ne (tgt := 12) hx hb dX13_change_5 (by decide) (fun c31 => ?_) (fun c31 => ?_)
    · --5 taken
      exact absurd c31 (by decide)
    · --5 not
      refine lv_ldcw hx hb hown (hts _ (vA_in _ _ (in_27 _ (zs16 (zs4 (zs1 (zs0))))))) dX13_change_8 ?_
      rw [hQ]
      exact W.iret (v := (-1000000000)) hx hb hr (fun t ht hW => ⟨⟨(-1000000000), E2, rfl, ⟨hI, hKp, ⟨fun g9 => absurd g9 f27, fun _ => rfl⟩⟩, by show va_P (dC, dI) vwCl (WX 72 ad E2) t.heap; rw [ht]; exact hP⟩, hS.F ht⟩) hS.2.2 dX13_change_11
