set_option maxRecDepth 100000 in
theorem zh_dX13_onStarboard_0_0 : zc cX13_onStarboard 0 [26, 27, 100, 16, 8, 184, 1, 228, 7, 164, 0, 7, 4, 167, 0, 4] = true := by decide +kernel
set_option maxRecDepth 100000 in
theorem zh_dX13_onStarboard_16_16 : zc cX13_onStarboard 16 [3, 172] = true := by decide +kernel
set_option maxRecDepth 100000 in
theorem zh_dX13_findingOf_0_0 : zc cX13_findingOf 0 [42, 180, 0, 150, 27, 46, 54, 4, 3, 54, 5, 3, 54, 6, 42, 180] = true := by decide +kernel
set_option maxRecDepth 100000 in
theorem zh_dX13_findingOf_15_16 : zc cX13_findingOf 16 [0, 59, 21, 4, 46, 54, 7, 3, 54, 8, 21, 8, 42, 180, 0, 189] = true := by decide +kernel
set_option maxRecDepth 100000 in
theorem zh_dX13_findingOf_32_32 : zc cX13_findingOf 32 [3, 46, 162, 1, 61, 17, 0, 128, 54, 9, 21, 9, 17, 0, 128, 42] = true := by decide +kernel
set_option maxRecDepth 100000 in
theorem zh_dX13_findingOf_48_48 : zc cX13_findingOf 48 [180, 0, 189, 4, 46, 96, 162, 1, 35, 42, 182, 1, 121, 42, 180, 0] = true := by decide +kernel
set_option maxRecDepth 100000 in
theorem zh_dX13_findingOf_62_64 : zc cX13_findingOf 64 [44, 16, 100, 42, 180, 0, 180, 21, 8, 46, 42, 180, 0, 183, 21, 8] = true := by decide +kernel
set_option maxRecDepth 100000 in
theorem zh_dX13_findingOf_80_80 : zc cX13_findingOf 80 [46, 42, 180, 0, 180, 21, 9, 46, 42, 180, 0, 183, 21, 9, 46, 184] = true := by decide +kernel
set_option maxRecDepth 100000 in
theorem zh_dX13_findingOf_95_96 : zc cX13_findingOf 96 [1, 231, 79, 42, 180, 0, 44, 16, 103, 42, 180, 0, 186, 21, 8, 46] = true := by decide +kernel
set_option maxRecDepth 100000 in
theorem zh_dX13_findingOf_112_112 : zc cX13_findingOf 112 [21, 7, 184, 1, 235, 79, 42, 180, 0, 44, 16, 104, 42, 180, 0, 186] = true := by decide +kernel
set_option maxRecDepth 100000 in
theorem zh_dX13_findingOf_128_128 : zc cX13_findingOf 128 [21, 9, 46, 21, 7, 184, 1, 235, 79, 42, 180, 0, 44, 16, 117, 42] = true := by decide +kernel
set_option maxRecDepth 100000 in
theorem zh_dX13_findingOf_144_144 : zc cX13_findingOf 144 [180, 0, 180, 21, 8, 46, 42, 180, 0, 180, 21, 9, 46, 100, 21, 7] = true := by decide +kernel
set_option maxRecDepth 100000 in
theorem zh_dX13_findingOf_160_160 : zc cX13_findingOf 160 [184, 1, 238, 104, 42, 180, 0, 183, 21, 8, 46, 42, 180, 0, 183, 21] = true := by decide +kernel
set_option maxRecDepth 100000 in
theorem zh_dX13_findingOf_175_176 : zc cX13_findingOf 176 [9, 46, 100, 21, 7, 184, 1, 241, 104, 96, 158, 0, 7, 4, 167, 0] = true := by decide +kernel
set_option maxRecDepth 100000 in
theorem zh_dX13_findingOf_190_192 : zc cX13_findingOf 192 [4, 3, 79, 42, 180, 0, 44, 16, 109, 42, 180, 0, 180, 21, 8, 46] = true := by decide +kernel
set_option maxRecDepth 100000 in
theorem zh_dX13_findingOf_208_208 : zc cX13_findingOf 208 [42, 180, 0, 183, 21, 8, 46, 42, 180, 0, 62, 21, 4, 46, 42, 180] = true := by decide +kernel
set_option maxRecDepth 100000 in
theorem zh_dX13_findingOf_223_224 : zc cX13_findingOf 224 [0, 65, 21, 4, 46, 184, 1, 231, 79, 42, 180, 0, 44, 16, 107, 42] = true := by decide +kernel
set_option maxRecDepth 100000 in
theorem zh_dX13_findingOf_240_240 : zc cX13_findingOf 240 [180, 0, 180, 21, 9, 46, 42, 180, 0, 183, 21, 9, 46, 42, 180, 0] = true := by decide +kernel
set_option maxRecDepth 100000 in
theorem zh_dX13_findingOf_254_256 : zc cX13_findingOf 256 [62, 21, 4, 46, 42, 180, 0, 65, 21, 4, 46, 184, 1, 231, 79, 42] = true := by decide +kernel
set_option maxRecDepth 100000 in
theorem zh_dX13_findingOf_272_272 : zc cX13_findingOf 272 [180, 0, 44, 16, 111, 42, 180, 0, 186, 21, 8, 46, 42, 180, 0, 186] = true := by decide +kernel
set_option maxRecDepth 100000 in
theorem zh_dX13_findingOf_288_288 : zc cX13_findingOf 288 [21, 9, 46, 160, 0, 7, 4, 167, 0, 4, 3, 79, 132, 5, 1, 21] = true := by decide +kernel
set_option maxRecDepth 100000 in
theorem zh_dX13_findingOf_303_304 : zc cX13_findingOf 304 [6, 42, 28, 154, 0, 8, 16, 97, 167, 0, 5, 16, 98, 42, 180, 0] = true := by decide +kernel
set_option maxRecDepth 100000 in
theorem zh_dX13_findingOf_318_320 : zc cX13_findingOf 320 [50, 21, 4, 46, 29, 182, 1, 124, 153, 0, 7, 4, 167, 0, 4, 3] = true := by decide +kernel
set_option maxRecDepth 100000 in
theorem zh_dX13_findingOf_336_336 : zc cX13_findingOf 336 [96, 54, 6, 132, 9, 1, 167, 254, 212, 132, 8, 1, 167, 254, 190, 21] = true := by decide +kernel
set_option maxRecDepth 100000 in
theorem zh_dX13_findingOf_351_352 : zc cX13_findingOf 352 [5, 154, 0, 7, 2, 167, 0, 24, 21, 6, 21, 5, 160, 0, 7, 4] = true := by decide +kernel
set_option maxRecDepth 100000 in
theorem zh_dX13_findingOf_368_368 : zc cX13_findingOf 368 [167, 0, 13, 21, 6, 158, 0, 7, 5, 167, 0, 4, 3, 172] = true := by decide +kernel
set_option maxRecDepth 100000 in
theorem zh_dX13_finding_0_0 : zc cX13_finding 0 [42, 27, 28, 29, 182, 1, 225, 153, 0, 13, 42, 27, 28, 29, 182, 1] = true := by decide +kernel
set_option maxRecDepth 100000 in
theorem zh_dX13_finding_14_16 : zc cX13_finding 16 [244, 167, 0, 4, 2, 172] = true := by decide +kernel
set_option maxRecDepth 100000 in
theorem zh_dJ9_floorMod_7cf53_0_0 : zc cJ9_floorMod_7cf53 0 [26, 27, 112, 61, 26, 27, 130, 156, 0, 11, 28, 153, 0, 7, 28, 27] = true := by decide +kernel
set_option maxRecDepth 100000 in
theorem zh_dJ9_floorMod_7cf53_16_16 : zc cJ9_floorMod_7cf53 16 [96, 172, 28, 172] = true := by decide +kernel
theorem dX13_onStarboard_0 : decode cX13_onStarboard 0 = .ok (.iload_n 0, 1) := zo_26 (zi_at zh_dX13_onStarboard_0_0 0 rfl)
theorem dX13_onStarboard_1 : decode cX13_onStarboard 1 = .ok (.iload_n 1, 1) := zo_27 (zi_at zh_dX13_onStarboard_0_0 1 rfl)
theorem dX13_onStarboard_2 : decode cX13_onStarboard 2 = .ok (.isub, 1) := zo_100 (zi_at zh_dX13_onStarboard_0_0 2 rfl)
theorem dX13_onStarboard_3 : decode cX13_onStarboard 3 = .ok (.bipush 8, 2) := zo_16 (zi_at zh_dX13_onStarboard_0_0 3 rfl) (zi_at zh_dX13_onStarboard_0_0 4 rfl) rfl
theorem dX13_onStarboard_5 : decode cX13_onStarboard 5 = .ok (.invokestatic 484, 3) := zo_184 (zi_at zh_dX13_onStarboard_0_0 5 rfl) (zi_at zh_dX13_onStarboard_0_0 6 rfl) (zi_at zh_dX13_onStarboard_0_0 7 rfl) rfl
theorem dX13_onStarboard_8 : decode cX13_onStarboard 8 = .ok (.iconst 4, 1) := zo_7 (zi_at zh_dX13_onStarboard_0_0 8 rfl)
theorem dX13_onStarboard_9 : decode cX13_onStarboard 9 = .ok (.if_icmp .le 7, 3) := zo_164 (zi_at zh_dX13_onStarboard_0_0 9 rfl) (zi_at zh_dX13_onStarboard_0_0 10 rfl) (zi_at zh_dX13_onStarboard_0_0 11 rfl) rfl
theorem dX13_onStarboard_12 : decode cX13_onStarboard 12 = .ok (.iconst 1, 1) := zo_4 (zi_at zh_dX13_onStarboard_0_0 12 rfl)
theorem dX13_onStarboard_13 : decode cX13_onStarboard 13 = .ok (.goto 4, 3) := zo_167 (zi_at zh_dX13_onStarboard_0_0 13 rfl) (zi_at zh_dX13_onStarboard_0_0 14 rfl) (zi_at zh_dX13_onStarboard_0_0 15 rfl) rfl
theorem dX13_onStarboard_16 : decode cX13_onStarboard 16 = .ok (.iconst 0, 1) := zo_3 (zi_at zh_dX13_onStarboard_16_16 0 rfl)
theorem dX13_onStarboard_17 : decode cX13_onStarboard 17 = .ok (.ireturn, 1) := zo_172 (zi_at zh_dX13_onStarboard_16_16 1 rfl)
theorem dX13_findingOf_0 : decode cX13_findingOf 0 = .ok (.aload_n 0, 1) := zo_42 (zi_at zh_dX13_findingOf_0_0 0 rfl)
theorem dX13_findingOf_1 : decode cX13_findingOf 1 = .ok (.getfield 150, 3) := zo_180 (zi_at zh_dX13_findingOf_0_0 1 rfl) (zi_at zh_dX13_findingOf_0_0 2 rfl) (zi_at zh_dX13_findingOf_0_0 3 rfl) rfl
theorem dX13_findingOf_4 : decode cX13_findingOf 4 = .ok (.iload_n 1, 1) := zo_27 (zi_at zh_dX13_findingOf_0_0 4 rfl)
theorem dX13_findingOf_5 : decode cX13_findingOf 5 = .ok (.iaload, 1) := zo_46 (zi_at zh_dX13_findingOf_0_0 5 rfl)
theorem dX13_findingOf_6 : decode cX13_findingOf 6 = .ok (.istore 4, 2) := zo_54 (zi_at zh_dX13_findingOf_0_0 6 rfl) (zi_at zh_dX13_findingOf_0_0 7 rfl)
theorem dX13_findingOf_8 : decode cX13_findingOf 8 = .ok (.iconst 0, 1) := zo_3 (zi_at zh_dX13_findingOf_0_0 8 rfl)
theorem dX13_findingOf_9 : decode cX13_findingOf 9 = .ok (.istore 5, 2) := zo_54 (zi_at zh_dX13_findingOf_0_0 9 rfl) (zi_at zh_dX13_findingOf_0_0 10 rfl)
theorem dX13_findingOf_11 : decode cX13_findingOf 11 = .ok (.iconst 0, 1) := zo_3 (zi_at zh_dX13_findingOf_0_0 11 rfl)
theorem dX13_findingOf_12 : decode cX13_findingOf 12 = .ok (.istore 6, 2) := zo_54 (zi_at zh_dX13_findingOf_0_0 12 rfl) (zi_at zh_dX13_findingOf_0_0 13 rfl)
theorem dX13_findingOf_14 : decode cX13_findingOf 14 = .ok (.aload_n 0, 1) := zo_42 (zi_at zh_dX13_findingOf_0_0 14 rfl)
theorem dX13_findingOf_15 : decode cX13_findingOf 15 = .ok (.getfield 59, 3) := zo_180 (zi_at zh_dX13_findingOf_0_0 15 rfl) (zi_at zh_dX13_findingOf_15_16 0 rfl) (zi_at zh_dX13_findingOf_15_16 1 rfl) rfl
theorem dX13_findingOf_18 : decode cX13_findingOf 18 = .ok (.iload 4, 2) := zo_21 (zi_at zh_dX13_findingOf_15_16 2 rfl) (zi_at zh_dX13_findingOf_15_16 3 rfl)
theorem dX13_findingOf_20 : decode cX13_findingOf 20 = .ok (.iaload, 1) := zo_46 (zi_at zh_dX13_findingOf_15_16 4 rfl)
theorem dX13_findingOf_21 : decode cX13_findingOf 21 = .ok (.istore 7, 2) := zo_54 (zi_at zh_dX13_findingOf_15_16 5 rfl) (zi_at zh_dX13_findingOf_15_16 6 rfl)
theorem dX13_findingOf_23 : decode cX13_findingOf 23 = .ok (.iconst 0, 1) := zo_3 (zi_at zh_dX13_findingOf_15_16 7 rfl)
theorem dX13_findingOf_24 : decode cX13_findingOf 24 = .ok (.istore 8, 2) := zo_54 (zi_at zh_dX13_findingOf_15_16 8 rfl) (zi_at zh_dX13_findingOf_15_16 9 rfl)
theorem dX13_findingOf_26 : decode cX13_findingOf 26 = .ok (.iload 8, 2) := zo_21 (zi_at zh_dX13_findingOf_15_16 10 rfl) (zi_at zh_dX13_findingOf_15_16 11 rfl)
theorem dX13_findingOf_28 : decode cX13_findingOf 28 = .ok (.aload_n 0, 1) := zo_42 (zi_at zh_dX13_findingOf_15_16 12 rfl)
theorem dX13_findingOf_29 : decode cX13_findingOf 29 = .ok (.getfield 189, 3) := zo_180 (zi_at zh_dX13_findingOf_15_16 13 rfl) (zi_at zh_dX13_findingOf_15_16 14 rfl) (zi_at zh_dX13_findingOf_15_16 15 rfl) rfl
theorem dX13_findingOf_32 : decode cX13_findingOf 32 = .ok (.iconst 0, 1) := zo_3 (zi_at zh_dX13_findingOf_32_32 0 rfl)
theorem dX13_findingOf_33 : decode cX13_findingOf 33 = .ok (.iaload, 1) := zo_46 (zi_at zh_dX13_findingOf_32_32 1 rfl)
theorem dX13_findingOf_34 : decode cX13_findingOf 34 = .ok (.if_icmp .ge 317, 3) := zo_162 (zi_at zh_dX13_findingOf_32_32 2 rfl) (zi_at zh_dX13_findingOf_32_32 3 rfl) (zi_at zh_dX13_findingOf_32_32 4 rfl) rfl
theorem dX13_findingOf_37 : decode cX13_findingOf 37 = .ok (.sipush 128, 3) := zo_17 (zi_at zh_dX13_findingOf_32_32 5 rfl) (zi_at zh_dX13_findingOf_32_32 6 rfl) (zi_at zh_dX13_findingOf_32_32 7 rfl) rfl
theorem dX13_findingOf_40 : decode cX13_findingOf 40 = .ok (.istore 9, 2) := zo_54 (zi_at zh_dX13_findingOf_32_32 8 rfl) (zi_at zh_dX13_findingOf_32_32 9 rfl)
theorem dX13_findingOf_42 : decode cX13_findingOf 42 = .ok (.iload 9, 2) := zo_21 (zi_at zh_dX13_findingOf_32_32 10 rfl) (zi_at zh_dX13_findingOf_32_32 11 rfl)
theorem dX13_findingOf_44 : decode cX13_findingOf 44 = .ok (.sipush 128, 3) := zo_17 (zi_at zh_dX13_findingOf_32_32 12 rfl) (zi_at zh_dX13_findingOf_32_32 13 rfl) (zi_at zh_dX13_findingOf_32_32 14 rfl) rfl
theorem dX13_findingOf_47 : decode cX13_findingOf 47 = .ok (.aload_n 0, 1) := zo_42 (zi_at zh_dX13_findingOf_32_32 15 rfl)
theorem dX13_findingOf_48 : decode cX13_findingOf 48 = .ok (.getfield 189, 3) := zo_180 (zi_at zh_dX13_findingOf_48_48 0 rfl) (zi_at zh_dX13_findingOf_48_48 1 rfl) (zi_at zh_dX13_findingOf_48_48 2 rfl) rfl
theorem dX13_findingOf_51 : decode cX13_findingOf 51 = .ok (.iconst 1, 1) := zo_4 (zi_at zh_dX13_findingOf_48_48 3 rfl)
theorem dX13_findingOf_52 : decode cX13_findingOf 52 = .ok (.iaload, 1) := zo_46 (zi_at zh_dX13_findingOf_48_48 4 rfl)
theorem dX13_findingOf_53 : decode cX13_findingOf 53 = .ok (.iadd, 1) := zo_96 (zi_at zh_dX13_findingOf_48_48 5 rfl)
theorem dX13_findingOf_54 : decode cX13_findingOf 54 = .ok (.if_icmp .ge 291, 3) := zo_162 (zi_at zh_dX13_findingOf_48_48 6 rfl) (zi_at zh_dX13_findingOf_48_48 7 rfl) (zi_at zh_dX13_findingOf_48_48 8 rfl) rfl
theorem dX13_findingOf_57 : decode cX13_findingOf 57 = .ok (.aload_n 0, 1) := zo_42 (zi_at zh_dX13_findingOf_48_48 9 rfl)
theorem dX13_findingOf_58 : decode cX13_findingOf 58 = .ok (.invokevirtual 377, 3) := zo_182 (zi_at zh_dX13_findingOf_48_48 10 rfl) (zi_at zh_dX13_findingOf_48_48 11 rfl) (zi_at zh_dX13_findingOf_48_48 12 rfl) rfl
theorem dX13_findingOf_61 : decode cX13_findingOf 61 = .ok (.aload_n 0, 1) := zo_42 (zi_at zh_dX13_findingOf_48_48 13 rfl)
theorem dX13_findingOf_62 : decode cX13_findingOf 62 = .ok (.getfield 44, 3) := zo_180 (zi_at zh_dX13_findingOf_48_48 14 rfl) (zi_at zh_dX13_findingOf_48_48 15 rfl) (zi_at zh_dX13_findingOf_62_64 0 rfl) rfl
theorem dX13_findingOf_65 : decode cX13_findingOf 65 = .ok (.bipush 100, 2) := zo_16 (zi_at zh_dX13_findingOf_62_64 1 rfl) (zi_at zh_dX13_findingOf_62_64 2 rfl) rfl
theorem dX13_findingOf_67 : decode cX13_findingOf 67 = .ok (.aload_n 0, 1) := zo_42 (zi_at zh_dX13_findingOf_62_64 3 rfl)
theorem dX13_findingOf_68 : decode cX13_findingOf 68 = .ok (.getfield 180, 3) := zo_180 (zi_at zh_dX13_findingOf_62_64 4 rfl) (zi_at zh_dX13_findingOf_62_64 5 rfl) (zi_at zh_dX13_findingOf_62_64 6 rfl) rfl
theorem dX13_findingOf_71 : decode cX13_findingOf 71 = .ok (.iload 8, 2) := zo_21 (zi_at zh_dX13_findingOf_62_64 7 rfl) (zi_at zh_dX13_findingOf_62_64 8 rfl)
theorem dX13_findingOf_73 : decode cX13_findingOf 73 = .ok (.iaload, 1) := zo_46 (zi_at zh_dX13_findingOf_62_64 9 rfl)
theorem dX13_findingOf_74 : decode cX13_findingOf 74 = .ok (.aload_n 0, 1) := zo_42 (zi_at zh_dX13_findingOf_62_64 10 rfl)
theorem dX13_findingOf_75 : decode cX13_findingOf 75 = .ok (.getfield 183, 3) := zo_180 (zi_at zh_dX13_findingOf_62_64 11 rfl) (zi_at zh_dX13_findingOf_62_64 12 rfl) (zi_at zh_dX13_findingOf_62_64 13 rfl) rfl
theorem dX13_findingOf_78 : decode cX13_findingOf 78 = .ok (.iload 8, 2) := zo_21 (zi_at zh_dX13_findingOf_62_64 14 rfl) (zi_at zh_dX13_findingOf_62_64 15 rfl)
theorem dX13_findingOf_80 : decode cX13_findingOf 80 = .ok (.iaload, 1) := zo_46 (zi_at zh_dX13_findingOf_80_80 0 rfl)
theorem dX13_findingOf_81 : decode cX13_findingOf 81 = .ok (.aload_n 0, 1) := zo_42 (zi_at zh_dX13_findingOf_80_80 1 rfl)
theorem dX13_findingOf_82 : decode cX13_findingOf 82 = .ok (.getfield 180, 3) := zo_180 (zi_at zh_dX13_findingOf_80_80 2 rfl) (zi_at zh_dX13_findingOf_80_80 3 rfl) (zi_at zh_dX13_findingOf_80_80 4 rfl) rfl
theorem dX13_findingOf_85 : decode cX13_findingOf 85 = .ok (.iload 9, 2) := zo_21 (zi_at zh_dX13_findingOf_80_80 5 rfl) (zi_at zh_dX13_findingOf_80_80 6 rfl)
theorem dX13_findingOf_87 : decode cX13_findingOf 87 = .ok (.iaload, 1) := zo_46 (zi_at zh_dX13_findingOf_80_80 7 rfl)
theorem dX13_findingOf_88 : decode cX13_findingOf 88 = .ok (.aload_n 0, 1) := zo_42 (zi_at zh_dX13_findingOf_80_80 8 rfl)
theorem dX13_findingOf_89 : decode cX13_findingOf 89 = .ok (.getfield 183, 3) := zo_180 (zi_at zh_dX13_findingOf_80_80 9 rfl) (zi_at zh_dX13_findingOf_80_80 10 rfl) (zi_at zh_dX13_findingOf_80_80 11 rfl) rfl
theorem dX13_findingOf_92 : decode cX13_findingOf 92 = .ok (.iload 9, 2) := zo_21 (zi_at zh_dX13_findingOf_80_80 12 rfl) (zi_at zh_dX13_findingOf_80_80 13 rfl)
theorem dX13_findingOf_94 : decode cX13_findingOf 94 = .ok (.iaload, 1) := zo_46 (zi_at zh_dX13_findingOf_80_80 14 rfl)
theorem dX13_findingOf_95 : decode cX13_findingOf 95 = .ok (.invokestatic 487, 3) := zo_184 (zi_at zh_dX13_findingOf_80_80 15 rfl) (zi_at zh_dX13_findingOf_95_96 0 rfl) (zi_at zh_dX13_findingOf_95_96 1 rfl) rfl
theorem dX13_findingOf_98 : decode cX13_findingOf 98 = .ok (.iastore, 1) := zo_79 (zi_at zh_dX13_findingOf_95_96 2 rfl)
theorem dX13_findingOf_99 : decode cX13_findingOf 99 = .ok (.aload_n 0, 1) := zo_42 (zi_at zh_dX13_findingOf_95_96 3 rfl)
theorem dX13_findingOf_100 : decode cX13_findingOf 100 = .ok (.getfield 44, 3) := zo_180 (zi_at zh_dX13_findingOf_95_96 4 rfl) (zi_at zh_dX13_findingOf_95_96 5 rfl) (zi_at zh_dX13_findingOf_95_96 6 rfl) rfl
theorem dX13_findingOf_103 : decode cX13_findingOf 103 = .ok (.bipush 103, 2) := zo_16 (zi_at zh_dX13_findingOf_95_96 7 rfl) (zi_at zh_dX13_findingOf_95_96 8 rfl) rfl
theorem dX13_findingOf_105 : decode cX13_findingOf 105 = .ok (.aload_n 0, 1) := zo_42 (zi_at zh_dX13_findingOf_95_96 9 rfl)
theorem dX13_findingOf_106 : decode cX13_findingOf 106 = .ok (.getfield 186, 3) := zo_180 (zi_at zh_dX13_findingOf_95_96 10 rfl) (zi_at zh_dX13_findingOf_95_96 11 rfl) (zi_at zh_dX13_findingOf_95_96 12 rfl) rfl
theorem dX13_findingOf_109 : decode cX13_findingOf 109 = .ok (.iload 8, 2) := zo_21 (zi_at zh_dX13_findingOf_95_96 13 rfl) (zi_at zh_dX13_findingOf_95_96 14 rfl)
theorem dX13_findingOf_111 : decode cX13_findingOf 111 = .ok (.iaload, 1) := zo_46 (zi_at zh_dX13_findingOf_95_96 15 rfl)
theorem dX13_findingOf_112 : decode cX13_findingOf 112 = .ok (.iload 7, 2) := zo_21 (zi_at zh_dX13_findingOf_112_112 0 rfl) (zi_at zh_dX13_findingOf_112_112 1 rfl)
theorem dX13_findingOf_114 : decode cX13_findingOf 114 = .ok (.invokestatic 491, 3) := zo_184 (zi_at zh_dX13_findingOf_112_112 2 rfl) (zi_at zh_dX13_findingOf_112_112 3 rfl) (zi_at zh_dX13_findingOf_112_112 4 rfl) rfl
theorem dX13_findingOf_117 : decode cX13_findingOf 117 = .ok (.iastore, 1) := zo_79 (zi_at zh_dX13_findingOf_112_112 5 rfl)
theorem dX13_findingOf_118 : decode cX13_findingOf 118 = .ok (.aload_n 0, 1) := zo_42 (zi_at zh_dX13_findingOf_112_112 6 rfl)
theorem dX13_findingOf_119 : decode cX13_findingOf 119 = .ok (.getfield 44, 3) := zo_180 (zi_at zh_dX13_findingOf_112_112 7 rfl) (zi_at zh_dX13_findingOf_112_112 8 rfl) (zi_at zh_dX13_findingOf_112_112 9 rfl) rfl
theorem dX13_findingOf_122 : decode cX13_findingOf 122 = .ok (.bipush 104, 2) := zo_16 (zi_at zh_dX13_findingOf_112_112 10 rfl) (zi_at zh_dX13_findingOf_112_112 11 rfl) rfl
theorem dX13_findingOf_124 : decode cX13_findingOf 124 = .ok (.aload_n 0, 1) := zo_42 (zi_at zh_dX13_findingOf_112_112 12 rfl)
theorem dX13_findingOf_125 : decode cX13_findingOf 125 = .ok (.getfield 186, 3) := zo_180 (zi_at zh_dX13_findingOf_112_112 13 rfl) (zi_at zh_dX13_findingOf_112_112 14 rfl) (zi_at zh_dX13_findingOf_112_112 15 rfl) rfl
theorem dX13_findingOf_128 : decode cX13_findingOf 128 = .ok (.iload 9, 2) := zo_21 (zi_at zh_dX13_findingOf_128_128 0 rfl) (zi_at zh_dX13_findingOf_128_128 1 rfl)
theorem dX13_findingOf_130 : decode cX13_findingOf 130 = .ok (.iaload, 1) := zo_46 (zi_at zh_dX13_findingOf_128_128 2 rfl)
theorem dX13_findingOf_131 : decode cX13_findingOf 131 = .ok (.iload 7, 2) := zo_21 (zi_at zh_dX13_findingOf_128_128 3 rfl) (zi_at zh_dX13_findingOf_128_128 4 rfl)
theorem dX13_findingOf_133 : decode cX13_findingOf 133 = .ok (.invokestatic 491, 3) := zo_184 (zi_at zh_dX13_findingOf_128_128 5 rfl) (zi_at zh_dX13_findingOf_128_128 6 rfl) (zi_at zh_dX13_findingOf_128_128 7 rfl) rfl
theorem dX13_findingOf_136 : decode cX13_findingOf 136 = .ok (.iastore, 1) := zo_79 (zi_at zh_dX13_findingOf_128_128 8 rfl)
theorem dX13_findingOf_137 : decode cX13_findingOf 137 = .ok (.aload_n 0, 1) := zo_42 (zi_at zh_dX13_findingOf_128_128 9 rfl)
theorem dX13_findingOf_138 : decode cX13_findingOf 138 = .ok (.getfield 44, 3) := zo_180 (zi_at zh_dX13_findingOf_128_128 10 rfl) (zi_at zh_dX13_findingOf_128_128 11 rfl) (zi_at zh_dX13_findingOf_128_128 12 rfl) rfl
theorem dX13_findingOf_141 : decode cX13_findingOf 141 = .ok (.bipush 117, 2) := zo_16 (zi_at zh_dX13_findingOf_128_128 13 rfl) (zi_at zh_dX13_findingOf_128_128 14 rfl) rfl
theorem dX13_findingOf_143 : decode cX13_findingOf 143 = .ok (.aload_n 0, 1) := zo_42 (zi_at zh_dX13_findingOf_128_128 15 rfl)
theorem dX13_findingOf_144 : decode cX13_findingOf 144 = .ok (.getfield 180, 3) := zo_180 (zi_at zh_dX13_findingOf_144_144 0 rfl) (zi_at zh_dX13_findingOf_144_144 1 rfl) (zi_at zh_dX13_findingOf_144_144 2 rfl) rfl
theorem dX13_findingOf_147 : decode cX13_findingOf 147 = .ok (.iload 8, 2) := zo_21 (zi_at zh_dX13_findingOf_144_144 3 rfl) (zi_at zh_dX13_findingOf_144_144 4 rfl)
theorem dX13_findingOf_149 : decode cX13_findingOf 149 = .ok (.iaload, 1) := zo_46 (zi_at zh_dX13_findingOf_144_144 5 rfl)
theorem dX13_findingOf_150 : decode cX13_findingOf 150 = .ok (.aload_n 0, 1) := zo_42 (zi_at zh_dX13_findingOf_144_144 6 rfl)
theorem dX13_findingOf_151 : decode cX13_findingOf 151 = .ok (.getfield 180, 3) := zo_180 (zi_at zh_dX13_findingOf_144_144 7 rfl) (zi_at zh_dX13_findingOf_144_144 8 rfl) (zi_at zh_dX13_findingOf_144_144 9 rfl) rfl
theorem dX13_findingOf_154 : decode cX13_findingOf 154 = .ok (.iload 9, 2) := zo_21 (zi_at zh_dX13_findingOf_144_144 10 rfl) (zi_at zh_dX13_findingOf_144_144 11 rfl)
theorem dX13_findingOf_156 : decode cX13_findingOf 156 = .ok (.iaload, 1) := zo_46 (zi_at zh_dX13_findingOf_144_144 12 rfl)
theorem dX13_findingOf_157 : decode cX13_findingOf 157 = .ok (.isub, 1) := zo_100 (zi_at zh_dX13_findingOf_144_144 13 rfl)
theorem dX13_findingOf_158 : decode cX13_findingOf 158 = .ok (.iload 7, 2) := zo_21 (zi_at zh_dX13_findingOf_144_144 14 rfl) (zi_at zh_dX13_findingOf_144_144 15 rfl)
theorem dX13_findingOf_160 : decode cX13_findingOf 160 = .ok (.invokestatic 494, 3) := zo_184 (zi_at zh_dX13_findingOf_160_160 0 rfl) (zi_at zh_dX13_findingOf_160_160 1 rfl) (zi_at zh_dX13_findingOf_160_160 2 rfl) rfl
theorem dX13_findingOf_163 : decode cX13_findingOf 163 = .ok (.imul, 1) := zo_104 (zi_at zh_dX13_findingOf_160_160 3 rfl)
theorem dX13_findingOf_164 : decode cX13_findingOf 164 = .ok (.aload_n 0, 1) := zo_42 (zi_at zh_dX13_findingOf_160_160 4 rfl)
theorem dX13_findingOf_165 : decode cX13_findingOf 165 = .ok (.getfield 183, 3) := zo_180 (zi_at zh_dX13_findingOf_160_160 5 rfl) (zi_at zh_dX13_findingOf_160_160 6 rfl) (zi_at zh_dX13_findingOf_160_160 7 rfl) rfl
theorem dX13_findingOf_168 : decode cX13_findingOf 168 = .ok (.iload 8, 2) := zo_21 (zi_at zh_dX13_findingOf_160_160 8 rfl) (zi_at zh_dX13_findingOf_160_160 9 rfl)
theorem dX13_findingOf_170 : decode cX13_findingOf 170 = .ok (.iaload, 1) := zo_46 (zi_at zh_dX13_findingOf_160_160 10 rfl)
theorem dX13_findingOf_171 : decode cX13_findingOf 171 = .ok (.aload_n 0, 1) := zo_42 (zi_at zh_dX13_findingOf_160_160 11 rfl)
theorem dX13_findingOf_172 : decode cX13_findingOf 172 = .ok (.getfield 183, 3) := zo_180 (zi_at zh_dX13_findingOf_160_160 12 rfl) (zi_at zh_dX13_findingOf_160_160 13 rfl) (zi_at zh_dX13_findingOf_160_160 14 rfl) rfl
theorem dX13_findingOf_175 : decode cX13_findingOf 175 = .ok (.iload 9, 2) := zo_21 (zi_at zh_dX13_findingOf_160_160 15 rfl) (zi_at zh_dX13_findingOf_175_176 0 rfl)
theorem dX13_findingOf_177 : decode cX13_findingOf 177 = .ok (.iaload, 1) := zo_46 (zi_at zh_dX13_findingOf_175_176 1 rfl)
theorem dX13_findingOf_178 : decode cX13_findingOf 178 = .ok (.isub, 1) := zo_100 (zi_at zh_dX13_findingOf_175_176 2 rfl)
theorem dX13_findingOf_179 : decode cX13_findingOf 179 = .ok (.iload 7, 2) := zo_21 (zi_at zh_dX13_findingOf_175_176 3 rfl) (zi_at zh_dX13_findingOf_175_176 4 rfl)
theorem dX13_findingOf_181 : decode cX13_findingOf 181 = .ok (.invokestatic 497, 3) := zo_184 (zi_at zh_dX13_findingOf_175_176 5 rfl) (zi_at zh_dX13_findingOf_175_176 6 rfl) (zi_at zh_dX13_findingOf_175_176 7 rfl) rfl
theorem dX13_findingOf_184 : decode cX13_findingOf 184 = .ok (.imul, 1) := zo_104 (zi_at zh_dX13_findingOf_175_176 8 rfl)
theorem dX13_findingOf_185 : decode cX13_findingOf 185 = .ok (.iadd, 1) := zo_96 (zi_at zh_dX13_findingOf_175_176 9 rfl)
theorem dX13_findingOf_186 : decode cX13_findingOf 186 = .ok (.ifCond .le 7, 3) := zo_158 (zi_at zh_dX13_findingOf_175_176 10 rfl) (zi_at zh_dX13_findingOf_175_176 11 rfl) (zi_at zh_dX13_findingOf_175_176 12 rfl) rfl
theorem dX13_findingOf_189 : decode cX13_findingOf 189 = .ok (.iconst 1, 1) := zo_4 (zi_at zh_dX13_findingOf_175_176 13 rfl)
theorem dX13_findingOf_190 : decode cX13_findingOf 190 = .ok (.goto 4, 3) := zo_167 (zi_at zh_dX13_findingOf_175_176 14 rfl) (zi_at zh_dX13_findingOf_175_176 15 rfl) (zi_at zh_dX13_findingOf_190_192 0 rfl) rfl
theorem dX13_findingOf_193 : decode cX13_findingOf 193 = .ok (.iconst 0, 1) := zo_3 (zi_at zh_dX13_findingOf_190_192 1 rfl)
theorem dX13_findingOf_194 : decode cX13_findingOf 194 = .ok (.iastore, 1) := zo_79 (zi_at zh_dX13_findingOf_190_192 2 rfl)
theorem dX13_findingOf_195 : decode cX13_findingOf 195 = .ok (.aload_n 0, 1) := zo_42 (zi_at zh_dX13_findingOf_190_192 3 rfl)
theorem dX13_findingOf_196 : decode cX13_findingOf 196 = .ok (.getfield 44, 3) := zo_180 (zi_at zh_dX13_findingOf_190_192 4 rfl) (zi_at zh_dX13_findingOf_190_192 5 rfl) (zi_at zh_dX13_findingOf_190_192 6 rfl) rfl
theorem dX13_findingOf_199 : decode cX13_findingOf 199 = .ok (.bipush 109, 2) := zo_16 (zi_at zh_dX13_findingOf_190_192 7 rfl) (zi_at zh_dX13_findingOf_190_192 8 rfl) rfl
theorem dX13_findingOf_201 : decode cX13_findingOf 201 = .ok (.aload_n 0, 1) := zo_42 (zi_at zh_dX13_findingOf_190_192 9 rfl)
theorem dX13_findingOf_202 : decode cX13_findingOf 202 = .ok (.getfield 180, 3) := zo_180 (zi_at zh_dX13_findingOf_190_192 10 rfl) (zi_at zh_dX13_findingOf_190_192 11 rfl) (zi_at zh_dX13_findingOf_190_192 12 rfl) rfl
theorem dX13_findingOf_205 : decode cX13_findingOf 205 = .ok (.iload 8, 2) := zo_21 (zi_at zh_dX13_findingOf_190_192 13 rfl) (zi_at zh_dX13_findingOf_190_192 14 rfl)
theorem dX13_findingOf_207 : decode cX13_findingOf 207 = .ok (.iaload, 1) := zo_46 (zi_at zh_dX13_findingOf_190_192 15 rfl)
theorem dX13_findingOf_208 : decode cX13_findingOf 208 = .ok (.aload_n 0, 1) := zo_42 (zi_at zh_dX13_findingOf_208_208 0 rfl)
theorem dX13_findingOf_209 : decode cX13_findingOf 209 = .ok (.getfield 183, 3) := zo_180 (zi_at zh_dX13_findingOf_208_208 1 rfl) (zi_at zh_dX13_findingOf_208_208 2 rfl) (zi_at zh_dX13_findingOf_208_208 3 rfl) rfl
theorem dX13_findingOf_212 : decode cX13_findingOf 212 = .ok (.iload 8, 2) := zo_21 (zi_at zh_dX13_findingOf_208_208 4 rfl) (zi_at zh_dX13_findingOf_208_208 5 rfl)
theorem dX13_findingOf_214 : decode cX13_findingOf 214 = .ok (.iaload, 1) := zo_46 (zi_at zh_dX13_findingOf_208_208 6 rfl)
theorem dX13_findingOf_215 : decode cX13_findingOf 215 = .ok (.aload_n 0, 1) := zo_42 (zi_at zh_dX13_findingOf_208_208 7 rfl)
theorem dX13_findingOf_216 : decode cX13_findingOf 216 = .ok (.getfield 62, 3) := zo_180 (zi_at zh_dX13_findingOf_208_208 8 rfl) (zi_at zh_dX13_findingOf_208_208 9 rfl) (zi_at zh_dX13_findingOf_208_208 10 rfl) rfl
theorem dX13_findingOf_219 : decode cX13_findingOf 219 = .ok (.iload 4, 2) := zo_21 (zi_at zh_dX13_findingOf_208_208 11 rfl) (zi_at zh_dX13_findingOf_208_208 12 rfl)
theorem dX13_findingOf_221 : decode cX13_findingOf 221 = .ok (.iaload, 1) := zo_46 (zi_at zh_dX13_findingOf_208_208 13 rfl)
theorem dX13_findingOf_222 : decode cX13_findingOf 222 = .ok (.aload_n 0, 1) := zo_42 (zi_at zh_dX13_findingOf_208_208 14 rfl)
theorem dX13_findingOf_223 : decode cX13_findingOf 223 = .ok (.getfield 65, 3) := zo_180 (zi_at zh_dX13_findingOf_208_208 15 rfl) (zi_at zh_dX13_findingOf_223_224 0 rfl) (zi_at zh_dX13_findingOf_223_224 1 rfl) rfl
theorem dX13_findingOf_226 : decode cX13_findingOf 226 = .ok (.iload 4, 2) := zo_21 (zi_at zh_dX13_findingOf_223_224 2 rfl) (zi_at zh_dX13_findingOf_223_224 3 rfl)
theorem dX13_findingOf_228 : decode cX13_findingOf 228 = .ok (.iaload, 1) := zo_46 (zi_at zh_dX13_findingOf_223_224 4 rfl)
theorem dX13_findingOf_229 : decode cX13_findingOf 229 = .ok (.invokestatic 487, 3) := zo_184 (zi_at zh_dX13_findingOf_223_224 5 rfl) (zi_at zh_dX13_findingOf_223_224 6 rfl) (zi_at zh_dX13_findingOf_223_224 7 rfl) rfl
theorem dX13_findingOf_232 : decode cX13_findingOf 232 = .ok (.iastore, 1) := zo_79 (zi_at zh_dX13_findingOf_223_224 8 rfl)
theorem dX13_findingOf_233 : decode cX13_findingOf 233 = .ok (.aload_n 0, 1) := zo_42 (zi_at zh_dX13_findingOf_223_224 9 rfl)
theorem dX13_findingOf_234 : decode cX13_findingOf 234 = .ok (.getfield 44, 3) := zo_180 (zi_at zh_dX13_findingOf_223_224 10 rfl) (zi_at zh_dX13_findingOf_223_224 11 rfl) (zi_at zh_dX13_findingOf_223_224 12 rfl) rfl
theorem dX13_findingOf_237 : decode cX13_findingOf 237 = .ok (.bipush 107, 2) := zo_16 (zi_at zh_dX13_findingOf_223_224 13 rfl) (zi_at zh_dX13_findingOf_223_224 14 rfl) rfl
theorem dX13_findingOf_239 : decode cX13_findingOf 239 = .ok (.aload_n 0, 1) := zo_42 (zi_at zh_dX13_findingOf_223_224 15 rfl)
theorem dX13_findingOf_240 : decode cX13_findingOf 240 = .ok (.getfield 180, 3) := zo_180 (zi_at zh_dX13_findingOf_240_240 0 rfl) (zi_at zh_dX13_findingOf_240_240 1 rfl) (zi_at zh_dX13_findingOf_240_240 2 rfl) rfl
theorem dX13_findingOf_243 : decode cX13_findingOf 243 = .ok (.iload 9, 2) := zo_21 (zi_at zh_dX13_findingOf_240_240 3 rfl) (zi_at zh_dX13_findingOf_240_240 4 rfl)
theorem dX13_findingOf_245 : decode cX13_findingOf 245 = .ok (.iaload, 1) := zo_46 (zi_at zh_dX13_findingOf_240_240 5 rfl)
theorem dX13_findingOf_246 : decode cX13_findingOf 246 = .ok (.aload_n 0, 1) := zo_42 (zi_at zh_dX13_findingOf_240_240 6 rfl)
theorem dX13_findingOf_247 : decode cX13_findingOf 247 = .ok (.getfield 183, 3) := zo_180 (zi_at zh_dX13_findingOf_240_240 7 rfl) (zi_at zh_dX13_findingOf_240_240 8 rfl) (zi_at zh_dX13_findingOf_240_240 9 rfl) rfl
theorem dX13_findingOf_250 : decode cX13_findingOf 250 = .ok (.iload 9, 2) := zo_21 (zi_at zh_dX13_findingOf_240_240 10 rfl) (zi_at zh_dX13_findingOf_240_240 11 rfl)
theorem dX13_findingOf_252 : decode cX13_findingOf 252 = .ok (.iaload, 1) := zo_46 (zi_at zh_dX13_findingOf_240_240 12 rfl)
theorem dX13_findingOf_253 : decode cX13_findingOf 253 = .ok (.aload_n 0, 1) := zo_42 (zi_at zh_dX13_findingOf_240_240 13 rfl)
theorem dX13_findingOf_254 : decode cX13_findingOf 254 = .ok (.getfield 62, 3) := zo_180 (zi_at zh_dX13_findingOf_240_240 14 rfl) (zi_at zh_dX13_findingOf_240_240 15 rfl) (zi_at zh_dX13_findingOf_254_256 0 rfl) rfl
theorem dX13_findingOf_257 : decode cX13_findingOf 257 = .ok (.iload 4, 2) := zo_21 (zi_at zh_dX13_findingOf_254_256 1 rfl) (zi_at zh_dX13_findingOf_254_256 2 rfl)
theorem dX13_findingOf_259 : decode cX13_findingOf 259 = .ok (.iaload, 1) := zo_46 (zi_at zh_dX13_findingOf_254_256 3 rfl)
theorem dX13_findingOf_260 : decode cX13_findingOf 260 = .ok (.aload_n 0, 1) := zo_42 (zi_at zh_dX13_findingOf_254_256 4 rfl)
theorem dX13_findingOf_261 : decode cX13_findingOf 261 = .ok (.getfield 65, 3) := zo_180 (zi_at zh_dX13_findingOf_254_256 5 rfl) (zi_at zh_dX13_findingOf_254_256 6 rfl) (zi_at zh_dX13_findingOf_254_256 7 rfl) rfl
theorem dX13_findingOf_264 : decode cX13_findingOf 264 = .ok (.iload 4, 2) := zo_21 (zi_at zh_dX13_findingOf_254_256 8 rfl) (zi_at zh_dX13_findingOf_254_256 9 rfl)
theorem dX13_findingOf_266 : decode cX13_findingOf 266 = .ok (.iaload, 1) := zo_46 (zi_at zh_dX13_findingOf_254_256 10 rfl)
theorem dX13_findingOf_267 : decode cX13_findingOf 267 = .ok (.invokestatic 487, 3) := zo_184 (zi_at zh_dX13_findingOf_254_256 11 rfl) (zi_at zh_dX13_findingOf_254_256 12 rfl) (zi_at zh_dX13_findingOf_254_256 13 rfl) rfl
theorem dX13_findingOf_270 : decode cX13_findingOf 270 = .ok (.iastore, 1) := zo_79 (zi_at zh_dX13_findingOf_254_256 14 rfl)
theorem dX13_findingOf_271 : decode cX13_findingOf 271 = .ok (.aload_n 0, 1) := zo_42 (zi_at zh_dX13_findingOf_254_256 15 rfl)
theorem dX13_findingOf_272 : decode cX13_findingOf 272 = .ok (.getfield 44, 3) := zo_180 (zi_at zh_dX13_findingOf_272_272 0 rfl) (zi_at zh_dX13_findingOf_272_272 1 rfl) (zi_at zh_dX13_findingOf_272_272 2 rfl) rfl
theorem dX13_findingOf_275 : decode cX13_findingOf 275 = .ok (.bipush 111, 2) := zo_16 (zi_at zh_dX13_findingOf_272_272 3 rfl) (zi_at zh_dX13_findingOf_272_272 4 rfl) rfl
theorem dX13_findingOf_277 : decode cX13_findingOf 277 = .ok (.aload_n 0, 1) := zo_42 (zi_at zh_dX13_findingOf_272_272 5 rfl)
theorem dX13_findingOf_278 : decode cX13_findingOf 278 = .ok (.getfield 186, 3) := zo_180 (zi_at zh_dX13_findingOf_272_272 6 rfl) (zi_at zh_dX13_findingOf_272_272 7 rfl) (zi_at zh_dX13_findingOf_272_272 8 rfl) rfl
theorem dX13_findingOf_281 : decode cX13_findingOf 281 = .ok (.iload 8, 2) := zo_21 (zi_at zh_dX13_findingOf_272_272 9 rfl) (zi_at zh_dX13_findingOf_272_272 10 rfl)
theorem dX13_findingOf_283 : decode cX13_findingOf 283 = .ok (.iaload, 1) := zo_46 (zi_at zh_dX13_findingOf_272_272 11 rfl)
theorem dX13_findingOf_284 : decode cX13_findingOf 284 = .ok (.aload_n 0, 1) := zo_42 (zi_at zh_dX13_findingOf_272_272 12 rfl)
theorem dX13_findingOf_285 : decode cX13_findingOf 285 = .ok (.getfield 186, 3) := zo_180 (zi_at zh_dX13_findingOf_272_272 13 rfl) (zi_at zh_dX13_findingOf_272_272 14 rfl) (zi_at zh_dX13_findingOf_272_272 15 rfl) rfl
theorem dX13_findingOf_288 : decode cX13_findingOf 288 = .ok (.iload 9, 2) := zo_21 (zi_at zh_dX13_findingOf_288_288 0 rfl) (zi_at zh_dX13_findingOf_288_288 1 rfl)
theorem dX13_findingOf_290 : decode cX13_findingOf 290 = .ok (.iaload, 1) := zo_46 (zi_at zh_dX13_findingOf_288_288 2 rfl)
theorem dX13_findingOf_291 : decode cX13_findingOf 291 = .ok (.if_icmp .ne 7, 3) := zo_160 (zi_at zh_dX13_findingOf_288_288 3 rfl) (zi_at zh_dX13_findingOf_288_288 4 rfl) (zi_at zh_dX13_findingOf_288_288 5 rfl) rfl
theorem dX13_findingOf_294 : decode cX13_findingOf 294 = .ok (.iconst 1, 1) := zo_4 (zi_at zh_dX13_findingOf_288_288 6 rfl)
theorem dX13_findingOf_295 : decode cX13_findingOf 295 = .ok (.goto 4, 3) := zo_167 (zi_at zh_dX13_findingOf_288_288 7 rfl) (zi_at zh_dX13_findingOf_288_288 8 rfl) (zi_at zh_dX13_findingOf_288_288 9 rfl) rfl
theorem dX13_findingOf_298 : decode cX13_findingOf 298 = .ok (.iconst 0, 1) := zo_3 (zi_at zh_dX13_findingOf_288_288 10 rfl)
theorem dX13_findingOf_299 : decode cX13_findingOf 299 = .ok (.iastore, 1) := zo_79 (zi_at zh_dX13_findingOf_288_288 11 rfl)
theorem dX13_findingOf_300 : decode cX13_findingOf 300 = .ok (.iinc 5 1, 3) := zo_132 (zi_at zh_dX13_findingOf_288_288 12 rfl) (zi_at zh_dX13_findingOf_288_288 13 rfl) (zi_at zh_dX13_findingOf_288_288 14 rfl) rfl
theorem dX13_findingOf_303 : decode cX13_findingOf 303 = .ok (.iload 6, 2) := zo_21 (zi_at zh_dX13_findingOf_288_288 15 rfl) (zi_at zh_dX13_findingOf_303_304 0 rfl)
theorem dX13_findingOf_305 : decode cX13_findingOf 305 = .ok (.aload_n 0, 1) := zo_42 (zi_at zh_dX13_findingOf_303_304 1 rfl)
theorem dX13_findingOf_306 : decode cX13_findingOf 306 = .ok (.iload_n 2, 1) := zo_28 (zi_at zh_dX13_findingOf_303_304 2 rfl)
theorem dX13_findingOf_307 : decode cX13_findingOf 307 = .ok (.ifCond .ne 8, 3) := zo_154 (zi_at zh_dX13_findingOf_303_304 3 rfl) (zi_at zh_dX13_findingOf_303_304 4 rfl) (zi_at zh_dX13_findingOf_303_304 5 rfl) rfl
theorem dX13_findingOf_310 : decode cX13_findingOf 310 = .ok (.bipush 97, 2) := zo_16 (zi_at zh_dX13_findingOf_303_304 6 rfl) (zi_at zh_dX13_findingOf_303_304 7 rfl) rfl
theorem dX13_findingOf_312 : decode cX13_findingOf 312 = .ok (.goto 5, 3) := zo_167 (zi_at zh_dX13_findingOf_303_304 8 rfl) (zi_at zh_dX13_findingOf_303_304 9 rfl) (zi_at zh_dX13_findingOf_303_304 10 rfl) rfl
theorem dX13_findingOf_315 : decode cX13_findingOf 315 = .ok (.bipush 98, 2) := zo_16 (zi_at zh_dX13_findingOf_303_304 11 rfl) (zi_at zh_dX13_findingOf_303_304 12 rfl) rfl
theorem dX13_findingOf_317 : decode cX13_findingOf 317 = .ok (.aload_n 0, 1) := zo_42 (zi_at zh_dX13_findingOf_303_304 13 rfl)
theorem dX13_findingOf_318 : decode cX13_findingOf 318 = .ok (.getfield 50, 3) := zo_180 (zi_at zh_dX13_findingOf_303_304 14 rfl) (zi_at zh_dX13_findingOf_303_304 15 rfl) (zi_at zh_dX13_findingOf_318_320 0 rfl) rfl
theorem dX13_findingOf_321 : decode cX13_findingOf 321 = .ok (.iload 4, 2) := zo_21 (zi_at zh_dX13_findingOf_318_320 1 rfl) (zi_at zh_dX13_findingOf_318_320 2 rfl)
theorem dX13_findingOf_323 : decode cX13_findingOf 323 = .ok (.iaload, 1) := zo_46 (zi_at zh_dX13_findingOf_318_320 3 rfl)
theorem dX13_findingOf_324 : decode cX13_findingOf 324 = .ok (.iload_n 3, 1) := zo_29 (zi_at zh_dX13_findingOf_318_320 4 rfl)
theorem dX13_findingOf_325 : decode cX13_findingOf 325 = .ok (.invokevirtual 380, 3) := zo_182 (zi_at zh_dX13_findingOf_318_320 5 rfl) (zi_at zh_dX13_findingOf_318_320 6 rfl) (zi_at zh_dX13_findingOf_318_320 7 rfl) rfl
theorem dX13_findingOf_328 : decode cX13_findingOf 328 = .ok (.ifCond .eq 7, 3) := zo_153 (zi_at zh_dX13_findingOf_318_320 8 rfl) (zi_at zh_dX13_findingOf_318_320 9 rfl) (zi_at zh_dX13_findingOf_318_320 10 rfl) rfl
theorem dX13_findingOf_331 : decode cX13_findingOf 331 = .ok (.iconst 1, 1) := zo_4 (zi_at zh_dX13_findingOf_318_320 11 rfl)
theorem dX13_findingOf_332 : decode cX13_findingOf 332 = .ok (.goto 4, 3) := zo_167 (zi_at zh_dX13_findingOf_318_320 12 rfl) (zi_at zh_dX13_findingOf_318_320 13 rfl) (zi_at zh_dX13_findingOf_318_320 14 rfl) rfl
theorem dX13_findingOf_335 : decode cX13_findingOf 335 = .ok (.iconst 0, 1) := zo_3 (zi_at zh_dX13_findingOf_318_320 15 rfl)
theorem dX13_findingOf_336 : decode cX13_findingOf 336 = .ok (.iadd, 1) := zo_96 (zi_at zh_dX13_findingOf_336_336 0 rfl)
theorem dX13_findingOf_337 : decode cX13_findingOf 337 = .ok (.istore 6, 2) := zo_54 (zi_at zh_dX13_findingOf_336_336 1 rfl) (zi_at zh_dX13_findingOf_336_336 2 rfl)
theorem dX13_findingOf_339 : decode cX13_findingOf 339 = .ok (.iinc 9 1, 3) := zo_132 (zi_at zh_dX13_findingOf_336_336 3 rfl) (zi_at zh_dX13_findingOf_336_336 4 rfl) (zi_at zh_dX13_findingOf_336_336 5 rfl) rfl
theorem dX13_findingOf_342 : decode cX13_findingOf 342 = .ok (.goto (-300), 3) := zo_167 (zi_at zh_dX13_findingOf_336_336 6 rfl) (zi_at zh_dX13_findingOf_336_336 7 rfl) (zi_at zh_dX13_findingOf_336_336 8 rfl) rfl
theorem dX13_findingOf_345 : decode cX13_findingOf 345 = .ok (.iinc 8 1, 3) := zo_132 (zi_at zh_dX13_findingOf_336_336 9 rfl) (zi_at zh_dX13_findingOf_336_336 10 rfl) (zi_at zh_dX13_findingOf_336_336 11 rfl) rfl
theorem dX13_findingOf_348 : decode cX13_findingOf 348 = .ok (.goto (-322), 3) := zo_167 (zi_at zh_dX13_findingOf_336_336 12 rfl) (zi_at zh_dX13_findingOf_336_336 13 rfl) (zi_at zh_dX13_findingOf_336_336 14 rfl) rfl
theorem dX13_findingOf_351 : decode cX13_findingOf 351 = .ok (.iload 5, 2) := zo_21 (zi_at zh_dX13_findingOf_336_336 15 rfl) (zi_at zh_dX13_findingOf_351_352 0 rfl)
theorem dX13_findingOf_353 : decode cX13_findingOf 353 = .ok (.ifCond .ne 7, 3) := zo_154 (zi_at zh_dX13_findingOf_351_352 1 rfl) (zi_at zh_dX13_findingOf_351_352 2 rfl) (zi_at zh_dX13_findingOf_351_352 3 rfl) rfl
theorem dX13_findingOf_356 : decode cX13_findingOf 356 = .ok (.iconst (-1), 1) := zo_2 (zi_at zh_dX13_findingOf_351_352 4 rfl)
theorem dX13_findingOf_357 : decode cX13_findingOf 357 = .ok (.goto 24, 3) := zo_167 (zi_at zh_dX13_findingOf_351_352 5 rfl) (zi_at zh_dX13_findingOf_351_352 6 rfl) (zi_at zh_dX13_findingOf_351_352 7 rfl) rfl
theorem dX13_findingOf_360 : decode cX13_findingOf 360 = .ok (.iload 6, 2) := zo_21 (zi_at zh_dX13_findingOf_351_352 8 rfl) (zi_at zh_dX13_findingOf_351_352 9 rfl)
theorem dX13_findingOf_362 : decode cX13_findingOf 362 = .ok (.iload 5, 2) := zo_21 (zi_at zh_dX13_findingOf_351_352 10 rfl) (zi_at zh_dX13_findingOf_351_352 11 rfl)
theorem dX13_findingOf_364 : decode cX13_findingOf 364 = .ok (.if_icmp .ne 7, 3) := zo_160 (zi_at zh_dX13_findingOf_351_352 12 rfl) (zi_at zh_dX13_findingOf_351_352 13 rfl) (zi_at zh_dX13_findingOf_351_352 14 rfl) rfl
theorem dX13_findingOf_367 : decode cX13_findingOf 367 = .ok (.iconst 1, 1) := zo_4 (zi_at zh_dX13_findingOf_351_352 15 rfl)
theorem dX13_findingOf_368 : decode cX13_findingOf 368 = .ok (.goto 13, 3) := zo_167 (zi_at zh_dX13_findingOf_368_368 0 rfl) (zi_at zh_dX13_findingOf_368_368 1 rfl) (zi_at zh_dX13_findingOf_368_368 2 rfl) rfl
theorem dX13_findingOf_371 : decode cX13_findingOf 371 = .ok (.iload 6, 2) := zo_21 (zi_at zh_dX13_findingOf_368_368 3 rfl) (zi_at zh_dX13_findingOf_368_368 4 rfl)
theorem dX13_findingOf_373 : decode cX13_findingOf 373 = .ok (.ifCond .le 7, 3) := zo_158 (zi_at zh_dX13_findingOf_368_368 5 rfl) (zi_at zh_dX13_findingOf_368_368 6 rfl) (zi_at zh_dX13_findingOf_368_368 7 rfl) rfl
theorem dX13_findingOf_376 : decode cX13_findingOf 376 = .ok (.iconst 2, 1) := zo_5 (zi_at zh_dX13_findingOf_368_368 8 rfl)
theorem dX13_findingOf_377 : decode cX13_findingOf 377 = .ok (.goto 4, 3) := zo_167 (zi_at zh_dX13_findingOf_368_368 9 rfl) (zi_at zh_dX13_findingOf_368_368 10 rfl) (zi_at zh_dX13_findingOf_368_368 11 rfl) rfl
theorem dX13_findingOf_380 : decode cX13_findingOf 380 = .ok (.iconst 0, 1) := zo_3 (zi_at zh_dX13_findingOf_368_368 12 rfl)
theorem dX13_findingOf_381 : decode cX13_findingOf 381 = .ok (.ireturn, 1) := zo_172 (zi_at zh_dX13_findingOf_368_368 13 rfl)
theorem dX13_finding_0 : decode cX13_finding 0 = .ok (.aload_n 0, 1) := zo_42 (zi_at zh_dX13_finding_0_0 0 rfl)
theorem dX13_finding_1 : decode cX13_finding 1 = .ok (.iload_n 1, 1) := zo_27 (zi_at zh_dX13_finding_0_0 1 rfl)
theorem dX13_finding_2 : decode cX13_finding 2 = .ok (.iload_n 2, 1) := zo_28 (zi_at zh_dX13_finding_0_0 2 rfl)
theorem dX13_finding_3 : decode cX13_finding 3 = .ok (.iload_n 3, 1) := zo_29 (zi_at zh_dX13_finding_0_0 3 rfl)
theorem dX13_finding_4 : decode cX13_finding 4 = .ok (.invokevirtual 481, 3) := zo_182 (zi_at zh_dX13_finding_0_0 4 rfl) (zi_at zh_dX13_finding_0_0 5 rfl) (zi_at zh_dX13_finding_0_0 6 rfl) rfl
theorem dX13_finding_7 : decode cX13_finding 7 = .ok (.ifCond .eq 13, 3) := zo_153 (zi_at zh_dX13_finding_0_0 7 rfl) (zi_at zh_dX13_finding_0_0 8 rfl) (zi_at zh_dX13_finding_0_0 9 rfl) rfl
theorem dX13_finding_10 : decode cX13_finding 10 = .ok (.aload_n 0, 1) := zo_42 (zi_at zh_dX13_finding_0_0 10 rfl)
theorem dX13_finding_11 : decode cX13_finding 11 = .ok (.iload_n 1, 1) := zo_27 (zi_at zh_dX13_finding_0_0 11 rfl)
theorem dX13_finding_12 : decode cX13_finding 12 = .ok (.iload_n 2, 1) := zo_28 (zi_at zh_dX13_finding_0_0 12 rfl)
theorem dX13_finding_13 : decode cX13_finding 13 = .ok (.iload_n 3, 1) := zo_29 (zi_at zh_dX13_finding_0_0 13 rfl)
theorem dX13_finding_14 : decode cX13_finding 14 = .ok (.invokevirtual 500, 3) := zo_182 (zi_at zh_dX13_finding_0_0 14 rfl) (zi_at zh_dX13_finding_0_0 15 rfl) (zi_at zh_dX13_finding_14_16 0 rfl) rfl
theorem dX13_finding_17 : decode cX13_finding 17 = .ok (.goto 4, 3) := zo_167 (zi_at zh_dX13_finding_14_16 1 rfl) (zi_at zh_dX13_finding_14_16 2 rfl) (zi_at zh_dX13_finding_14_16 3 rfl) rfl
theorem dX13_finding_20 : decode cX13_finding 20 = .ok (.iconst (-1), 1) := zo_2 (zi_at zh_dX13_finding_14_16 4 rfl)
theorem dX13_finding_21 : decode cX13_finding 21 = .ok (.ireturn, 1) := zo_172 (zi_at zh_dX13_finding_14_16 5 rfl)
theorem dJ9_floorMod_7cf53_0 : decode cJ9_floorMod_7cf53 0 = .ok (.iload_n 0, 1) := zo_26 (zi_at zh_dJ9_floorMod_7cf53_0_0 0 rfl)
theorem dJ9_floorMod_7cf53_1 : decode cJ9_floorMod_7cf53 1 = .ok (.iload_n 1, 1) := zo_27 (zi_at zh_dJ9_floorMod_7cf53_0_0 1 rfl)
theorem dJ9_floorMod_7cf53_2 : decode cJ9_floorMod_7cf53 2 = .ok (.irem, 1) := zo_112 (zi_at zh_dJ9_floorMod_7cf53_0_0 2 rfl)
theorem dJ9_floorMod_7cf53_3 : decode cJ9_floorMod_7cf53 3 = .ok (.istore_n 2, 1) := zo_61 (zi_at zh_dJ9_floorMod_7cf53_0_0 3 rfl)
theorem dJ9_floorMod_7cf53_4 : decode cJ9_floorMod_7cf53 4 = .ok (.iload_n 0, 1) := zo_26 (zi_at zh_dJ9_floorMod_7cf53_0_0 4 rfl)
theorem dJ9_floorMod_7cf53_5 : decode cJ9_floorMod_7cf53 5 = .ok (.iload_n 1, 1) := zo_27 (zi_at zh_dJ9_floorMod_7cf53_0_0 5 rfl)
theorem dJ9_floorMod_7cf53_6 : decode cJ9_floorMod_7cf53 6 = .ok (.ixor, 1) := zo_130 (zi_at zh_dJ9_floorMod_7cf53_0_0 6 rfl)
theorem dJ9_floorMod_7cf53_7 : decode cJ9_floorMod_7cf53 7 = .ok (.ifCond .ge 11, 3) := zo_156 (zi_at zh_dJ9_floorMod_7cf53_0_0 7 rfl) (zi_at zh_dJ9_floorMod_7cf53_0_0 8 rfl) (zi_at zh_dJ9_floorMod_7cf53_0_0 9 rfl) rfl
theorem dJ9_floorMod_7cf53_10 : decode cJ9_floorMod_7cf53 10 = .ok (.iload_n 2, 1) := zo_28 (zi_at zh_dJ9_floorMod_7cf53_0_0 10 rfl)
theorem dJ9_floorMod_7cf53_11 : decode cJ9_floorMod_7cf53 11 = .ok (.ifCond .eq 7, 3) := zo_153 (zi_at zh_dJ9_floorMod_7cf53_0_0 11 rfl) (zi_at zh_dJ9_floorMod_7cf53_0_0 12 rfl) (zi_at zh_dJ9_floorMod_7cf53_0_0 13 rfl) rfl
theorem dJ9_floorMod_7cf53_14 : decode cJ9_floorMod_7cf53 14 = .ok (.iload_n 2, 1) := zo_28 (zi_at zh_dJ9_floorMod_7cf53_0_0 14 rfl)
theorem dJ9_floorMod_7cf53_15 : decode cJ9_floorMod_7cf53 15 = .ok (.iload_n 1, 1) := zo_27 (zi_at zh_dJ9_floorMod_7cf53_0_0 15 rfl)
theorem dJ9_floorMod_7cf53_16 : decode cJ9_floorMod_7cf53 16 = .ok (.iadd, 1) := zo_96 (zi_at zh_dJ9_floorMod_7cf53_16_16 0 rfl)
theorem dJ9_floorMod_7cf53_17 : decode cJ9_floorMod_7cf53 17 = .ok (.ireturn, 1) := zo_172 (zi_at zh_dJ9_floorMod_7cf53_16_16 1 rfl)
theorem dJ9_floorMod_7cf53_18 : decode cJ9_floorMod_7cf53 18 = .ok (.iload_n 2, 1) := zo_28 (zi_at zh_dJ9_floorMod_7cf53_16_16 2 rfl)
theorem dJ9_floorMod_7cf53_19 : decode cJ9_floorMod_7cf53 19 = .ok (.ireturn, 1) := zo_172 (zi_at zh_dJ9_floorMod_7cf53_16_16 3 rfl)
theorem hz_yX13_clear_0 : yX13_clear.cls ≠ "java/lang/invoke/MethodHandle" ∧ yX13_clear.cls ≠ "java/lang/invoke/VarHandle" ∧ (parseMethodDescriptor yX13_clear.desc).map (fun d => d.parameters.length) = some 0 := by decide +kernel
theorem hz_yX13_far_4 : yX13_far.cls ≠ "java/lang/invoke/MethodHandle" ∧ yX13_far.cls ≠ "java/lang/invoke/VarHandle" ∧ (parseMethodDescriptor yX13_far.desc).map (fun d => d.parameters.length) = some 4 := by decide +kernel
theorem hz_yX13_onStarboard_2 : yX13_onStarboard.cls ≠ "java/lang/invoke/MethodHandle" ∧ yX13_onStarboard.cls ≠ "java/lang/invoke/VarHandle" ∧ (parseMethodDescriptor yX13_onStarboard.desc).map (fun d => d.parameters.length) = some 2 := by decide +kernel
theorem hz_yX13_east_1 : yX13_east.cls ≠ "java/lang/invoke/MethodHandle" ∧ yX13_east.cls ≠ "java/lang/invoke/VarHandle" ∧ (parseMethodDescriptor yX13_east.desc).map (fun d => d.parameters.length) = some 1 := by decide +kernel
theorem hz_yX13_south_1 : yX13_south.cls ≠ "java/lang/invoke/MethodHandle" ∧ yX13_south.cls ≠ "java/lang/invoke/VarHandle" ∧ (parseMethodDescriptor yX13_south.desc).map (fun d => d.parameters.length) = some 1 := by decide +kernel
theorem hz_yX13_worth_3 : yX13_worth.cls ≠ "java/lang/invoke/MethodHandle" ∧ yX13_worth.cls ≠ "java/lang/invoke/VarHandle" ∧ (parseMethodDescriptor yX13_worth.desc).map (fun d => d.parameters.length) = some 3 := by decide +kernel
theorem hz_yX13_findingOf_3 : yX13_findingOf.cls ≠ "java/lang/invoke/MethodHandle" ∧ yX13_findingOf.cls ≠ "java/lang/invoke/VarHandle" ∧ (parseMethodDescriptor yX13_findingOf.desc).map (fun d => d.parameters.length) = some 3 := by decide +kernel
/-! ===== Math.floorMod of two ints: an int comes back (its class is one that the machine may run by entries of its own: the loose body form) ===== -/
def fmX : MethodName := yJ9_floorMod_7cf53
theorem fm_noRow0 : (NativeRow.find? natives fmX.cls fmX.name fmX.desc).isNone = true := by decide +kernel
theorem fm_noRow (p : Program) : NativeRow.find? p.tables.natives fmX.cls fmX.name fmX.desc = none := by
  cases p <;> exact Option.isNone_iff_eq_none.mp fm_noRow0
def fmS : Spec := { pre := .and (.code fmX cJ9_floorMod_7cf53 3 (some .int)) (.and (.count 2) (.and (.isInt (.arg 0)) (.and (.isInt (.arg 1)) (.not (.eq (.arg 1) (.int 0)))))), post := .and .returned (.isInt .result), changes := some [] }
set_option maxHeartbeats 4000000 in
theorem fm_meetsLoose (l : Launch) : MeetsLoose l fmX fmS := by
  refine MeetsLoose.of_body_ov (code := cJ9_floorMod_7cf53) (maxLocals := 3) (ret := some .int) fm_noRow ?_ ?_
  · intro args s h
    simp only [fmS, Cond.before_and, Bool.and_eq_true] at h
    exact h.1
  · intro p e s m args below meth c s₁ B
    have hpre := B.pre
    simp only [fmS, Cond.before_and, Bool.and_eq_true] at hpre
    obtain ⟨a, b, rfl⟩ := Cond.two_ints hpre.2.1 hpre.2.2.1 hpre.2.2.2.1
    have hb : ¬ b = 0 := by
      intro e0
      have h := hpre.2.2.2.2
      subst e0
      simp [Cond.before, Cond.holds, Cond.value, Term.eval] at h
    have hloc : argsToLocals #[.int a, .int b] 3 = #[.val (.int a), .val (.int b), .unset] := rfl
    have fin : ∀ r : Int32, (∀ fs, Steps p.tables e below (s₁.setTop (entryFrame m #[.int a, .int b] 3)) (s₁.setFrames fs) ∨ handOver s₁ (some (.int r)) below ≠ some fs) →
        ∃ s₂ o, Steps p.tables e below (s₁.setTop (entryFrame m #[.int a, .int b] 3)) s₂ ∧ s₂.status = .running ∧ Ended s₂ below o ∧
          fmS.ensures #[.int a, .int b] s o s₂ := by
      intro r hwalk
      obtain ⟨fs, hfs⟩ := handOver_isSome (s := s₁) (some (.int r)) B.hears₁
      refine ⟨s₁.setFrames fs, .returned (some (.int r)), (hwalk fs).resolve_right (fun h => h hfs), B.here.running, B.ended hfs (by intro h; cases h), ?_, State.sameBut_nil.mpr ?_⟩
      · simp [fmS, Cond.after, Cond.holds, Cond.value, Term.eval]
      · rw [State.frames_setFrames _ B.cur₁, B.back]
    obtain ⟨r, hr⟩ : ∃ r : Int32, r = a - a / b * b := ⟨_, rfl⟩
    have hst : storeLocals #[.val (.int a), .val (.int b), .unset] 2 (.int r) = some #[.val (.int a), .val (.int b), .val (.int r)] := rfl
    by_cases h1 : 0 ≤ a ^^^ b
    · refine fin (r) (fun fs => ?_)
      by_cases hfs : handOver s₁ (some (.int (r))) below = some fs
      · left
        unfold entryFrame; rw [hloc]
        refine Steps.instrAtOv (c := _) (by simpa using B.here) ?_
        simp [jvm, wpRun, exec, B.here.top, B.exec, B.bytes, dJ9_floorMod_7cf53_0]
        refine Steps.instrAtOv (c := _) (by simpa using B.here) ?_
        simp [jvm, wpRun, exec, B.here.top, B.exec, B.bytes, dJ9_floorMod_7cf53_1]
        refine Steps.instrAtOv (c := _) (by simpa using B.here) ?_
        simp [jvm, wpRun, exec, B.here.top, B.exec, B.bytes, dJ9_floorMod_7cf53_2, irem.wp_sem, hb]
        rw [← hr]
        refine Steps.instrAtOv (c := _) (by simpa using B.here) ?_
        simp [jvm, wpRun, exec, B.here.top, B.exec, B.bytes, dJ9_floorMod_7cf53_3, hst]
        refine Steps.instrAtOv (c := _) (by simpa using B.here) ?_
        simp [jvm, wpRun, exec, B.here.top, B.exec, B.bytes, dJ9_floorMod_7cf53_4]
        refine Steps.instrAtOv (c := _) (by simpa using B.here) ?_
        simp [jvm, wpRun, exec, B.here.top, B.exec, B.bytes, dJ9_floorMod_7cf53_5]
        refine Steps.instrAtOv (c := _) (by simpa using B.here) ?_
        simp [jvm, wpRun, exec, B.here.top, B.exec, B.bytes, dJ9_floorMod_7cf53_6]
        refine Steps.instrAtOv (c := _) (by simpa using B.here) ?_
        simp [jvm, wpRun, exec, B.here.top, B.exec, B.bytes, dJ9_floorMod_7cf53_7, Op.ifCond.holds, h1]
        refine Steps.instrAtOv (c := _) (by simpa using B.here) ?_
        simp [jvm, wpRun, exec, B.here.top, B.exec, B.bytes, dJ9_floorMod_7cf53_18]
        refine Steps.instrAtOv (c := _) (by simpa using B.here) ?_
        simp [jvm, wpRun, exec, B.here.top, B.exec, B.bytes, dJ9_floorMod_7cf53_19, B.method₁, B.returns, narrow]
        intro acts
        rw [ret_to B.frames₁ B.method₁ B.notSynchronized rfl rfl hfs]
        exact Steps.refl _
      · exact Or.inr hfs
    · by_cases h2 : r = 0
      · refine fin (0) (fun fs => ?_)
        by_cases hfs : handOver s₁ (some (.int (0))) below = some fs
        · left
          unfold entryFrame; rw [hloc]
          refine Steps.instrAtOv (c := _) (by simpa using B.here) ?_
          simp [jvm, wpRun, exec, B.here.top, B.exec, B.bytes, dJ9_floorMod_7cf53_0]
          refine Steps.instrAtOv (c := _) (by simpa using B.here) ?_
          simp [jvm, wpRun, exec, B.here.top, B.exec, B.bytes, dJ9_floorMod_7cf53_1]
          refine Steps.instrAtOv (c := _) (by simpa using B.here) ?_
          simp [jvm, wpRun, exec, B.here.top, B.exec, B.bytes, dJ9_floorMod_7cf53_2, irem.wp_sem, hb]
          rw [← hr]
          refine Steps.instrAtOv (c := _) (by simpa using B.here) ?_
          simp [jvm, wpRun, exec, B.here.top, B.exec, B.bytes, dJ9_floorMod_7cf53_3, hst]
          refine Steps.instrAtOv (c := _) (by simpa using B.here) ?_
          simp [jvm, wpRun, exec, B.here.top, B.exec, B.bytes, dJ9_floorMod_7cf53_4]
          refine Steps.instrAtOv (c := _) (by simpa using B.here) ?_
          simp [jvm, wpRun, exec, B.here.top, B.exec, B.bytes, dJ9_floorMod_7cf53_5]
          refine Steps.instrAtOv (c := _) (by simpa using B.here) ?_
          simp [jvm, wpRun, exec, B.here.top, B.exec, B.bytes, dJ9_floorMod_7cf53_6]
          refine Steps.instrAtOv (c := _) (by simpa using B.here) ?_
          simp [jvm, wpRun, exec, B.here.top, B.exec, B.bytes, dJ9_floorMod_7cf53_7, Op.ifCond.holds, h1]
          refine Steps.instrAtOv (c := _) (by simpa using B.here) ?_
          simp [jvm, wpRun, exec, B.here.top, B.exec, B.bytes, dJ9_floorMod_7cf53_10]
          refine Steps.instrAtOv (c := _) (by simpa using B.here) ?_
          simp [jvm, wpRun, exec, B.here.top, B.exec, B.bytes, dJ9_floorMod_7cf53_11, Op.ifCond.holds, h2]
          refine Steps.instrAtOv (c := _) (by simpa using B.here) ?_
          simp [jvm, wpRun, exec, B.here.top, B.exec, B.bytes, dJ9_floorMod_7cf53_18]
          refine Steps.instrAtOv (c := _) (by simpa using B.here) ?_
          simp [jvm, wpRun, exec, B.here.top, B.exec, B.bytes, dJ9_floorMod_7cf53_19, B.method₁, B.returns, narrow]
          intro acts
          rw [ret_to B.frames₁ B.method₁ B.notSynchronized rfl rfl hfs]
          exact Steps.refl _
        · exact Or.inr hfs
      · refine fin (r + b) (fun fs => ?_)
        by_cases hfs : handOver s₁ (some (.int (r + b))) below = some fs
        · left
          unfold entryFrame; rw [hloc]
          refine Steps.instrAtOv (c := _) (by simpa using B.here) ?_
          simp [jvm, wpRun, exec, B.here.top, B.exec, B.bytes, dJ9_floorMod_7cf53_0]
          refine Steps.instrAtOv (c := _) (by simpa using B.here) ?_
          simp [jvm, wpRun, exec, B.here.top, B.exec, B.bytes, dJ9_floorMod_7cf53_1]
          refine Steps.instrAtOv (c := _) (by simpa using B.here) ?_
          simp [jvm, wpRun, exec, B.here.top, B.exec, B.bytes, dJ9_floorMod_7cf53_2, irem.wp_sem, hb]
          rw [← hr]
          refine Steps.instrAtOv (c := _) (by simpa using B.here) ?_
          simp [jvm, wpRun, exec, B.here.top, B.exec, B.bytes, dJ9_floorMod_7cf53_3, hst]
          refine Steps.instrAtOv (c := _) (by simpa using B.here) ?_
          simp [jvm, wpRun, exec, B.here.top, B.exec, B.bytes, dJ9_floorMod_7cf53_4]
          refine Steps.instrAtOv (c := _) (by simpa using B.here) ?_
          simp [jvm, wpRun, exec, B.here.top, B.exec, B.bytes, dJ9_floorMod_7cf53_5]
          refine Steps.instrAtOv (c := _) (by simpa using B.here) ?_
          simp [jvm, wpRun, exec, B.here.top, B.exec, B.bytes, dJ9_floorMod_7cf53_6]
          refine Steps.instrAtOv (c := _) (by simpa using B.here) ?_
          simp [jvm, wpRun, exec, B.here.top, B.exec, B.bytes, dJ9_floorMod_7cf53_7, Op.ifCond.holds, h1]
          refine Steps.instrAtOv (c := _) (by simpa using B.here) ?_
          simp [jvm, wpRun, exec, B.here.top, B.exec, B.bytes, dJ9_floorMod_7cf53_10]
          refine Steps.instrAtOv (c := _) (by simpa using B.here) ?_
          simp [jvm, wpRun, exec, B.here.top, B.exec, B.bytes, dJ9_floorMod_7cf53_11, Op.ifCond.holds, h2]
          refine Steps.instrAtOv (c := _) (by simpa using B.here) ?_
          simp [jvm, wpRun, exec, B.here.top, B.exec, B.bytes, dJ9_floorMod_7cf53_14]
          refine Steps.instrAtOv (c := _) (by simpa using B.here) ?_
          simp [jvm, wpRun, exec, B.here.top, B.exec, B.bytes, dJ9_floorMod_7cf53_15]
          refine Steps.instrAtOv (c := _) (by simpa using B.here) ?_
          simp [jvm, wpRun, exec, B.here.top, B.exec, B.bytes, dJ9_floorMod_7cf53_16]
          refine Steps.instrAtOv (c := _) (by simpa using B.here) ?_
          simp [jvm, wpRun, exec, B.here.top, B.exec, B.bytes, dJ9_floorMod_7cf53_17, B.method₁, B.returns, narrow]
          intro acts
          rw [ret_to B.frames₁ B.method₁ B.notSynchronized rfl rfl hfs]
          exact Steps.refl _
        · exact Or.inr hfs
section FMR
variable {p : Program} {l : Launch} {e : Env} {R : Room} {s : State} {m : MethodId} {args : Array Value} {below : List Frame} {meth : Method} {c : Code} {H : Heap} {locs : List Loc} {cells slots : Nat} {Q : State → Prop} {pc : Nat} {ls : Array Slot} {rest : List Value} {cc : ByteArray}
theorem fm_V {T : State} (X : Stand p l e R s m args below meth c T locs cells slots) (hexec : p.tables.exec = Jvm.exec) {own : String} {index : Nat} (hown : s.vm.findClass own = some m.cls)
    (hlink : (Cond.methodLink own index fmX).before args s = true) (hstat : (Cond.static fmX).before args s = true) (hinit : (Cond.initialized "java/lang/Math").before args s = true)
    (hcode : (Cond.code fmX cJ9_floorMod_7cf53 3 (some .int)).before args s = true)
    {g : JFrame} (hg : g.method = m) (hsize : g.locals.size = c.maxLocals) {a b : Int32} (hb0 : ¬ b = 0) {rest : List Value} (hstack : g.stack = .int b :: .int a :: rest) (hdg : decode c.code g.pc = .ok (.invokestatic index, 3))
    (hframes : 1 ≤ R.frames) (hlocals : 2 * g.monitorRoom + (rest.map fun v => v.category).sum + 14 ≤ R.locals) (hcells : cells ≤ R.cells) (hslots : slots ≤ R.slots) :
    ∃ vm' r, Stand p l e R s m args below meth c (T.setVm vm') locs cells slots ∧
      ∀ target, Steps p.tables e below ((T.setVm vm').setTop { g with pc := g.pc + 3, stack := .int r :: rest }) target → Steps p.tables e below (T.setTop g) target := by
  obtain ⟨v, T', X', ⟨first, t, hpost⟩, hstep⟩ := X.staticByContractV hexec hown hlink hstat hinit hcode (by decide)
    (fm_meetsLoose l)
    rfl rfl rfl rfl
    (fun args' first o s₂ h => by
      simp only [fmS, Cond.after_and, Bool.and_eq_true] at h
      cases o with
      | returned r => exact ⟨r, rfl⟩
      | threw y => simp [Cond.after, Cond.holds, Cond.value] at h)
    hg hsize (argsL := [.int a, .int b]) (rest := rest)
    (fun sig hs => by
      have h : parseMethodDescriptor "(II)I" = some { parameters := [.int, .int], returnType := some .int } := by decide +kernel
      rw [show fmX.desc = "(II)I" from rfl, h] at hs
      rw [← Option.some.inj hs]; rfl)
    hstack hdg
    (fun vm' hW => by
      simp only [fmS, Cond.before_and, Bool.and_eq_true]
      refine ⟨?_, rfl, rfl, rfl, ?_⟩
      · have q := hcode
        rw [← Cond.code_setVm hW.alike] at q
        simp only [Cond.before, Cond.holds, Cond.value, State.methodNamed?, State.vm_setVm] at q ⊢
        exact q
      · simp [Cond.before, Cond.holds, Cond.value, Term.eval, hb0])
    (by show 0 + 1 ≤ R.frames; omega) (by show 2 * g.monitorRoom + (rest.map fun v => v.category).sum + (3 + 11) + 0 ≤ R.locals; omega) (by show cells + 0 ≤ R.cells; omega) (by show slots + 0 ≤ R.slots; omega)
  obtain ⟨r, rfl⟩ : ∃ r : Int32, v = some (.int r) := by
    rcases v with _ | w
    · simp [fmS, Cond.after, Cond.holds, Cond.value, Term.eval] at hpost
    · cases w <;> simp [fmS, Cond.after, Cond.holds, Cond.value, Term.eval] at hpost
      exact ⟨_, rfl⟩
  exact ⟨T', r, X', fun target h => hstep target h⟩
theorem th_floorMod (hexec : p.tables.exec = Jvm.exec) (hb : c.code = cc) (hml : c.maxLocals = ls.size) {own : String} {index : Nat} (hown : s.vm.findClass own = some m.cls) (hlink : (Cond.methodLink own index fmX).before args s = true) (hstat : (Cond.static fmX).before args s = true) (hini : (Cond.initialized "java/lang/Math").before args s = true) (hcode : (Cond.code fmX cJ9_floorMod_7cf53 3 (some .int)).before args s = true)
    (hframes : 1 ≤ R.frames) (hlocals : (rest.map fun v => v.category).sum + 14 ≤ R.locals) (hc : cells ≤ R.cells) (hs : slots ≤ R.slots) {x y : Int32} (hy : ¬ y = 0) (hdg : decode cc pc = .ok (.invokestatic index, 3))
    (kk : ∀ r : Int32, W p l e R s m args below meth c H locs cells slots Q (F0 m (pc + 3) ls (.int r :: rest))) : W p l e R s m args below meth c H locs cells slots Q (F0 m pc ls (.int y :: .int x :: rest)) := by
  intro T hT X
  obtain ⟨vm', r, X', st⟩ := fm_V X hexec hown hlink hstat hini hcode (g := F0 m pc ls (.int y :: .int x :: rest)) rfl (by rw [hml]) (a := x) (b := y) hy (rest := rest) rfl (by rw [hb]; exact hdg) hframes (by show 2 * 0 + _ + 14 ≤ _; omega) hc hs
  obtain ⟨t, a1, b1⟩ := kk r (T.setVm vm') hT X'
  exact ⟨t, st t a1, b1⟩
end FMR
section
def v_onStarboard : List Cond := .code yX13_onStarboard cX13_onStarboard 2 (some .int) :: vA
abbrev rm_onStarboard : Room := { frames := 1, cells := 0, slots := 0, locals := 40 }
set_option maxHeartbeats 4000000 in
set_option maxRecDepth 100000 in
theorem q_onStarboard (l : Launch) (a0 : Int32) (a1 : Int32)  : Met l yX13_onStarboard v_onStarboard rm_onStarboard (va_Pc [.int a0, .int a1] (fun _ => True)) (va_Qi (S := Unit) (fun r _ => (0 ≤ r.toInt ∧ r.toInt ≤ 1)) (fun _ _ => True) (fun _ => False)) 0 0 (fun _ => False) := by
  refine Met.ofW (cc := cX13_onStarboard) (maxL := 2) (ret := (some .int)) (by decide) rfl ?_
  intro p e s m args below meth c s₁ B hml hv
  obtain ⟨hargs, -⟩ := hv
  have hx := B.exec
  have hb := B.bytes
  have hr := B.returns
  have hts := atoms_spec (ws := v_onStarboard) B.pre
  have hown : s.vm.findClass RX13 = some m.cls := findClass_of_methodNamed B.named
  have hlocks := B.notSynchronized
  have hS : va_S (fun _ : Nat => False) s.heap s.heap [] := va_S.rf
  have hl := lv_entry ([.int a0, .int a1]) (n := 2) (Nat.le_of_ble_eq_true rfl)
  obtain ⟨Q, hQ⟩ : ∃ Q, Q = MQ below (va_Qi (S := Unit) (fun r _ => (0 ≤ r.toInt ∧ r.toInt ≤ 1)) (fun _ _ => True) (fun _ => False)) args s 0 0 (fun _ => False) := ⟨_, rfl⟩
  rw [← hQ, show entryFrame m args 2 = _ from (congrArg (fun z => entryFrame m z 2) hargs).trans (lg_entry_eq _ _ _)]
  generalize (lg_sl ([.int a0, .int a1]) ++ List.replicate (2 - (lg_sl ([.int a0, .int a1])).length) Slot.unset).toArray = ls at hl ⊢
  have hl : lv_has ls 2 [(0, .int a0), (1, .int a1)] := hl
  refine lv_iload_n hx hb dX13_onStarboard_0 rfl (lv_at hl 0 rfl) ?_
  refine lv_iload_n hx hb dX13_onStarboard_1 rfl (lv_at hl 1 rfl) ?_
  refine lv_isub hx hb dX13_onStarboard_2 ?_
  refine lv_topi (fun y1 ey1 => ?_)
  refine lv_bipush (v := 8) hx hb dX13_onStarboard_3 (by decide) ?_
  refine th_floorMod hx hb (by rw [hml]; exact hl.1.symm) hown (hts _ (vA_in _ _ (in_31 _ (zs1 (zs0))))) (hts _ (vA_in _ _ (in_31 _ (zs1 (zs1 (zs0)))))) (hts _ (vA_in _ _ (in_0 _ (zs16 (zs16 (zs1 (zs0))))))) (hts _ (vA_in _ _ (in_3 _ (zs4 (zs4 (zs0)))))) (Nat.le_of_ble_eq_true rfl) (Nat.le_of_ble_eq_true rfl) (Nat.le_of_ble_eq_true rfl) (Nat.le_of_ble_eq_true rfl) (by decide) dX13_onStarboard_5 (fun y2 => ?_)
  refine lv_iconst (v := 4) hx hb dX13_onStarboard_8 (by decide) ?_
  refine lv_icmp_le (tgt := 16) hx hb dX13_onStarboard_9 (by decide) (fun c3 => ?_) (fun c3 => ?_)
  · --9 taken
    have t4 : y2.toInt ≤ 4 := ti_le c3
    have i5 : -2147483648 ≤ y2.toInt ∧ y2.toInt ≤ 4 := iv_le_l t4 (iv_all _) (il_ 4) (by decide)
    refine lv_iconst (v := 0) hx hb dX13_onStarboard_16 (by decide) ?_
    rw [hQ]
    exact W.iret (v := 0) hx hb hr (fun t ht hW => ⟨⟨0, (), rfl, (iv_w ln_0 (by decide)), trivial⟩, hS.F ht⟩) hS.2.2 dX13_onStarboard_17
  · --9 not
    have t6 : (4 : Int) < y2.toInt := ti_nle c3
    have i7 : 5 ≤ y2.toInt ∧ y2.toInt ≤ 2147483647 := iv_lt_r t6 (il_ 4) (iv_all _) (by decide)
    refine lv_iconst (v := 1) hx hb dX13_onStarboard_12 (by decide) ?_
    refine lv_goto (tgt := 17) hx hb dX13_onStarboard_13 (by decide) ?_
    rw [hQ]
    exact W.iret (v := 1) hx hb hr (fun t ht hW => ⟨⟨1, (), rfl, (iv_w ln_1 (by decide)), trivial⟩, hS.F ht⟩) hS.2.2 dX13_onStarboard_17
def v_findingOf : List Cond := .code yX13_findingOf cX13_findingOf 10 (some .int) :: vA
abbrev rm_findingOf : Room := { frames := 71, cells := 0, slots := 0, locals := 2840 }
def w_findingOf : Nat → Nat → Bool := wl [12] [(0, 18), (0, 19), (0, 20), (0, 21), (0, 22), (0, 23), (0, 24), (0, 25), (0, 26)]
set_option maxHeartbeats 4000000 in
set_option maxRecDepth 100000 in
theorem q_findingOf (l : Launch) (dC : Nat → ClassId) (dI : Nat → Nat → Nat) (cT : Nat → ClassId) (ad : Nat → Nat) (E : Nat → va_E) (sz : Nat) (a0 : Int32) (a1 : Int32) (a2 : Int32) (hI0 : IX cT shM spM 72 ad E) (hh0 : 0 ≤ a0.toInt ∧ a0.toInt ≤ 29) : Met l yX13_findingOf v_findingOf rm_findingOf (va_Pc [.ref (ad 0), .int a0, .int a1, .int a2] (HW dC dI (TYM cT) 72 ad E sz)) (va_Qi (S := Nat → va_E) (fun r u => IX cT shM spM 72 ad u ∧ Kp w_findingOf E u ∧ (True)) (HB dC dI 72 ad) (va_A (WX 72 ad E) sz)) 0 0 (va_A (WX 72 ad E) sz) := by
  refine Met.ofW (cc := cX13_findingOf) (maxL := 10) (ret := (some .int)) (by decide) rfl ?_
  intro p e s m args below meth c s₁ B hml hv
  obtain ⟨hargs, hsz, hP, hK, hD0, hEV⟩ := hv
  subst hsz
  have hx := B.exec
  have hb := B.bytes
  have hr := B.returns
  have hts := atoms_spec (ws := v_findingOf) B.pre
  have hown : s.vm.findClass RX13 = some m.cls := findClass_of_methodNamed B.named
  have hlocks := B.notSynchronized
  have hinX13 : ∀ w ∈ u_ws RX13 TX13 97, w ∈ v_findingOf := fun w h => vA_in _ w (in_X13 w h)
  generalize hAe : va_A (WX 72 ad E) s.heap.size = A at hEV ⊢
  have hA : ∀ q : Nat, s.heap.size ≤ q → A q := fun q h => by rw [← hAe]; exact Or.inr h
  have hD : va_D A (WX 72 ad E) := by rw [← hAe]; exact hD0.self
  have hS : va_S A s.heap s.heap [] := va_S.rf
  have hI := hI0
  have hKp : Kp w_findingOf E E := Kp.rf
  have hl := lv_entry ([.ref (ad 0), .int a0, .int a1, .int a2]) (n := 10) (Nat.le_of_ble_eq_true rfl)
  obtain ⟨Q, hQ⟩ : ∃ Q, Q = MQ below (va_Qi (S := Nat → va_E) (fun r u => IX cT shM spM 72 ad u ∧ Kp w_findingOf E u ∧ (True)) (HB dC dI 72 ad) (A)) args s 0 0 (A) := ⟨_, rfl⟩
  rw [← hQ, show entryFrame m args 10 = _ from (congrArg (fun z => entryFrame m z 10) hargs).trans (lg_entry_eq _ _ _)]
  generalize (lg_sl ([.ref (ad 0), .int a0, .int a1, .int a2]) ++ List.replicate (10 - (lg_sl ([.ref (ad 0), .int a0, .int a1, .int a2])).length) Slot.unset).toArray = ls at hl ⊢
  have hl : lv_has ls 10 [(0, .ref (ad 0)), (1, .int a0), (2, .int a1), (3, .int a2)] := hl
  refine lv_aload_n hx hb dX13_findingOf_0 rfl (lv_at hl 0 rfl) ?_
  refine th_get (ci := 14) (C := RX13) (T := TX13) (N := 97) (v := .ref (ad 46)) hx hb hts hinX13 hown hK hP hI 0 (Nat.le_of_ble_eq_true rfl) rfl rfl 64 (Nat.le_of_ble_eq_true rfl) (hts _ (vA_in _ _ (in_25 _ (zs1 (zs1 (zs1 (zs0))))))) (fun _ h9 => h9) (hI.fr 0 (Nat.le_of_ble_eq_true rfl) rfl (Nat.le_of_ble_eq_true rfl) 46 rfl) dX13_findingOf_1 ?_
  refine lv_iload_n hx hb dX13_findingOf_4 rfl (lv_at hl 1 rfl) ?_
  have n2 : vp_in a0 30 := (iv_in (n := 30) hh0 (by decide))
  refine th_iald hx hb hK hP hI 46 (Nat.le_of_ble_eq_true rfl) rfl rfl n2 dX13_findingOf_5 (fun y1 ey1 => ?_)
  have iy1 : 0 ≤ y1.toInt ∧ y1.toInt ≤ 19 := hI.el 46 (Nat.le_of_ble_eq_true rfl) rfl n2 (fun _ => rfl) ey1
  have ey1 := ey1.trans (hKp.ei 46 _ rfl)
  refine lv_istore (lv' := [(4, .int y1), (0, .ref (ad 0)), (1, .int a0), (2, .int a1), (3, .int a2)]) hx hb dX13_findingOf_6 hl (by decide) rfl (fun ls hl => ?_)
  refine lv_iconst (v := 0) hx hb dX13_findingOf_8 (by decide) ?_
  refine lv_istore (lv' := [(5, .int 0), (4, .int y1), (0, .ref (ad 0)), (1, .int a0), (2, .int a1), (3, .int a2)]) hx hb dX13_findingOf_9 hl (by decide) rfl (fun ls hl => ?_)
  refine lv_iconst (v := 0) hx hb dX13_findingOf_11 (by decide) ?_
  refine lv_istore (lv' := [(6, .int 0), (5, .int 0), (4, .int y1), (0, .ref (ad 0)), (1, .int a0), (2, .int a1), (3, .int a2)]) hx hb dX13_findingOf_12 hl (by decide) rfl (fun ls hl => ?_)
  refine lv_aload_n hx hb dX13_findingOf_14 rfl (lv_at hl 3 rfl) ?_
  refine th_get (ci := 14) (C := RX13) (T := TX13) (N := 97) (v := .ref (ad 16)) hx hb hts hinX13 hown hK hP hI 0 (Nat.le_of_ble_eq_true rfl) rfl rfl 30 (Nat.le_of_ble_eq_true rfl) (hts _ (vA_in _ _ (in_30 _ (zs16 (zs16 (zs0)))))) (fun _ h9 => h9) (hI.fr 0 (Nat.le_of_ble_eq_true rfl) rfl (Nat.le_of_ble_eq_true rfl) 16 rfl) dX13_findingOf_15 ?_
  refine lv_iload hx hb dX13_findingOf_18 (lv_at hl 2 rfl) ?_
  have n4 : vp_in y1 20 := (iv_in (n := 20) iy1 (by decide))
  refine th_iald hx hb hK hP hI 16 (Nat.le_of_ble_eq_true rfl) rfl rfl n4 dX13_findingOf_20 (fun y3 ey3 => ?_)
  have iy3 : 0 ≤ y3.toInt ∧ y3.toInt ≤ 7 := hI.el 16 (Nat.le_of_ble_eq_true rfl) rfl n4 (fun _ => rfl) ey3
  have ey3 := ey3.trans (hKp.ei 16 _ rfl)
  refine lv_istore (lv' := [(7, .int y3), (6, .int 0), (5, .int 0), (4, .int y1), (0, .ref (ad 0)), (1, .int a0), (2, .int a1), (3, .int a2)]) hx hb dX13_findingOf_21 hl (by decide) rfl (fun ls hl => ?_)
  refine lv_iconst (v := 0) hx hb dX13_findingOf_23 (by decide) ?_
  refine lv_istore (lv' := [(8, .int 0), (7, .int y3), (6, .int 0), (5, .int 0), (4, .int y1), (0, .ref (ad 0)), (1, .int a0), (2, .int a1), (3, .int a2)]) hx hb dX13_findingOf_24 hl (by decide) rfl (fun ls hl => ?_)
  have hL26 : ∀ d : Nat, ∀ (v26_8 : Int32) (v26_6 : Int32) (v26_5 : Int32) (E26_ : Nat → va_E) (H : Heap) (locs : List Loc) (ls : Array Slot), 0 ≤ v26_8.toInt ∧ v26_8.toInt ≤ 128 → 128 - v26_8.toInt < (d : Int) → IX cT shM spM 72 ad E26_ → Kp w_findingOf E E26_ → va_P (dC, dI) vwCl (WX 72 ad E26_) H → va_S A s.heap H locs → lv_has ls 10 [(8, .int v26_8), (7, .int y3), (6, .int v26_6), (5, .int v26_5), (4, .int y1), (0, .ref (ad 0)), (1, .int a0), (2, .int a1), (3, .int a2)] → W p l e (headSpec v_findingOf rm_findingOf).room s m args below meth c H locs 0 0 Q (F0 m 26 ls []) := by
    intro d
    induction d with
    | zero =>
      intro v26_8 v26_6 v26_5 E26_ H locs ls hv26_8 hx26_0 hI hKp hP hS hl
      exact absurd hx26_0 (by first | exact ms_zu hv26_8.2 | omega)
    | succ d ih26 =>
      intro v26_8 v26_6 v26_5 E26_ H locs ls hv26_8 hx26_0 hI hKp hP hS hl
      refine lv_iload hx hb dX13_findingOf_26 (lv_at hl 0 rfl) ?_
      refine lv_aload_n hx hb dX13_findingOf_28 rfl (lv_at hl 5 rfl) ?_
      refine th_get (ci := 14) (C := RX13) (T := TX13) (N := 97) (v := .ref (ad 59)) hx hb hts hinX13 hown hK hP hI 0 (Nat.le_of_ble_eq_true rfl) rfl rfl 79 (Nat.le_of_ble_eq_true rfl) (hts _ (vA_in _ _ (in_25 _ (zs16 (zs4 (zs0)))))) (fun _ h9 => h9) (hI.fr 0 (Nat.le_of_ble_eq_true rfl) rfl (Nat.le_of_ble_eq_true rfl) 59 rfl) dX13_findingOf_29 ?_
      refine lv_iconst (v := 0) hx hb dX13_findingOf_32 (by decide) ?_
      have n6 : vp_in (0 : Int32) 2 := (iv_in (n := 2) ln_0 (by decide))
      refine th_iald hx hb hK hP hI 59 (Nat.le_of_ble_eq_true rfl) rfl rfl n6 dX13_findingOf_33 (fun y5 ey5 => ?_)
      have iy5 : 0 ≤ y5.toInt ∧ y5.toInt ≤ 128 := hI.el 59 (Nat.le_of_ble_eq_true rfl) rfl n6 (fun _ => rfl) ey5
      have ey5 := ey5.trans (hKp.ei 59 _ rfl)
      refine lv_icmp_ge (tgt := 351) hx hb dX13_findingOf_34 (by decide) (fun c7 => ?_) (fun c7 => ?_)
      · --34 taken
        have t8 : y5.toInt ≤ v26_8.toInt := ti_le c7
        refine lv_iload hx hb dX13_findingOf_351 (lv_at hl 3 rfl) ?_
        refine lv_if_ne (tgt := 360) hx hb dX13_findingOf_353 (by decide) (fun c9 => ?_) (fun c9 => ?_)
        · --353 taken
          have t10 : ¬ v26_5.toInt = 0 := ti_ne c9
          refine lv_iload hx hb dX13_findingOf_360 (lv_at hl 2 rfl) ?_
          refine lv_iload hx hb dX13_findingOf_362 (lv_at hl 3 rfl) ?_
          refine lv_icmp_ne (tgt := 371) hx hb dX13_findingOf_364 (by decide) (fun c11 => ?_) (fun c11 => ?_)
          · --364 taken
            have t12 : ¬ v26_6.toInt = v26_5.toInt := ti_ne c11
            refine lv_iload hx hb dX13_findingOf_371 (lv_at hl 2 rfl) ?_
            refine lv_if_le (tgt := 380) hx hb dX13_findingOf_373 (by decide) (fun c13 => ?_) (fun c13 => ?_)
            · --373 taken
              have t14 : v26_6.toInt ≤ 0 := ti_le c13
              have i15 : -2147483648 ≤ v26_6.toInt ∧ v26_6.toInt ≤ 0 := iv_le_l t14 (iv_all _) (il_ 0) (by decide)
              refine lv_iconst (v := 0) hx hb dX13_findingOf_380 (by decide) ?_
              rw [hQ]
              exact W.iret (v := 0) hx hb hr (fun t ht hW => ⟨⟨0, E26_, rfl, ⟨hI, hKp, trivial⟩, by show va_P (dC, dI) vwCl (WX 72 ad E26_) t.heap; rw [ht]; exact hP⟩, hS.F ht⟩) hS.2.2 dX13_findingOf_381
            · --373 not
              have t16 : (0 : Int) < v26_6.toInt := ti_nle c13
              have i17 : 1 ≤ v26_6.toInt ∧ v26_6.toInt ≤ 2147483647 := iv_lt_r t16 (il_ 0) (iv_all _) (by decide)
              refine lv_iconst (v := 2) hx hb dX13_findingOf_376 (by decide) ?_
              refine lv_goto (tgt := 381) hx hb dX13_findingOf_377 (by decide) ?_
              rw [hQ]
              exact W.iret (v := 2) hx hb hr (fun t ht hW => ⟨⟨2, E26_, rfl, ⟨hI, hKp, trivial⟩, by show va_P (dC, dI) vwCl (WX 72 ad E26_) t.heap; rw [ht]; exact hP⟩, hS.F ht⟩) hS.2.2 dX13_findingOf_381
          · --364 not
            have t18 : v26_6.toInt = v26_5.toInt := ti_eq c11
            refine lv_iconst (v := 1) hx hb dX13_findingOf_367 (by decide) ?_
            refine lv_goto (tgt := 381) hx hb dX13_findingOf_368 (by decide) ?_
            rw [hQ]
            exact W.iret (v := 1) hx hb hr (fun t ht hW => ⟨⟨1, E26_, rfl, ⟨hI, hKp, trivial⟩, by show va_P (dC, dI) vwCl (WX 72 ad E26_) t.heap; rw [ht]; exact hP⟩, hS.F ht⟩) hS.2.2 dX13_findingOf_381
        · --353 not
          have t19 : v26_5.toInt = 0 := ti_eq c9
          have i20 : 0 ≤ v26_5.toInt ∧ v26_5.toInt ≤ 0 := iv_eqi t19 (iv_all _) (il_ 0) (by decide)
          refine lv_iconst (v := -1) hx hb dX13_findingOf_356 (by decide) ?_
          refine lv_goto (tgt := 381) hx hb dX13_findingOf_357 (by decide) ?_
          rw [hQ]
          exact W.iret (v := (-1)) hx hb hr (fun t ht hW => ⟨⟨(-1), E26_, rfl, ⟨hI, hKp, trivial⟩, by show va_P (dC, dI) vwCl (WX 72 ad E26_) t.heap; rw [ht]; exact hP⟩, hS.F ht⟩) hS.2.2 dX13_findingOf_381
      · --34 not
        have t21 : v26_8.toInt < y5.toInt := ti_nle c7
        have i22 : 0 ≤ v26_8.toInt ∧ v26_8.toInt ≤ 127 := iv_lt_l t21 hv26_8 iy5 (by decide)
        have i23 : 1 ≤ y5.toInt ∧ y5.toInt ≤ 128 := iv_lt_r t21 hv26_8 iy5 (by decide)
        refine lv_sipush (v := 128) hx hb dX13_findingOf_37 (by decide) ?_
        refine lv_istore (lv' := [(9, .int 128), (8, .int v26_8), (7, .int y3), (6, .int v26_6), (5, .int v26_5), (4, .int y1), (0, .ref (ad 0)), (1, .int a0), (2, .int a1), (3, .int a2)]) hx hb dX13_findingOf_40 hl (by decide) rfl (fun ls hl => ?_)
        have hL42 : ∀ d : Nat, ∀ (v42_9 : Int32) (v42_6 : Int32) (v42_5 : Int32) (E42_ : Nat → va_E) (H : Heap) (locs : List Loc) (ls : Array Slot), 128 ≤ v42_9.toInt ∧ v42_9.toInt ≤ 256 → 256 - v42_9.toInt < (d : Int) → IX cT shM spM 72 ad E42_ → Kp w_findingOf E E42_ → va_P (dC, dI) vwCl (WX 72 ad E42_) H → va_S A s.heap H locs → lv_has ls 10 [(9, .int v42_9), (8, .int v26_8), (7, .int y3), (6, .int v42_6), (5, .int v42_5), (4, .int y1), (0, .ref (ad 0)), (1, .int a0), (2, .int a1), (3, .int a2)] → W p l e (headSpec v_findingOf rm_findingOf).room s m args below meth c H locs 0 0 Q (F0 m 42 ls []) := by
          intro d
          induction d with
          | zero =>
            intro v42_9 v42_6 v42_5 E42_ H locs ls hv42_9 hx42_0 hI hKp hP hS hl
            exact absurd hx42_0 (by first | exact ms_zu hv42_9.2 | omega)
          | succ d ih42 =>
            intro v42_9 v42_6 v42_5 E42_ H locs ls hv42_9 hx42_0 hI hKp hP hS hl
            refine lv_iload hx hb dX13_findingOf_42 (lv_at hl 0 rfl) ?_
            refine lv_sipush (v := 128) hx hb dX13_findingOf_44 (by decide) ?_
            refine lv_aload_n hx hb dX13_findingOf_47 rfl (lv_at hl 6 rfl) ?_
            refine th_get (ci := 14) (C := RX13) (T := TX13) (N := 97) (v := .ref (ad 59)) hx hb hts hinX13 hown hK hP hI 0 (Nat.le_of_ble_eq_true rfl) rfl rfl 79 (Nat.le_of_ble_eq_true rfl) (hts _ (vA_in _ _ (in_25 _ (zs16 (zs4 (zs0)))))) (fun _ h9 => h9) (hI.fr 0 (Nat.le_of_ble_eq_true rfl) rfl (Nat.le_of_ble_eq_true rfl) 59 rfl) dX13_findingOf_48 ?_
            refine lv_iconst (v := 1) hx hb dX13_findingOf_51 (by decide) ?_
            have n25 : vp_in (1 : Int32) 2 := (iv_in (n := 2) ln_1 (by decide))
            refine th_iald hx hb hK hP hI 59 (Nat.le_of_ble_eq_true rfl) rfl rfl n25 dX13_findingOf_52 (fun y24 ey24 => ?_)
            have iy24 : 0 ≤ y24.toInt ∧ y24.toInt ≤ 128 := hI.el 59 (Nat.le_of_ble_eq_true rfl) rfl n25 (fun _ => rfl) ey24
            have ey24 := ey24.trans (hKp.ei 59 _ rfl)
            refine lv_iadd hx hb dX13_findingOf_53 ?_
            refine lv_topi (fun y26 ey26 => ?_)
            obtain ⟨ty26, iy26⟩ := ti_add (e := 128) (f := 256) ln_128 iy24 ey26 (by decide)
            have ty26 : y26.toInt = 128 + y24.toInt := ty26
            have iy26 : 128 ≤ y26.toInt ∧ y26.toInt ≤ 256 := iy26
            refine lv_icmp_ge (tgt := 345) hx hb dX13_findingOf_54 (by decide) (fun c27 => ?_) (fun c27 => ?_)
            · --54 taken
              have t28 : y26.toInt ≤ v42_9.toInt := ti_le c27
              obtain ⟨y29, ey29⟩ : ∃ y : Int32, y = v26_8 + (1 : Int32) := ⟨_, rfl⟩
              obtain ⟨ty29, iy29⟩ := ti_add (e := 1) (f := 128) i22 ln_1 ey29 (by decide)
              have ty29 : y29.toInt = v26_8.toInt + 1 := ty29
              have iy29 : 1 ≤ y29.toInt ∧ y29.toInt ≤ 128 := iy29
              refine lv_iinc (v := y29) (lv' := [(8, .int y29), (9, .int v42_9), (7, .int y3), (6, .int v42_6), (5, .int v42_5), (4, .int y1), (0, .ref (ad 0)), (1, .int a0), (2, .int a1), (3, .int a2)]) hx hb dX13_findingOf_345 hl (k := 1) rfl (by rw [ey29]; rfl) (by decide) rfl (fun ls hl => ?_)
              refine lv_goto (tgt := 26) hx hb dX13_findingOf_348 (by decide) ?_
              exact ih26 y29 v42_6 v42_5 E42_ _ _ _ (iv_w iy29 (by decide)) (by first | exact ms_su hx26_0 ty29 (by decide) | omega) hI hKp hP hS (lv_sub hl [0, 2, 3, 4, 5, 6, 7, 8, 9] rfl)
            · --54 not
              have t30 : v42_9.toInt < y26.toInt := ti_nle c27
              have i31 : 128 ≤ v42_9.toInt ∧ v42_9.toInt ≤ 255 := iv_lt_l t30 hv42_9 iy26 (by decide)
              have i32 : 129 ≤ y26.toInt ∧ y26.toInt ≤ 256 := iv_lt_r t30 hv42_9 iy26 (by decide)
              refine lv_aload_n hx hb dX13_findingOf_57 rfl (lv_at hl 6 rfl) ?_
              refine th_v (va_runV (As := []) (rest := []) ⟨hx, hb, hml, hown, hts⟩ (q_clear l dC dI cT ad E42_ H.size hI) (cwV 0 hts (gi_V (in_28 _ (zs16 (zs4 (zs4 (zs4 (zs1 (zs1 (zs0)))))))) (in_28 _ (zs16 (zs4 (zs4 (zs4 (zs1 (zs1 (zs1 (zs0))))))))) (in_28 _ (zs16 (zs16 (zs0)))) (in_24 _ (zs4 (zs4 (zs4 (zs1 (zs1 (zs1 (zs0)))))))) (in_28 _ (zs16 (zs16 (zs1 (zs0)))))) rfl rfl rfl ⟨rfl, hz_yX13_clear_0⟩ ⟨Nat.le_of_ble_eq_true rfl, Nat.le_of_ble_eq_true rfl⟩) ⟨HW_bl, va_recv hK hP (ci := 14) (q0 := 0) rfl (hI.ob 0 (Nat.le_of_ble_eq_true rfl) rfl), (HW_wi hP hK (WX_D hD) hS hA hEV)⟩ rfl rfl hl.1 rfl (lv_room (Nat.le_of_ble_eq_true rfl)) dX13_findingOf_58 ⟨Nat.le_of_ble_eq_true rfl, Nat.le_of_ble_eq_true rfl⟩) (WX_D hD) hS hA (fun E34 H locs hw hP hS => ?_)
              obtain ⟨hI, kq35, hw⟩ := hw
              have hKb := hKp
              have hKp := hKp.tr kq35 (wl_sub rfl rfl)
              refine lv_aload_n hx hb dX13_findingOf_61 rfl (lv_at hl 6 rfl) ?_
              refine th_get (ci := 14) (C := RX13) (T := TX13) (N := 97) (v := .ref (ad 12)) hx hb hts hinX13 hown hK hP hI 0 (Nat.le_of_ble_eq_true rfl) rfl rfl 15 (Nat.le_of_ble_eq_true rfl) (hts _ (vA_in _ _ (in_25 _ (zs16 (zs16 (zs4 (zs1 (zs0)))))))) (fun _ h9 => h9) (hI.fr 0 (Nat.le_of_ble_eq_true rfl) rfl (Nat.le_of_ble_eq_true rfl) 12 rfl) dX13_findingOf_62 ?_
              refine lv_bipush (v := 100) hx hb dX13_findingOf_65 (by decide) ?_
              refine lv_aload_n hx hb dX13_findingOf_67 rfl (lv_at hl 6 rfl) ?_
              refine th_get (ci := 14) (C := RX13) (T := TX13) (N := 97) (v := .ref (ad 56)) hx hb hts hinX13 hown hK hP hI 0 (Nat.le_of_ble_eq_true rfl) rfl rfl 76 (Nat.le_of_ble_eq_true rfl) (hts _ (vA_in _ _ (in_25 _ (zs16 (zs1 (zs0)))))) (fun _ h9 => h9) (hI.fr 0 (Nat.le_of_ble_eq_true rfl) rfl (Nat.le_of_ble_eq_true rfl) 56 rfl) dX13_findingOf_68 ?_
              refine lv_iload hx hb dX13_findingOf_71 (lv_at hl 1 rfl) ?_
              have n37 : vp_in v26_8 256 := (iv_in (n := 256) i22 (by decide))
              refine th_iald hx hb hK hP hI 56 (Nat.le_of_ble_eq_true rfl) rfl rfl n37 dX13_findingOf_73 (fun y36 ey36 => ?_)
              have iy36 : 0 ≤ y36.toInt ∧ y36.toInt ≤ 99 := hI.el 56 (Nat.le_of_ble_eq_true rfl) rfl n37 (fun _ => rfl) ey36
              have ey36 := ey36.trans (hKp.ei 56 _ rfl)
              refine lv_aload_n hx hb dX13_findingOf_74 rfl (lv_at hl 6 rfl) ?_
              refine th_get (ci := 14) (C := RX13) (T := TX13) (N := 97) (v := .ref (ad 57)) hx hb hts hinX13 hown hK hP hI 0 (Nat.le_of_ble_eq_true rfl) rfl rfl 77 (Nat.le_of_ble_eq_true rfl) (hts _ (vA_in _ _ (in_25 _ (zs16 (zs1 (zs1 (zs0))))))) (fun _ h9 => h9) (hI.fr 0 (Nat.le_of_ble_eq_true rfl) rfl (Nat.le_of_ble_eq_true rfl) 57 rfl) dX13_findingOf_75 ?_
              refine lv_iload hx hb dX13_findingOf_78 (lv_at hl 1 rfl) ?_
              have n39 : vp_in v26_8 256 := (iv_in (n := 256) i22 (by decide))
              refine th_iald hx hb hK hP hI 57 (Nat.le_of_ble_eq_true rfl) rfl rfl n39 dX13_findingOf_80 (fun y38 ey38 => ?_)
              have iy38 : 0 ≤ y38.toInt ∧ y38.toInt ≤ 99 := hI.el 57 (Nat.le_of_ble_eq_true rfl) rfl n39 (fun _ => rfl) ey38
              have ey38 := ey38.trans (hKp.ei 57 _ rfl)
              refine lv_aload_n hx hb dX13_findingOf_81 rfl (lv_at hl 6 rfl) ?_
              refine th_get (ci := 14) (C := RX13) (T := TX13) (N := 97) (v := .ref (ad 56)) hx hb hts hinX13 hown hK hP hI 0 (Nat.le_of_ble_eq_true rfl) rfl rfl 76 (Nat.le_of_ble_eq_true rfl) (hts _ (vA_in _ _ (in_25 _ (zs16 (zs1 (zs0)))))) (fun _ h9 => h9) (hI.fr 0 (Nat.le_of_ble_eq_true rfl) rfl (Nat.le_of_ble_eq_true rfl) 56 rfl) dX13_findingOf_82 ?_
              refine lv_iload hx hb dX13_findingOf_85 (lv_at hl 0 rfl) ?_
              have n41 : vp_in v42_9 256 := (iv_in (n := 256) i31 (by decide))
              refine th_iald hx hb hK hP hI 56 (Nat.le_of_ble_eq_true rfl) rfl rfl n41 dX13_findingOf_87 (fun y40 ey40 => ?_)
              have iy40 : 0 ≤ y40.toInt ∧ y40.toInt ≤ 99 := hI.el 56 (Nat.le_of_ble_eq_true rfl) rfl n41 (fun _ => rfl) ey40
              have ey40 := ey40.trans (hKp.ei 56 _ rfl)
              refine lv_aload_n hx hb dX13_findingOf_88 rfl (lv_at hl 6 rfl) ?_
              refine th_get (ci := 14) (C := RX13) (T := TX13) (N := 97) (v := .ref (ad 57)) hx hb hts hinX13 hown hK hP hI 0 (Nat.le_of_ble_eq_true rfl) rfl rfl 77 (Nat.le_of_ble_eq_true rfl) (hts _ (vA_in _ _ (in_25 _ (zs16 (zs1 (zs1 (zs0))))))) (fun _ h9 => h9) (hI.fr 0 (Nat.le_of_ble_eq_true rfl) rfl (Nat.le_of_ble_eq_true rfl) 57 rfl) dX13_findingOf_89 ?_
              refine lv_iload hx hb dX13_findingOf_92 (lv_at hl 0 rfl) ?_
              have n43 : vp_in v42_9 256 := (iv_in (n := 256) i31 (by decide))
              refine th_iald hx hb hK hP hI 57 (Nat.le_of_ble_eq_true rfl) rfl rfl n43 dX13_findingOf_94 (fun y42 ey42 => ?_)
              have iy42 : 0 ≤ y42.toInt ∧ y42.toInt ≤ 99 := hI.el 57 (Nat.le_of_ble_eq_true rfl) rfl n43 (fun _ => rfl) ey42
              have ey42 := ey42.trans (hKp.ei 57 _ rfl)
              refine th_pi (va_runS (As := [.int y36, .int y38, .int y40, .int y42]) (rest := [.int 100, .ref (ad 12)]) ⟨hx, hb, hml, hown, hts⟩ (q_far l y36 y38 y40 y42) (va_cwS 4 hts (gi_S (in_30 _ (zs16 (zs16 (zs1 (zs1 (zs1 (zs0))))))) (in_30 _ (zs16 (zs16 (zs4 (zs0))))) (in_24 _ (zs4 (zs4 (zs4 (zs1 (zs1 (zs1 (zs0)))))))) (in_30 _ (zs16 (zs16 (zs4 (zs1 (zs0))))))) rfl rfl rfl hz_yX13_far_4 ⟨Nat.le_of_ble_eq_true rfl, Nat.le_of_ble_eq_true rfl⟩) ⟨fun _ _ _ _ q => q, fun _ _ _ => ⟨rfl, trivial⟩⟩ rfl rfl hl.1 rfl (lv_room (Nat.le_of_ble_eq_true rfl)) dX13_findingOf_95 ⟨Nat.le_of_ble_eq_true rfl, Nat.le_of_ble_eq_true rfl⟩) hS (fun r44 H1 locs1 hw hk1 hS => ?_)
              have hP := ub_keep hP hk1
              generalize H1 = H at hP hS ⊢
              generalize locs1 = locs at hS ⊢
              have n45 : vp_in (100 : Int32) 128 := (iv_in (n := 128) ln_100 (by decide))
              refine th_iast hx hb hK hP (WX_D hD) hS hI 12 (Nat.le_of_ble_eq_true rfl) rfl rfl n45 (okI rfl (iv_all _)) dX13_findingOf_98 (fun H locs E46 pw47 hI hP hS => ?_)
              have hKp := hKp.pw pw47 rfl
              refine lv_aload_n hx hb dX13_findingOf_99 rfl (lv_at hl 6 rfl) ?_
              refine th_get (ci := 14) (C := RX13) (T := TX13) (N := 97) (v := .ref (ad 12)) hx hb hts hinX13 hown hK hP hI 0 (Nat.le_of_ble_eq_true rfl) rfl rfl 15 (Nat.le_of_ble_eq_true rfl) (hts _ (vA_in _ _ (in_25 _ (zs16 (zs16 (zs4 (zs1 (zs0)))))))) (fun _ h9 => h9) (hI.fr 0 (Nat.le_of_ble_eq_true rfl) rfl (Nat.le_of_ble_eq_true rfl) 12 rfl) dX13_findingOf_100 ?_
              refine lv_bipush (v := 103) hx hb dX13_findingOf_103 (by decide) ?_
              refine lv_aload_n hx hb dX13_findingOf_105 rfl (lv_at hl 6 rfl) ?_
              refine th_get (ci := 14) (C := RX13) (T := TX13) (N := 97) (v := .ref (ad 58)) hx hb hts hinX13 hown hK hP hI 0 (Nat.le_of_ble_eq_true rfl) rfl rfl 78 (Nat.le_of_ble_eq_true rfl) (hts _ (vA_in _ _ (in_25 _ (zs16 (zs1 (zs1 (zs1 (zs0)))))))) (fun _ h9 => h9) (hI.fr 0 (Nat.le_of_ble_eq_true rfl) rfl (Nat.le_of_ble_eq_true rfl) 58 rfl) dX13_findingOf_106 ?_
              refine lv_iload hx hb dX13_findingOf_109 (lv_at hl 1 rfl) ?_
              have n49 : vp_in v26_8 256 := (iv_in (n := 256) i22 (by decide))
              refine th_iald hx hb hK hP hI 58 (Nat.le_of_ble_eq_true rfl) rfl rfl n49 dX13_findingOf_111 (fun y48 ey48 => ?_)
              have iy48 : 0 ≤ y48.toInt ∧ y48.toInt ≤ 7 := hI.el 58 (Nat.le_of_ble_eq_true rfl) rfl n49 (fun _ => rfl) ey48
              have ey48 := ey48.trans (hKp.ei 58 _ rfl)
              refine lv_iload hx hb dX13_findingOf_112 (lv_at hl 2 rfl) ?_
              refine th_pi (va_runS (As := [.int y48, .int y3]) (rest := [.int 103, .ref (ad 12)]) ⟨hx, hb, hml, hown, hts⟩ (q_onStarboard l y48 y3) (va_cwS 2 hts (gi_S (in_30 _ (zs16 (zs16 (zs4 (zs1 (zs1 (zs0))))))) (in_30 _ (zs16 (zs16 (zs4 (zs1 (zs1 (zs1 (zs0)))))))) (in_24 _ (zs4 (zs4 (zs4 (zs1 (zs1 (zs1 (zs0)))))))) (in_31 _ zs0)) rfl rfl rfl hz_yX13_onStarboard_2 ⟨Nat.le_of_ble_eq_true rfl, Nat.le_of_ble_eq_true rfl⟩) ⟨fun _ _ _ _ q => q, fun _ _ _ => ⟨rfl, trivial⟩⟩ rfl rfl hl.1 rfl (lv_room (Nat.le_of_ble_eq_true rfl)) dX13_findingOf_114 ⟨Nat.le_of_ble_eq_true rfl, Nat.le_of_ble_eq_true rfl⟩) hS (fun r50 H1 locs1 hw hk1 hS => ?_)
              have hP := ub_keep hP hk1
              generalize H1 = H at hP hS ⊢
              generalize locs1 = locs at hS ⊢
              have f51 := hw
              have n52 : vp_in (103 : Int32) 128 := (iv_in (n := 128) ln_103 (by decide))
              refine th_iast hx hb hK hP (WX_D hD) hS hI 12 (Nat.le_of_ble_eq_true rfl) rfl rfl n52 (okI rfl (iv_w f51 (by decide))) dX13_findingOf_117 (fun H locs E53 pw54 hI hP hS => ?_)
              have hKp := hKp.pw pw54 rfl
              refine lv_aload_n hx hb dX13_findingOf_118 rfl (lv_at hl 6 rfl) ?_
              refine th_get (ci := 14) (C := RX13) (T := TX13) (N := 97) (v := .ref (ad 12)) hx hb hts hinX13 hown hK hP hI 0 (Nat.le_of_ble_eq_true rfl) rfl rfl 15 (Nat.le_of_ble_eq_true rfl) (hts _ (vA_in _ _ (in_25 _ (zs16 (zs16 (zs4 (zs1 (zs0)))))))) (fun _ h9 => h9) (hI.fr 0 (Nat.le_of_ble_eq_true rfl) rfl (Nat.le_of_ble_eq_true rfl) 12 rfl) dX13_findingOf_119 ?_
              refine lv_bipush (v := 104) hx hb dX13_findingOf_122 (by decide) ?_
              refine lv_aload_n hx hb dX13_findingOf_124 rfl (lv_at hl 6 rfl) ?_
              refine th_get (ci := 14) (C := RX13) (T := TX13) (N := 97) (v := .ref (ad 58)) hx hb hts hinX13 hown hK hP hI 0 (Nat.le_of_ble_eq_true rfl) rfl rfl 78 (Nat.le_of_ble_eq_true rfl) (hts _ (vA_in _ _ (in_25 _ (zs16 (zs1 (zs1 (zs1 (zs0)))))))) (fun _ h9 => h9) (hI.fr 0 (Nat.le_of_ble_eq_true rfl) rfl (Nat.le_of_ble_eq_true rfl) 58 rfl) dX13_findingOf_125 ?_
              refine lv_iload hx hb dX13_findingOf_128 (lv_at hl 0 rfl) ?_
              have n56 : vp_in v42_9 256 := (iv_in (n := 256) i31 (by decide))
              refine th_iald hx hb hK hP hI 58 (Nat.le_of_ble_eq_true rfl) rfl rfl n56 dX13_findingOf_130 (fun y55 ey55 => ?_)
              have iy55 : 0 ≤ y55.toInt ∧ y55.toInt ≤ 7 := hI.el 58 (Nat.le_of_ble_eq_true rfl) rfl n56 (fun _ => rfl) ey55
              have ey55 := ey55.trans (hKp.ei 58 _ rfl)
              refine lv_iload hx hb dX13_findingOf_131 (lv_at hl 2 rfl) ?_
              refine th_pi (va_runS (As := [.int y55, .int y3]) (rest := [.int 104, .ref (ad 12)]) ⟨hx, hb, hml, hown, hts⟩ (q_onStarboard l y55 y3) (va_cwS 2 hts (gi_S (in_30 _ (zs16 (zs16 (zs4 (zs1 (zs1 (zs0))))))) (in_30 _ (zs16 (zs16 (zs4 (zs1 (zs1 (zs1 (zs0)))))))) (in_24 _ (zs4 (zs4 (zs4 (zs1 (zs1 (zs1 (zs0)))))))) (in_31 _ zs0)) rfl rfl rfl hz_yX13_onStarboard_2 ⟨Nat.le_of_ble_eq_true rfl, Nat.le_of_ble_eq_true rfl⟩) ⟨fun _ _ _ _ q => q, fun _ _ _ => ⟨rfl, trivial⟩⟩ rfl rfl hl.1 rfl (lv_room (Nat.le_of_ble_eq_true rfl)) dX13_findingOf_133 ⟨Nat.le_of_ble_eq_true rfl, Nat.le_of_ble_eq_true rfl⟩) hS (fun r57 H1 locs1 hw hk1 hS => ?_)
              have hP := ub_keep hP hk1
              generalize H1 = H at hP hS ⊢
              generalize locs1 = locs at hS ⊢
              have f58 := hw
              have n59 : vp_in (104 : Int32) 128 := (iv_in (n := 128) ln_104 (by decide))
              refine th_iast hx hb hK hP (WX_D hD) hS hI 12 (Nat.le_of_ble_eq_true rfl) rfl rfl n59 (okI rfl (iv_w f58 (by decide))) dX13_findingOf_136 (fun H locs E60 pw61 hI hP hS => ?_)
              have hKp := hKp.pw pw61 rfl
              refine lv_aload_n hx hb dX13_findingOf_137 rfl (lv_at hl 6 rfl) ?_
              refine th_get (ci := 14) (C := RX13) (T := TX13) (N := 97) (v := .ref (ad 12)) hx hb hts hinX13 hown hK hP hI 0 (Nat.le_of_ble_eq_true rfl) rfl rfl 15 (Nat.le_of_ble_eq_true rfl) (hts _ (vA_in _ _ (in_25 _ (zs16 (zs16 (zs4 (zs1 (zs0)))))))) (fun _ h9 => h9) (hI.fr 0 (Nat.le_of_ble_eq_true rfl) rfl (Nat.le_of_ble_eq_true rfl) 12 rfl) dX13_findingOf_138 ?_
              refine lv_bipush (v := 117) hx hb dX13_findingOf_141 (by decide) ?_
              refine lv_aload_n hx hb dX13_findingOf_143 rfl (lv_at hl 6 rfl) ?_
              refine th_get (ci := 14) (C := RX13) (T := TX13) (N := 97) (v := .ref (ad 56)) hx hb hts hinX13 hown hK hP hI 0 (Nat.le_of_ble_eq_true rfl) rfl rfl 76 (Nat.le_of_ble_eq_true rfl) (hts _ (vA_in _ _ (in_25 _ (zs16 (zs1 (zs0)))))) (fun _ h9 => h9) (hI.fr 0 (Nat.le_of_ble_eq_true rfl) rfl (Nat.le_of_ble_eq_true rfl) 56 rfl) dX13_findingOf_144 ?_
              refine lv_iload hx hb dX13_findingOf_147 (lv_at hl 1 rfl) ?_
              have n63 : vp_in v26_8 256 := (iv_in (n := 256) i22 (by decide))
              refine th_iald hx hb hK hP hI 56 (Nat.le_of_ble_eq_true rfl) rfl rfl n63 dX13_findingOf_149 (fun y62 ey62 => ?_)
              have iy62 : 0 ≤ y62.toInt ∧ y62.toInt ≤ 99 := hI.el 56 (Nat.le_of_ble_eq_true rfl) rfl n63 (fun _ => rfl) ey62
              have ey62 := ey62.trans (hKp.ei 56 _ rfl)
              refine lv_aload_n hx hb dX13_findingOf_150 rfl (lv_at hl 6 rfl) ?_
              refine th_get (ci := 14) (C := RX13) (T := TX13) (N := 97) (v := .ref (ad 56)) hx hb hts hinX13 hown hK hP hI 0 (Nat.le_of_ble_eq_true rfl) rfl rfl 76 (Nat.le_of_ble_eq_true rfl) (hts _ (vA_in _ _ (in_25 _ (zs16 (zs1 (zs0)))))) (fun _ h9 => h9) (hI.fr 0 (Nat.le_of_ble_eq_true rfl) rfl (Nat.le_of_ble_eq_true rfl) 56 rfl) dX13_findingOf_151 ?_
              refine lv_iload hx hb dX13_findingOf_154 (lv_at hl 0 rfl) ?_
              have n65 : vp_in v42_9 256 := (iv_in (n := 256) i31 (by decide))
              refine th_iald hx hb hK hP hI 56 (Nat.le_of_ble_eq_true rfl) rfl rfl n65 dX13_findingOf_156 (fun y64 ey64 => ?_)
              have iy64 : 0 ≤ y64.toInt ∧ y64.toInt ≤ 99 := hI.el 56 (Nat.le_of_ble_eq_true rfl) rfl n65 (fun _ => rfl) ey64
              have ey64 := ey64.trans (hKp.ei 56 _ rfl)
              refine lv_isub hx hb dX13_findingOf_157 ?_
              refine lv_topi (fun y66 ey66 => ?_)
              obtain ⟨ty66, iy66⟩ := ti_sub (e := (-99)) (f := 99) iy62 iy64 ey66 (by decide)
              have ty66 : y66.toInt = y62.toInt - y64.toInt := ty66
              have iy66 : -99 ≤ y66.toInt ∧ y66.toInt ≤ 99 := iy66
              refine lv_iload hx hb dX13_findingOf_158 (lv_at hl 2 rfl) ?_
              refine th_pi (va_runS (As := [.int y3]) (rest := [.int y66, .int 117, .ref (ad 12)]) ⟨hx, hb, hml, hown, hts⟩ (q_east l y3) (va_cwS 1 hts (gi_S (in_31 _ (zs4 (zs0))) (in_31 _ (zs4 (zs1 (zs0)))) (in_24 _ (zs4 (zs4 (zs4 (zs1 (zs1 (zs1 (zs0)))))))) (in_31 _ (zs4 (zs1 (zs1 (zs0)))))) rfl rfl rfl hz_yX13_east_1 ⟨Nat.le_of_ble_eq_true rfl, Nat.le_of_ble_eq_true rfl⟩) ⟨fun _ _ _ _ q => q, fun _ _ _ => ⟨rfl, trivial⟩⟩ rfl rfl hl.1 rfl (lv_room (Nat.le_of_ble_eq_true rfl)) dX13_findingOf_160 ⟨Nat.le_of_ble_eq_true rfl, Nat.le_of_ble_eq_true rfl⟩) hS (fun r67 H1 locs1 hw hk1 hS => ?_)
              have hP := ub_keep hP hk1
              generalize H1 = H at hP hS ⊢
              generalize locs1 = locs at hS ⊢
              refine lv_imul hx hb dX13_findingOf_163 ?_
              refine lv_topi (fun y68 ey68 => ?_)
              refine lv_aload_n hx hb dX13_findingOf_164 rfl (lv_at hl 6 rfl) ?_
              refine th_get (ci := 14) (C := RX13) (T := TX13) (N := 97) (v := .ref (ad 57)) hx hb hts hinX13 hown hK hP hI 0 (Nat.le_of_ble_eq_true rfl) rfl rfl 77 (Nat.le_of_ble_eq_true rfl) (hts _ (vA_in _ _ (in_25 _ (zs16 (zs1 (zs1 (zs0))))))) (fun _ h9 => h9) (hI.fr 0 (Nat.le_of_ble_eq_true rfl) rfl (Nat.le_of_ble_eq_true rfl) 57 rfl) dX13_findingOf_165 ?_
              refine lv_iload hx hb dX13_findingOf_168 (lv_at hl 1 rfl) ?_
              have n70 : vp_in v26_8 256 := (iv_in (n := 256) i22 (by decide))
              refine th_iald hx hb hK hP hI 57 (Nat.le_of_ble_eq_true rfl) rfl rfl n70 dX13_findingOf_170 (fun y69 ey69 => ?_)
              have iy69 : 0 ≤ y69.toInt ∧ y69.toInt ≤ 99 := hI.el 57 (Nat.le_of_ble_eq_true rfl) rfl n70 (fun _ => rfl) ey69
              have ey69 := ey69.trans (hKp.ei 57 _ rfl)
              refine lv_aload_n hx hb dX13_findingOf_171 rfl (lv_at hl 6 rfl) ?_
              refine th_get (ci := 14) (C := RX13) (T := TX13) (N := 97) (v := .ref (ad 57)) hx hb hts hinX13 hown hK hP hI 0 (Nat.le_of_ble_eq_true rfl) rfl rfl 77 (Nat.le_of_ble_eq_true rfl) (hts _ (vA_in _ _ (in_25 _ (zs16 (zs1 (zs1 (zs0))))))) (fun _ h9 => h9) (hI.fr 0 (Nat.le_of_ble_eq_true rfl) rfl (Nat.le_of_ble_eq_true rfl) 57 rfl) dX13_findingOf_172 ?_
              refine lv_iload hx hb dX13_findingOf_175 (lv_at hl 0 rfl) ?_
              have n72 : vp_in v42_9 256 := (iv_in (n := 256) i31 (by decide))
              refine th_iald hx hb hK hP hI 57 (Nat.le_of_ble_eq_true rfl) rfl rfl n72 dX13_findingOf_177 (fun y71 ey71 => ?_)
              have iy71 : 0 ≤ y71.toInt ∧ y71.toInt ≤ 99 := hI.el 57 (Nat.le_of_ble_eq_true rfl) rfl n72 (fun _ => rfl) ey71
              have ey71 := ey71.trans (hKp.ei 57 _ rfl)
              refine lv_isub hx hb dX13_findingOf_178 ?_
              refine lv_topi (fun y73 ey73 => ?_)
              obtain ⟨ty73, iy73⟩ := ti_sub (e := (-99)) (f := 99) iy69 iy71 ey73 (by decide)
              have ty73 : y73.toInt = y69.toInt - y71.toInt := ty73
              have iy73 : -99 ≤ y73.toInt ∧ y73.toInt ≤ 99 := iy73
              refine lv_iload hx hb dX13_findingOf_179 (lv_at hl 2 rfl) ?_
              refine th_pi (va_runS (As := [.int y3]) (rest := [.int y73, .int y68, .int 117, .ref (ad 12)]) ⟨hx, hb, hml, hown, hts⟩ (q_south l y3) (va_cwS 1 hts (gi_S (in_31 _ (zs4 (zs1 (zs1 (zs1 (zs0)))))) (in_31 _ (zs4 (zs4 (zs0)))) (in_24 _ (zs4 (zs4 (zs4 (zs1 (zs1 (zs1 (zs0)))))))) (in_31 _ (zs4 (zs4 (zs1 (zs0)))))) rfl rfl rfl hz_yX13_south_1 ⟨Nat.le_of_ble_eq_true rfl, Nat.le_of_ble_eq_true rfl⟩) ⟨fun _ _ _ _ q => q, fun _ _ _ => ⟨rfl, trivial⟩⟩ rfl rfl hl.1 rfl (lv_room (Nat.le_of_ble_eq_true rfl)) dX13_findingOf_181 ⟨Nat.le_of_ble_eq_true rfl, Nat.le_of_ble_eq_true rfl⟩) hS (fun r74 H1 locs1 hw hk1 hS => ?_)
              have hP := ub_keep hP hk1
              generalize H1 = H at hP hS ⊢
              generalize locs1 = locs at hS ⊢
              refine lv_imul hx hb dX13_findingOf_184 ?_
              refine lv_topi (fun y75 ey75 => ?_)
              refine lv_iadd hx hb dX13_findingOf_185 ?_
              refine lv_topi (fun y76 ey76 => ?_)
              have hJ194 : ∀ (s194_0 : Int32) (H : Heap) (locs : List Loc) (ls : Array Slot), 0 ≤ s194_0.toInt ∧ s194_0.toInt ≤ 1 → va_P (dC, dI) vwCl (WX 72 ad E60) H → va_S A s.heap H locs → lv_has ls 10 [(9, .int v42_9), (8, .int v26_8), (7, .int y3), (6, .int v42_6), (5, .int v42_5), (4, .int y1), (0, .ref (ad 0)), (1, .int a0), (2, .int a1), (3, .int a2)] → W p l e (headSpec v_findingOf rm_findingOf).room s m args below meth c H locs 0 0 Q (F0 m 194 ls [.int s194_0, .int 117, .ref (ad 12)]) := by
                intro s194_0 H locs ls hs194_0 hP hS hl
                have n77 : vp_in (117 : Int32) 128 := (iv_in (n := 128) ln_117 (by decide))
                refine th_iast hx hb hK hP (WX_D hD) hS hI 12 (Nat.le_of_ble_eq_true rfl) rfl rfl n77 (okI rfl (iv_w hs194_0 (by decide))) dX13_findingOf_194 (fun H locs E78 pw79 hI hP hS => ?_)
                have hKp := hKp.pw pw79 rfl
                refine lv_aload_n hx hb dX13_findingOf_195 rfl (lv_at hl 6 rfl) ?_
                refine th_get (ci := 14) (C := RX13) (T := TX13) (N := 97) (v := .ref (ad 12)) hx hb hts hinX13 hown hK hP hI 0 (Nat.le_of_ble_eq_true rfl) rfl rfl 15 (Nat.le_of_ble_eq_true rfl) (hts _ (vA_in _ _ (in_25 _ (zs16 (zs16 (zs4 (zs1 (zs0)))))))) (fun _ h9 => h9) (hI.fr 0 (Nat.le_of_ble_eq_true rfl) rfl (Nat.le_of_ble_eq_true rfl) 12 rfl) dX13_findingOf_196 ?_
                refine lv_bipush (v := 109) hx hb dX13_findingOf_199 (by decide) ?_
                refine lv_aload_n hx hb dX13_findingOf_201 rfl (lv_at hl 6 rfl) ?_
                refine th_get (ci := 14) (C := RX13) (T := TX13) (N := 97) (v := .ref (ad 56)) hx hb hts hinX13 hown hK hP hI 0 (Nat.le_of_ble_eq_true rfl) rfl rfl 76 (Nat.le_of_ble_eq_true rfl) (hts _ (vA_in _ _ (in_25 _ (zs16 (zs1 (zs0)))))) (fun _ h9 => h9) (hI.fr 0 (Nat.le_of_ble_eq_true rfl) rfl (Nat.le_of_ble_eq_true rfl) 56 rfl) dX13_findingOf_202 ?_
                refine lv_iload hx hb dX13_findingOf_205 (lv_at hl 1 rfl) ?_
                have n81 : vp_in v26_8 256 := (iv_in (n := 256) i22 (by decide))
                refine th_iald hx hb hK hP hI 56 (Nat.le_of_ble_eq_true rfl) rfl rfl n81 dX13_findingOf_207 (fun y80 ey80 => ?_)
                have iy80 : 0 ≤ y80.toInt ∧ y80.toInt ≤ 99 := hI.el 56 (Nat.le_of_ble_eq_true rfl) rfl n81 (fun _ => rfl) ey80
                have ey80 := ey80.trans (hKp.ei 56 _ rfl)
                refine lv_aload_n hx hb dX13_findingOf_208 rfl (lv_at hl 6 rfl) ?_
                refine th_get (ci := 14) (C := RX13) (T := TX13) (N := 97) (v := .ref (ad 57)) hx hb hts hinX13 hown hK hP hI 0 (Nat.le_of_ble_eq_true rfl) rfl rfl 77 (Nat.le_of_ble_eq_true rfl) (hts _ (vA_in _ _ (in_25 _ (zs16 (zs1 (zs1 (zs0))))))) (fun _ h9 => h9) (hI.fr 0 (Nat.le_of_ble_eq_true rfl) rfl (Nat.le_of_ble_eq_true rfl) 57 rfl) dX13_findingOf_209 ?_
                refine lv_iload hx hb dX13_findingOf_212 (lv_at hl 1 rfl) ?_
                have n83 : vp_in v26_8 256 := (iv_in (n := 256) i22 (by decide))
                refine th_iald hx hb hK hP hI 57 (Nat.le_of_ble_eq_true rfl) rfl rfl n83 dX13_findingOf_214 (fun y82 ey82 => ?_)
                have iy82 : 0 ≤ y82.toInt ∧ y82.toInt ≤ 99 := hI.el 57 (Nat.le_of_ble_eq_true rfl) rfl n83 (fun _ => rfl) ey82
                have ey82 := ey82.trans (hKp.ei 57 _ rfl)
                refine lv_aload_n hx hb dX13_findingOf_215 rfl (lv_at hl 6 rfl) ?_
                refine th_get (ci := 14) (C := RX13) (T := TX13) (N := 97) (v := .ref (ad 17)) hx hb hts hinX13 hown hK hP hI 0 (Nat.le_of_ble_eq_true rfl) rfl rfl 31 (Nat.le_of_ble_eq_true rfl) (hts _ (vA_in _ _ (in_30 _ (zs16 (zs16 (zs1 (zs0))))))) (fun _ h9 => h9) (hI.fr 0 (Nat.le_of_ble_eq_true rfl) rfl (Nat.le_of_ble_eq_true rfl) 17 rfl) dX13_findingOf_216 ?_
                refine lv_iload hx hb dX13_findingOf_219 (lv_at hl 5 rfl) ?_
                have n85 : vp_in y1 20 := (iv_in (n := 20) iy1 (by decide))
                refine th_iald hx hb hK hP hI 17 (Nat.le_of_ble_eq_true rfl) rfl rfl n85 dX13_findingOf_221 (fun y84 ey84 => ?_)
                have iy84 : 0 ≤ y84.toInt ∧ y84.toInt ≤ 99 := hI.el 17 (Nat.le_of_ble_eq_true rfl) rfl n85 (fun _ => rfl) ey84
                have ey84 := ey84.trans (hKp.ei 17 _ rfl)
                refine lv_aload_n hx hb dX13_findingOf_222 rfl (lv_at hl 6 rfl) ?_
                refine th_get (ci := 14) (C := RX13) (T := TX13) (N := 97) (v := .ref (ad 18)) hx hb hts hinX13 hown hK hP hI 0 (Nat.le_of_ble_eq_true rfl) rfl rfl 32 (Nat.le_of_ble_eq_true rfl) (hts _ (vA_in _ _ (in_30 _ (zs16 (zs16 (zs1 (zs1 (zs0)))))))) (fun _ h9 => h9) (hI.fr 0 (Nat.le_of_ble_eq_true rfl) rfl (Nat.le_of_ble_eq_true rfl) 18 rfl) dX13_findingOf_223 ?_
                refine lv_iload hx hb dX13_findingOf_226 (lv_at hl 5 rfl) ?_
                have n87 : vp_in y1 20 := (iv_in (n := 20) iy1 (by decide))
                refine th_iald hx hb hK hP hI 18 (Nat.le_of_ble_eq_true rfl) rfl rfl n87 dX13_findingOf_228 (fun y86 ey86 => ?_)
                have iy86 : 0 ≤ y86.toInt ∧ y86.toInt ≤ 99 := hI.el 18 (Nat.le_of_ble_eq_true rfl) rfl n87 (fun _ => rfl) ey86
                have ey86 := ey86.trans (hKp.ei 18 _ rfl)
                refine th_pi (va_runS (As := [.int y80, .int y82, .int y84, .int y86]) (rest := [.int 109, .ref (ad 12)]) ⟨hx, hb, hml, hown, hts⟩ (q_far l y80 y82 y84 y86) (va_cwS 4 hts (gi_S (in_30 _ (zs16 (zs16 (zs1 (zs1 (zs1 (zs0))))))) (in_30 _ (zs16 (zs16 (zs4 (zs0))))) (in_24 _ (zs4 (zs4 (zs4 (zs1 (zs1 (zs1 (zs0)))))))) (in_30 _ (zs16 (zs16 (zs4 (zs1 (zs0))))))) rfl rfl rfl hz_yX13_far_4 ⟨Nat.le_of_ble_eq_true rfl, Nat.le_of_ble_eq_true rfl⟩) ⟨fun _ _ _ _ q => q, fun _ _ _ => ⟨rfl, trivial⟩⟩ rfl rfl hl.1 rfl (lv_room (Nat.le_of_ble_eq_true rfl)) dX13_findingOf_229 ⟨Nat.le_of_ble_eq_true rfl, Nat.le_of_ble_eq_true rfl⟩) hS (fun r88 H1 locs1 hw hk1 hS => ?_)
                have hP := ub_keep hP hk1
                generalize H1 = H at hP hS ⊢
                generalize locs1 = locs at hS ⊢
                have n89 : vp_in (109 : Int32) 128 := (iv_in (n := 128) ln_109 (by decide))
                refine th_iast hx hb hK hP (WX_D hD) hS hI 12 (Nat.le_of_ble_eq_true rfl) rfl rfl n89 (okI rfl (iv_all _)) dX13_findingOf_232 (fun H locs E90 pw91 hI hP hS => ?_)
                have hKp := hKp.pw pw91 rfl
                refine lv_aload_n hx hb dX13_findingOf_233 rfl (lv_at hl 6 rfl) ?_
                refine th_get (ci := 14) (C := RX13) (T := TX13) (N := 97) (v := .ref (ad 12)) hx hb hts hinX13 hown hK hP hI 0 (Nat.le_of_ble_eq_true rfl) rfl rfl 15 (Nat.le_of_ble_eq_true rfl) (hts _ (vA_in _ _ (in_25 _ (zs16 (zs16 (zs4 (zs1 (zs0)))))))) (fun _ h9 => h9) (hI.fr 0 (Nat.le_of_ble_eq_true rfl) rfl (Nat.le_of_ble_eq_true rfl) 12 rfl) dX13_findingOf_234 ?_
                refine lv_bipush (v := 107) hx hb dX13_findingOf_237 (by decide) ?_
                refine lv_aload_n hx hb dX13_findingOf_239 rfl (lv_at hl 6 rfl) ?_
                refine th_get (ci := 14) (C := RX13) (T := TX13) (N := 97) (v := .ref (ad 56)) hx hb hts hinX13 hown hK hP hI 0 (Nat.le_of_ble_eq_true rfl) rfl rfl 76 (Nat.le_of_ble_eq_true rfl) (hts _ (vA_in _ _ (in_25 _ (zs16 (zs1 (zs0)))))) (fun _ h9 => h9) (hI.fr 0 (Nat.le_of_ble_eq_true rfl) rfl (Nat.le_of_ble_eq_true rfl) 56 rfl) dX13_findingOf_240 ?_
                refine lv_iload hx hb dX13_findingOf_243 (lv_at hl 0 rfl) ?_
                have n93 : vp_in v42_9 256 := (iv_in (n := 256) i31 (by decide))
                refine th_iald hx hb hK hP hI 56 (Nat.le_of_ble_eq_true rfl) rfl rfl n93 dX13_findingOf_245 (fun y92 ey92 => ?_)
                have iy92 : 0 ≤ y92.toInt ∧ y92.toInt ≤ 99 := hI.el 56 (Nat.le_of_ble_eq_true rfl) rfl n93 (fun _ => rfl) ey92
                have ey92 := ey92.trans (hKp.ei 56 _ rfl)
                refine lv_aload_n hx hb dX13_findingOf_246 rfl (lv_at hl 6 rfl) ?_
                refine th_get (ci := 14) (C := RX13) (T := TX13) (N := 97) (v := .ref (ad 57)) hx hb hts hinX13 hown hK hP hI 0 (Nat.le_of_ble_eq_true rfl) rfl rfl 77 (Nat.le_of_ble_eq_true rfl) (hts _ (vA_in _ _ (in_25 _ (zs16 (zs1 (zs1 (zs0))))))) (fun _ h9 => h9) (hI.fr 0 (Nat.le_of_ble_eq_true rfl) rfl (Nat.le_of_ble_eq_true rfl) 57 rfl) dX13_findingOf_247 ?_
                refine lv_iload hx hb dX13_findingOf_250 (lv_at hl 0 rfl) ?_
                have n95 : vp_in v42_9 256 := (iv_in (n := 256) i31 (by decide))
                refine th_iald hx hb hK hP hI 57 (Nat.le_of_ble_eq_true rfl) rfl rfl n95 dX13_findingOf_252 (fun y94 ey94 => ?_)
                have iy94 : 0 ≤ y94.toInt ∧ y94.toInt ≤ 99 := hI.el 57 (Nat.le_of_ble_eq_true rfl) rfl n95 (fun _ => rfl) ey94
                have ey94 := ey94.trans (hKp.ei 57 _ rfl)
                refine lv_aload_n hx hb dX13_findingOf_253 rfl (lv_at hl 6 rfl) ?_
                refine th_get (ci := 14) (C := RX13) (T := TX13) (N := 97) (v := .ref (ad 17)) hx hb hts hinX13 hown hK hP hI 0 (Nat.le_of_ble_eq_true rfl) rfl rfl 31 (Nat.le_of_ble_eq_true rfl) (hts _ (vA_in _ _ (in_30 _ (zs16 (zs16 (zs1 (zs0))))))) (fun _ h9 => h9) (hI.fr 0 (Nat.le_of_ble_eq_true rfl) rfl (Nat.le_of_ble_eq_true rfl) 17 rfl) dX13_findingOf_254 ?_
                refine lv_iload hx hb dX13_findingOf_257 (lv_at hl 5 rfl) ?_
                have n97 : vp_in y1 20 := (iv_in (n := 20) iy1 (by decide))
                refine th_iald hx hb hK hP hI 17 (Nat.le_of_ble_eq_true rfl) rfl rfl n97 dX13_findingOf_259 (fun y96 ey96 => ?_)
                have iy96 : 0 ≤ y96.toInt ∧ y96.toInt ≤ 99 := hI.el 17 (Nat.le_of_ble_eq_true rfl) rfl n97 (fun _ => rfl) ey96
                have ey96 := ey96.trans (hKp.ei 17 _ rfl)
                refine lv_aload_n hx hb dX13_findingOf_260 rfl (lv_at hl 6 rfl) ?_
                refine th_get (ci := 14) (C := RX13) (T := TX13) (N := 97) (v := .ref (ad 18)) hx hb hts hinX13 hown hK hP hI 0 (Nat.le_of_ble_eq_true rfl) rfl rfl 32 (Nat.le_of_ble_eq_true rfl) (hts _ (vA_in _ _ (in_30 _ (zs16 (zs16 (zs1 (zs1 (zs0)))))))) (fun _ h9 => h9) (hI.fr 0 (Nat.le_of_ble_eq_true rfl) rfl (Nat.le_of_ble_eq_true rfl) 18 rfl) dX13_findingOf_261 ?_
                refine lv_iload hx hb dX13_findingOf_264 (lv_at hl 5 rfl) ?_
                have n99 : vp_in y1 20 := (iv_in (n := 20) iy1 (by decide))
                refine th_iald hx hb hK hP hI 18 (Nat.le_of_ble_eq_true rfl) rfl rfl n99 dX13_findingOf_266 (fun y98 ey98 => ?_)
                have iy98 : 0 ≤ y98.toInt ∧ y98.toInt ≤ 99 := hI.el 18 (Nat.le_of_ble_eq_true rfl) rfl n99 (fun _ => rfl) ey98
                have ey98 := ey98.trans (hKp.ei 18 _ rfl)
                refine th_pi (va_runS (As := [.int y92, .int y94, .int y96, .int y98]) (rest := [.int 107, .ref (ad 12)]) ⟨hx, hb, hml, hown, hts⟩ (q_far l y92 y94 y96 y98) (va_cwS 4 hts (gi_S (in_30 _ (zs16 (zs16 (zs1 (zs1 (zs1 (zs0))))))) (in_30 _ (zs16 (zs16 (zs4 (zs0))))) (in_24 _ (zs4 (zs4 (zs4 (zs1 (zs1 (zs1 (zs0)))))))) (in_30 _ (zs16 (zs16 (zs4 (zs1 (zs0))))))) rfl rfl rfl hz_yX13_far_4 ⟨Nat.le_of_ble_eq_true rfl, Nat.le_of_ble_eq_true rfl⟩) ⟨fun _ _ _ _ q => q, fun _ _ _ => ⟨rfl, trivial⟩⟩ rfl rfl hl.1 rfl (lv_room (Nat.le_of_ble_eq_true rfl)) dX13_findingOf_267 ⟨Nat.le_of_ble_eq_true rfl, Nat.le_of_ble_eq_true rfl⟩) hS (fun r100 H1 locs1 hw hk1 hS => ?_)
                have hP := ub_keep hP hk1
                generalize H1 = H at hP hS ⊢
                generalize locs1 = locs at hS ⊢
                have n101 : vp_in (107 : Int32) 128 := (iv_in (n := 128) ln_107 (by decide))
                refine th_iast hx hb hK hP (WX_D hD) hS hI 12 (Nat.le_of_ble_eq_true rfl) rfl rfl n101 (okI rfl (iv_all _)) dX13_findingOf_270 (fun H locs E102 pw103 hI hP hS => ?_)
                have hKp := hKp.pw pw103 rfl
                refine lv_aload_n hx hb dX13_findingOf_271 rfl (lv_at hl 6 rfl) ?_
                refine th_get (ci := 14) (C := RX13) (T := TX13) (N := 97) (v := .ref (ad 12)) hx hb hts hinX13 hown hK hP hI 0 (Nat.le_of_ble_eq_true rfl) rfl rfl 15 (Nat.le_of_ble_eq_true rfl) (hts _ (vA_in _ _ (in_25 _ (zs16 (zs16 (zs4 (zs1 (zs0)))))))) (fun _ h9 => h9) (hI.fr 0 (Nat.le_of_ble_eq_true rfl) rfl (Nat.le_of_ble_eq_true rfl) 12 rfl) dX13_findingOf_272 ?_
                refine lv_bipush (v := 111) hx hb dX13_findingOf_275 (by decide) ?_
                refine lv_aload_n hx hb dX13_findingOf_277 rfl (lv_at hl 6 rfl) ?_
                refine th_get (ci := 14) (C := RX13) (T := TX13) (N := 97) (v := .ref (ad 58)) hx hb hts hinX13 hown hK hP hI 0 (Nat.le_of_ble_eq_true rfl) rfl rfl 78 (Nat.le_of_ble_eq_true rfl) (hts _ (vA_in _ _ (in_25 _ (zs16 (zs1 (zs1 (zs1 (zs0)))))))) (fun _ h9 => h9) (hI.fr 0 (Nat.le_of_ble_eq_true rfl) rfl (Nat.le_of_ble_eq_true rfl) 58 rfl) dX13_findingOf_278 ?_
                refine lv_iload hx hb dX13_findingOf_281 (lv_at hl 1 rfl) ?_
                have n105 : vp_in v26_8 256 := (iv_in (n := 256) i22 (by decide))
                refine th_iald hx hb hK hP hI 58 (Nat.le_of_ble_eq_true rfl) rfl rfl n105 dX13_findingOf_283 (fun y104 ey104 => ?_)
                have iy104 : 0 ≤ y104.toInt ∧ y104.toInt ≤ 7 := hI.el 58 (Nat.le_of_ble_eq_true rfl) rfl n105 (fun _ => rfl) ey104
                have ey104 := ey104.trans (hKp.ei 58 _ rfl)
                refine lv_aload_n hx hb dX13_findingOf_284 rfl (lv_at hl 6 rfl) ?_
                refine th_get (ci := 14) (C := RX13) (T := TX13) (N := 97) (v := .ref (ad 58)) hx hb hts hinX13 hown hK hP hI 0 (Nat.le_of_ble_eq_true rfl) rfl rfl 78 (Nat.le_of_ble_eq_true rfl) (hts _ (vA_in _ _ (in_25 _ (zs16 (zs1 (zs1 (zs1 (zs0)))))))) (fun _ h9 => h9) (hI.fr 0 (Nat.le_of_ble_eq_true rfl) rfl (Nat.le_of_ble_eq_true rfl) 58 rfl) dX13_findingOf_285 ?_
                refine lv_iload hx hb dX13_findingOf_288 (lv_at hl 0 rfl) ?_
                have n107 : vp_in v42_9 256 := (iv_in (n := 256) i31 (by decide))
                refine th_iald hx hb hK hP hI 58 (Nat.le_of_ble_eq_true rfl) rfl rfl n107 dX13_findingOf_290 (fun y106 ey106 => ?_)
                have iy106 : 0 ≤ y106.toInt ∧ y106.toInt ≤ 7 := hI.el 58 (Nat.le_of_ble_eq_true rfl) rfl n107 (fun _ => rfl) ey106
                have ey106 := ey106.trans (hKp.ei 58 _ rfl)
                have hJ299 : ∀ (s299_0 : Int32) (H : Heap) (locs : List Loc) (ls : Array Slot), 0 ≤ s299_0.toInt ∧ s299_0.toInt ≤ 1 → va_P (dC, dI) vwCl (WX 72 ad E102) H → va_S A s.heap H locs → lv_has ls 10 [(9, .int v42_9), (8, .int v26_8), (7, .int y3), (6, .int v42_6), (5, .int v42_5), (4, .int y1), (0, .ref (ad 0)), (1, .int a0), (2, .int a1), (3, .int a2)] → W p l e (headSpec v_findingOf rm_findingOf).room s m args below meth c H locs 0 0 Q (F0 m 299 ls [.int s299_0, .int 111, .ref (ad 12)]) := by
                  intro s299_0 H locs ls hs299_0 hP hS hl
                  have n108 : vp_in (111 : Int32) 128 := (iv_in (n := 128) ln_111 (by decide))
                  refine th_iast hx hb hK hP (WX_D hD) hS hI 12 (Nat.le_of_ble_eq_true rfl) rfl rfl n108 (okI rfl (iv_w hs299_0 (by decide))) dX13_findingOf_299 (fun H locs E109 pw110 hI hP hS => ?_)
                  have hKp := hKp.pw pw110 rfl
                  obtain ⟨y111, ey111⟩ : ∃ y : Int32, y = v42_5 + (1 : Int32) := ⟨_, rfl⟩
                  refine lv_iinc (v := y111) (lv' := [(5, .int y111), (9, .int v42_9), (8, .int v26_8), (7, .int y3), (6, .int v42_6), (4, .int y1), (0, .ref (ad 0)), (1, .int a0), (2, .int a1), (3, .int a2)]) hx hb dX13_findingOf_300 hl (k := 4) rfl (by rw [ey111]; rfl) (by decide) rfl (fun ls hl => ?_)
                  refine lv_iload hx hb dX13_findingOf_303 (lv_at hl 4 rfl) ?_
                  refine lv_aload_n hx hb dX13_findingOf_305 rfl (lv_at hl 6 rfl) ?_
                  refine lv_iload_n hx hb dX13_findingOf_306 rfl (lv_at hl 8 rfl) ?_
                  have hJ317 : ∀ (s317_0 : Int32) (H : Heap) (locs : List Loc) (ls : Array Slot), 97 ≤ s317_0.toInt ∧ s317_0.toInt ≤ 98 → va_P (dC, dI) vwCl (WX 72 ad E109) H → va_S A s.heap H locs → lv_has ls 10 [(5, .int y111), (9, .int v42_9), (8, .int v26_8), (7, .int y3), (6, .int v42_6), (4, .int y1), (0, .ref (ad 0)), (1, .int a0), (2, .int a1), (3, .int a2)] → W p l e (headSpec v_findingOf rm_findingOf).room s m args below meth c H locs 0 0 Q (F0 m 317 ls [.int s317_0, .ref (ad 0), .int v42_6]) := by
                    intro s317_0 H locs ls hs317_0 hP hS hl
                    refine lv_aload_n hx hb dX13_findingOf_317 rfl (lv_at hl 6 rfl) ?_
                    refine th_get (ci := 14) (C := RX13) (T := TX13) (N := 97) (v := .ref (ad 13)) hx hb hts hinX13 hown hK hP hI 0 (Nat.le_of_ble_eq_true rfl) rfl rfl 27 (Nat.le_of_ble_eq_true rfl) (hts _ (vA_in _ _ (in_27 _ (zs16 (zs16 (zs0)))))) (fun _ h9 => h9) (hI.fr 0 (Nat.le_of_ble_eq_true rfl) rfl (Nat.le_of_ble_eq_true rfl) 13 rfl) dX13_findingOf_318 ?_
                    refine lv_iload hx hb dX13_findingOf_321 (lv_at hl 5 rfl) ?_
                    have n113 : vp_in y1 20 := (iv_in (n := 20) iy1 (by decide))
                    refine th_iald hx hb hK hP hI 13 (Nat.le_of_ble_eq_true rfl) rfl rfl n113 dX13_findingOf_323 (fun y112 ey112 => ?_)
                    have iy112 : 0 ≤ y112.toInt ∧ y112.toInt ≤ 400 := hI.el 13 (Nat.le_of_ble_eq_true rfl) rfl n113 (fun _ => rfl) ey112
                    have ey112 := ey112.trans (hKp.ei 13 _ rfl)
                    refine lv_iload_n hx hb dX13_findingOf_324 rfl (lv_at hl 9 rfl) ?_
                    refine th_i (va_runV (As := [.int s317_0, .int y112, .int a2]) (rest := [.int v42_6]) ⟨hx, hb, hml, hown, hts⟩ (q_worth l dC dI cT ad E109 H.size s317_0 y112 a2 hI (iv_w hs317_0 (by decide))) (cwV 3 hts (gi_V (in_28 _ (zs16 (zs16 (zs1 (zs1 (zs0)))))) (in_28 _ (zs16 (zs16 (zs1 (zs1 (zs1 (zs0))))))) (in_28 _ (zs16 (zs16 (zs4 (zs0))))) (in_24 _ (zs4 (zs4 (zs4 (zs1 (zs1 (zs1 (zs0)))))))) (in_28 _ (zs16 (zs16 (zs4 (zs1 (zs0))))))) rfl rfl rfl ⟨rfl, hz_yX13_worth_3⟩ ⟨Nat.le_of_ble_eq_true rfl, Nat.le_of_ble_eq_true rfl⟩) ⟨HW_bl, va_recv hK hP (ci := 14) (q0 := 0) rfl (hI.ob 0 (Nat.le_of_ble_eq_true rfl) rfl), (HW_wi hP hK (WX_D hD) hS hA hEV)⟩ rfl rfl hl.1 rfl (lv_room (Nat.le_of_ble_eq_true rfl)) dX13_findingOf_325 ⟨Nat.le_of_ble_eq_true rfl, Nat.le_of_ble_eq_true rfl⟩) (WX_D hD) hS hA (fun r114 E115 H locs hw hP hS => ?_)
                    obtain ⟨hI, kq116, hw⟩ := hw
                    have hKb := hKp
                    have hKp := hKp.tr kq116 (wl_sub rfl rfl)
                    refine lv_if_eq (tgt := 335) hx hb dX13_findingOf_328 (by decide) (fun c117 => ?_) (fun c117 => ?_)
                    · --328 taken
                      have t118 : r114.toInt = 0 := ti_eq c117
                      have i119 : 0 ≤ r114.toInt ∧ r114.toInt ≤ 0 := iv_eqi t118 (iv_all _) (il_ 0) (by decide)
                      refine lv_iconst (v := 0) hx hb dX13_findingOf_335 (by decide) ?_
                      refine lv_iadd hx hb dX13_findingOf_336 ?_
                      refine lv_topi (fun y120 ey120 => ?_)
                      obtain ⟨ty120, iy120⟩ := ti_add (e := (-2147483648)) (f := 2147483647) (iv_all _) ln_0 ey120 (by decide)
                      have ty120 : y120.toInt = v42_6.toInt + 0 := ty120
                      have iy120 : -2147483648 ≤ y120.toInt ∧ y120.toInt ≤ 2147483647 := iy120
                      refine lv_istore (lv' := [(6, .int y120), (5, .int y111), (9, .int v42_9), (8, .int v26_8), (7, .int y3), (4, .int y1), (0, .ref (ad 0)), (1, .int a0), (2, .int a1), (3, .int a2)]) hx hb dX13_findingOf_337 hl (by decide) rfl (fun ls hl => ?_)
                      obtain ⟨y121, ey121⟩ : ∃ y : Int32, y = v42_9 + (1 : Int32) := ⟨_, rfl⟩
                      obtain ⟨ty121, iy121⟩ := ti_add (e := 129) (f := 256) i31 ln_1 ey121 (by decide)
                      have ty121 : y121.toInt = v42_9.toInt + 1 := ty121
                      have iy121 : 129 ≤ y121.toInt ∧ y121.toInt ≤ 256 := iy121
                      refine lv_iinc (v := y121) (lv' := [(9, .int y121), (6, .int y120), (5, .int y111), (8, .int v26_8), (7, .int y3), (4, .int y1), (0, .ref (ad 0)), (1, .int a0), (2, .int a1), (3, .int a2)]) hx hb dX13_findingOf_339 hl (k := 2) rfl (by rw [ey121]; rfl) (by decide) rfl (fun ls hl => ?_)
                      refine lv_goto (tgt := 42) hx hb dX13_findingOf_342 (by decide) ?_
                      exact ih42 y121 y120 y111 E115 _ _ _ (iv_w iy121 (by decide)) (by first | exact ms_su hx42_0 ty121 (by decide) | omega) hI hKp hP hS (lv_sub hl [0, 3, 4, 1, 2, 5, 6, 7, 8, 9] rfl)
                    · --328 not
                      have t122 : ¬ r114.toInt = 0 := ti_ne c117
                      refine lv_iconst (v := 1) hx hb dX13_findingOf_331 (by decide) ?_
                      refine lv_goto (tgt := 336) hx hb dX13_findingOf_332 (by decide) ?_
                      refine lv_iadd hx hb dX13_findingOf_336 ?_
                      refine lv_topi (fun y123 ey123 => ?_)
                      refine lv_istore (lv' := [(6, .int y123), (5, .int y111), (9, .int v42_9), (8, .int v26_8), (7, .int y3), (4, .int y1), (0, .ref (ad 0)), (1, .int a0), (2, .int a1), (3, .int a2)]) hx hb dX13_findingOf_337 hl (by decide) rfl (fun ls hl => ?_)
                      obtain ⟨y124, ey124⟩ : ∃ y : Int32, y = v42_9 + (1 : Int32) := ⟨_, rfl⟩
                      obtain ⟨ty124, iy124⟩ := ti_add (e := 129) (f := 256) i31 ln_1 ey124 (by decide)
                      have ty124 : y124.toInt = v42_9.toInt + 1 := ty124
                      have iy124 : 129 ≤ y124.toInt ∧ y124.toInt ≤ 256 := iy124
                      refine lv_iinc (v := y124) (lv' := [(9, .int y124), (6, .int y123), (5, .int y111), (8, .int v26_8), (7, .int y3), (4, .int y1), (0, .ref (ad 0)), (1, .int a0), (2, .int a1), (3, .int a2)]) hx hb dX13_findingOf_339 hl (k := 2) rfl (by rw [ey124]; rfl) (by decide) rfl (fun ls hl => ?_)
                      refine lv_goto (tgt := 42) hx hb dX13_findingOf_342 (by decide) ?_
                      exact ih42 y124 y123 y111 E115 _ _ _ (iv_w iy124 (by decide)) (by first | exact ms_su hx42_0 ty124 (by decide) | omega) hI hKp hP hS (lv_sub hl [0, 3, 4, 1, 2, 5, 6, 7, 8, 9] rfl)
                  refine lv_if_ne (tgt := 315) hx hb dX13_findingOf_307 (by decide) (fun c125 => ?_) (fun c125 => ?_)
                  · --307 taken
                    have t126 : ¬ a1.toInt = 0 := ti_ne c125
                    refine lv_bipush (v := 98) hx hb dX13_findingOf_315 (by decide) ?_
                    exact hJ317 (98 : Int32) _ _ _ (iv_w ln_98 (by decide)) hP hS (lv_sub hl [0, 1, 2, 3, 4, 5, 6, 7, 8, 9] rfl)
                  · --307 not
                    have t127 : a1.toInt = 0 := ti_eq c125
                    have i128 : 0 ≤ a1.toInt ∧ a1.toInt ≤ 0 := iv_eqi t127 (iv_all _) (il_ 0) (by decide)
                    refine lv_bipush (v := 97) hx hb dX13_findingOf_310 (by decide) ?_
                    refine lv_goto (tgt := 317) hx hb dX13_findingOf_312 (by decide) ?_
                    exact hJ317 (97 : Int32) _ _ _ (iv_w ln_97 (by decide)) hP hS (lv_sub hl [0, 1, 2, 3, 4, 5, 6, 7, 8, 9] rfl)
                refine lv_icmp_ne (tgt := 298) hx hb dX13_findingOf_291 (by decide) (fun c129 => ?_) (fun c129 => ?_)
                · --291 taken
                  have t130 : ¬ y104.toInt = y106.toInt := ti_ne c129
                  refine lv_iconst (v := 0) hx hb dX13_findingOf_298 (by decide) ?_
                  exact hJ299 (0 : Int32) _ _ _ (iv_w ln_0 (by decide)) hP hS (lv_sub hl [0, 1, 2, 3, 4, 5, 6, 7, 8, 9] rfl)
                · --291 not
                  have t131 : y104.toInt = y106.toInt := ti_eq c129
                  refine lv_iconst (v := 1) hx hb dX13_findingOf_294 (by decide) ?_
                  refine lv_goto (tgt := 299) hx hb dX13_findingOf_295 (by decide) ?_
                  exact hJ299 (1 : Int32) _ _ _ (iv_w ln_1 (by decide)) hP hS (lv_sub hl [0, 1, 2, 3, 4, 5, 6, 7, 8, 9] rfl)
              refine lv_if_le (tgt := 193) hx hb dX13_findingOf_186 (by decide) (fun c132 => ?_) (fun c132 => ?_)
              · --186 taken
                have t133 : y76.toInt ≤ 0 := ti_le c132
                have i134 : -2147483648 ≤ y76.toInt ∧ y76.toInt ≤ 0 := iv_le_l t133 (iv_all _) (il_ 0) (by decide)
                refine lv_iconst (v := 0) hx hb dX13_findingOf_193 (by decide) ?_
                exact hJ194 (0 : Int32) _ _ _ (iv_w ln_0 (by decide)) hP hS (lv_sub hl [0, 1, 2, 3, 4, 5, 6, 7, 8, 9] rfl)
              · --186 not
                have t135 : (0 : Int) < y76.toInt := ti_nle c132
                have i136 : 1 ≤ y76.toInt ∧ y76.toInt ≤ 2147483647 := iv_lt_r t135 (il_ 0) (iv_all _) (by decide)
                refine lv_iconst (v := 1) hx hb dX13_findingOf_189 (by decide) ?_
                refine lv_goto (tgt := 194) hx hb dX13_findingOf_190 (by decide) ?_
                exact hJ194 (1 : Int32) _ _ _ (iv_w ln_1 (by decide)) hP hS (lv_sub hl [0, 1, 2, 3, 4, 5, 6, 7, 8, 9] rfl)
        exact hL42 (129) (128 : Int32) v26_6 v26_5 E26_ _ _ _ (iv_w ln_128 (by decide)) (by have h9 := ln_128; first | exact ms_bu h9.1 (by decide) | omega) hI hKp hP hS (lv_sub hl [0, 1, 2, 3, 4, 5, 6, 7, 8, 9] rfl)
  exact hL26 (129) (0 : Int32) (0 : Int32) (0 : Int32) E _ _ _ (iv_w ln_0 (by decide)) (by have h9 := ln_0; first | exact ms_bu h9.1 (by decide) | omega) hI hKp hP hS (lv_sub hl [0, 1, 2, 3, 4, 5, 6, 7, 8] rfl)
def v_finding : List Cond := .code yX13_finding cX13_finding 4 (some .int) :: vA
abbrev rm_finding : Room := { frames := 72, cells := 0, slots := 0, locals := 2880 }
def w_finding : Nat → Nat → Bool := wl [12, 56, 57, 58, 59] [(0, 0), (0, 18), (0, 19), (0, 20), (0, 21), (0, 22), (0, 23), (0, 24), (0, 25), (0, 26)]
set_option maxHeartbeats 4000000 in
set_option maxRecDepth 100000 in
theorem q_finding (l : Launch) (dC : Nat → ClassId) (dI : Nat → Nat → Nat) (cT : Nat → ClassId) (ad : Nat → Nat) (E : Nat → va_E) (sz : Nat) (a0 : Int32) (a1 : Int32) (a2 : Int32) (hI0 : IX cT shM spM 72 ad E)  : Met l yX13_finding v_finding rm_finding (va_Pc [.ref (ad 0), .int a0, .int a1, .int a2] (HW dC dI (TYM cT) 72 ad E sz)) (va_Qi (S := Nat → va_E) (fun r u => IX cT shM spM 72 ad u ∧ Kp w_finding E u ∧ (True)) (HB dC dI 72 ad) (va_A (WX 72 ad E) sz)) 0 0 (va_A (WX 72 ad E) sz) := by
  refine Met.ofW (cc := cX13_finding) (maxL := 4) (ret := (some .int)) (by decide) rfl ?_
  intro p e s m args below meth c s₁ B hml hv
  obtain ⟨hargs, hsz, hP, hK, hD0, hEV⟩ := hv
  subst hsz
  have hx := B.exec
  have hb := B.bytes
  have hr := B.returns
  have hts := atoms_spec (ws := v_finding) B.pre
  have hown : s.vm.findClass RX13 = some m.cls := findClass_of_methodNamed B.named
  have hlocks := B.notSynchronized
  have hinX13 : ∀ w ∈ u_ws RX13 TX13 97, w ∈ v_finding := fun w h => vA_in _ w (in_X13 w h)
  generalize hAe : va_A (WX 72 ad E) s.heap.size = A at hEV ⊢
  have hA : ∀ q : Nat, s.heap.size ≤ q → A q := fun q h => by rw [← hAe]; exact Or.inr h
  have hD : va_D A (WX 72 ad E) := by rw [← hAe]; exact hD0.self
  have hS : va_S A s.heap s.heap [] := va_S.rf
  have hI := hI0
  have hKp : Kp w_finding E E := Kp.rf
  have hl := lv_entry ([.ref (ad 0), .int a0, .int a1, .int a2]) (n := 4) (Nat.le_of_ble_eq_true rfl)
  obtain ⟨Q, hQ⟩ : ∃ Q, Q = MQ below (va_Qi (S := Nat → va_E) (fun r u => IX cT shM spM 72 ad u ∧ Kp w_finding E u ∧ (True)) (HB dC dI 72 ad) (A)) args s 0 0 (A) := ⟨_, rfl⟩
  rw [← hQ, show entryFrame m args 4 = _ from (congrArg (fun z => entryFrame m z 4) hargs).trans (lg_entry_eq _ _ _)]
  generalize (lg_sl ([.ref (ad 0), .int a0, .int a1, .int a2]) ++ List.replicate (4 - (lg_sl ([.ref (ad 0), .int a0, .int a1, .int a2])).length) Slot.unset).toArray = ls at hl ⊢
  have hl : lv_has ls 4 [(0, .ref (ad 0)), (1, .int a0), (2, .int a1), (3, .int a2)] := hl
  refine lv_aload_n hx hb dX13_finding_0 rfl (lv_at hl 0 rfl) ?_
  refine lv_iload_n hx hb dX13_finding_1 rfl (lv_at hl 1 rfl) ?_
  refine lv_iload_n hx hb dX13_finding_2 rfl (lv_at hl 2 rfl) ?_
  refine lv_iload_n hx hb dX13_finding_3 rfl (lv_at hl 3 rfl) ?_
  refine th_i (va_runV (As := [.int a0, .int a1, .int a2]) (rest := []) ⟨hx, hb, hml, hown, hts⟩ (q_asksProtest l dC dI cT ad E s.heap.size a0 a1 a2 hI) (cwV 3 hts (gi_V (in_30 _ (zs16 (zs4 (zs4 (zs1 (zs0)))))) (in_30 _ (zs16 (zs4 (zs4 (zs1 (zs1 (zs0))))))) (in_30 _ (zs16 (zs4 (zs4 (zs1 (zs1 (zs1 (zs0)))))))) (in_24 _ (zs4 (zs4 (zs4 (zs1 (zs1 (zs1 (zs0)))))))) (in_25 _ zs0)) rfl rfl rfl ⟨rfl, hz_yX13_asksProtest_3⟩ ⟨Nat.le_of_ble_eq_true rfl, Nat.le_of_ble_eq_true rfl⟩) ⟨HW_bl, va_recv hK hP (ci := 14) (q0 := 0) rfl (hI.ob 0 (Nat.le_of_ble_eq_true rfl) rfl), (HW_wi hP hK (WX_D hD) hS hA hEV)⟩ rfl rfl hl.1 rfl (lv_room (Nat.le_of_ble_eq_true rfl)) dX13_finding_4 ⟨Nat.le_of_ble_eq_true rfl, Nat.le_of_ble_eq_true rfl⟩) (WX_D hD) hS hA (fun r1 E2 H locs hw hP hS => ?_)
  obtain ⟨hI, kq3, hw⟩ := hw
  have hKb := hKp
  have hKp := hKp.tr kq3 (wl_sub rfl rfl)
  rcases hw with hw | hw
  · -- asksProtest, case 0
    obtain ⟨rfl, f4, f5⟩ := hw
    refine lv_if_eq (tgt := 20) hx hb dX13_finding_7 (by decide) (fun c6 => ?_) (fun c6 => ?_)
    · --7 taken
      exact absurd c6 (by decide)
    · --7 not
      refine lv_aload_n hx hb dX13_finding_10 rfl (lv_at hl 0 rfl) ?_
      refine lv_iload_n hx hb dX13_finding_11 rfl (lv_at hl 1 rfl) ?_
      refine lv_iload_n hx hb dX13_finding_12 rfl (lv_at hl 2 rfl) ?_
      refine lv_iload_n hx hb dX13_finding_13 rfl (lv_at hl 3 rfl) ?_
      refine th_i (va_runV (As := [.int a0, .int a1, .int a2]) (rest := []) ⟨hx, hb, hml, hown, hts⟩ (q_findingOf l dC dI cT ad E2 H.size a0 a1 a2 hI f4) (cwV 3 hts (gi_V (in_30 _ (zs16 (zs4 (zs4 (zs4 (zs0)))))) (in_30 _ (zs16 (zs4 (zs4 (zs4 (zs1 (zs0))))))) (in_30 _ (zs16 (zs4 (zs4 (zs4 (zs1 (zs1 (zs0)))))))) (in_24 _ (zs4 (zs4 (zs4 (zs1 (zs1 (zs1 (zs0)))))))) (in_30 _ (zs16 (zs4 (zs4 (zs4 (zs1 (zs1 (zs1 (zs0)))))))))) rfl rfl rfl ⟨rfl, hz_yX13_findingOf_3⟩ ⟨Nat.le_of_ble_eq_true rfl, Nat.le_of_ble_eq_true rfl⟩) ⟨HW_bl, va_recv hK hP (ci := 14) (q0 := 0) rfl (hI.ob 0 (Nat.le_of_ble_eq_true rfl) rfl), (HW_wi hP hK (WX_D hD) hS hA hEV)⟩ rfl rfl hl.1 rfl (lv_room (Nat.le_of_ble_eq_true rfl)) dX13_finding_14 ⟨Nat.le_of_ble_eq_true rfl, Nat.le_of_ble_eq_true rfl⟩) (WX_D hD) hS hA (fun r7 E8 H locs hw hP hS => ?_)
      obtain ⟨hI, kq9, hw⟩ := hw
      have hKb := hKp
      have hKp := hKp.tr kq9 (wl_sub rfl rfl)
      refine lv_goto (tgt := 21) hx hb dX13_finding_17 (by decide) ?_
      rw [hQ]
      exact W.iret (v := r7) hx hb hr (fun t ht hW => ⟨⟨r7, E8, rfl, ⟨hI, hKp, trivial⟩, by show va_P (dC, dI) vwCl (WX 72 ad E8) t.heap; rw [ht]; exact hP⟩, hS.F ht⟩) hS.2.2 dX13_finding_21
  · -- asksProtest, case 1
    obtain rfl := hw
    refine lv_if_eq (tgt := 20) hx hb dX13_finding_7 (by decide) (fun c10 => ?_) (fun c10 => ?_)
    · --7 taken
      refine lv_iconst (v := -1) hx hb dX13_finding_20 (by decide) ?_
      rw [hQ]
      exact W.iret (v := (-1)) hx hb hr (fun t ht hW => ⟨⟨(-1), E2, rfl, ⟨hI, hKp, trivial⟩, by show va_P (dC, dI) vwCl (WX 72 ad E2) t.heap; rw [ht]; exact hP⟩, hS.F ht⟩) hS.2.2 dX13_finding_21
    · --7 not
      exact absurd c10 (by decide)
end

