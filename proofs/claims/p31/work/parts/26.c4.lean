set_option maxRecDepth 100000 in
theorem zh_dX2_statesOf_0_0 : zc cX2_statesOf 0 [28, 154, 0, 10, 43, 180, 0, 31, 167, 0, 7, 43, 180, 0, 37, 54] = true := by decide +kernel
set_option maxRecDepth 100000 in
theorem zh_dX2_statesOf_15_16 : zc cX2_statesOf 16 [4, 42, 180, 0, 27, 180, 0, 40, 43, 180, 0, 46, 182, 0, 49, 192] = true := by decide +kernel
set_option maxRecDepth 100000 in
theorem zh_dX2_statesOf_31_32 : zc cX2_statesOf 32 [0, 55, 29, 182, 0, 57, 54, 5, 3, 54, 6, 42, 180, 0, 9, 28] = true := by decide +kernel
set_option maxRecDepth 100000 in
theorem zh_dX2_statesOf_48_48 : zc cX2_statesOf 48 [3, 79, 42, 180, 0, 18, 28, 3, 79, 42, 180, 0, 15, 28, 16, 99] = true := by decide +kernel
set_option maxRecDepth 100000 in
theorem zh_dX2_statesOf_64_64 : zc cX2_statesOf 64 [79, 42, 180, 0, 21, 28, 16, 99, 79, 42, 180, 0, 24, 28, 17, 0] = true := by decide +kernel
set_option maxRecDepth 100000 in
theorem zh_dX2_statesOf_78_80 : zc cX2_statesOf 80 [255, 79, 3, 54, 7, 21, 7, 42, 180, 0, 27, 180, 0, 61, 182, 0] = true := by decide +kernel
set_option maxRecDepth 100000 in
theorem zh_dX2_statesOf_94_96 : zc cX2_statesOf 96 [64, 162, 0, 111, 42, 180, 0, 27, 180, 0, 61, 21, 7, 182, 0, 49] = true := by decide +kernel
set_option maxRecDepth 100000 in
theorem zh_dX2_statesOf_112_112 : zc cX2_statesOf 112 [192, 0, 68, 58, 8, 25, 8, 180, 0, 70, 43, 180, 0, 46, 160, 0] = true := by decide +kernel
set_option maxRecDepth 100000 in
theorem zh_dX2_statesOf_126_128 : zc cX2_statesOf 128 [76, 25, 8, 180, 0, 71, 21, 4, 160, 0, 66, 25, 8, 180, 0, 74] = true := by decide +kernel
set_option maxRecDepth 100000 in
theorem zh_dX2_statesOf_144_144 : zc cX2_statesOf 144 [29, 164, 0, 6, 167, 0, 54, 42, 28, 25, 8, 21, 5, 25, 8, 180] = true := by decide +kernel
set_option maxRecDepth 100000 in
theorem zh_dX2_statesOf_159_160 : zc cX2_statesOf 160 [0, 77, 43, 180, 0, 80, 184, 0, 81, 104, 182, 0, 85, 25, 8, 180] = true := by decide +kernel
set_option maxRecDepth 100000 in
theorem zh_dX2_statesOf_175_176 : zc cX2_statesOf 176 [0, 77, 43, 180, 0, 80, 160, 0, 20, 4, 54, 6, 42, 180, 0, 24] = true := by decide +kernel
set_option maxRecDepth 100000 in
theorem zh_dX2_statesOf_192_192 : zc cX2_statesOf 192 [28, 92, 46, 25, 8, 180, 0, 89, 126, 79, 132, 7, 1, 167, 255, 136] = true := by decide +kernel
set_option maxRecDepth 100000 in
theorem zh_dX2_statesOf_208_208 : zc cX2_statesOf 208 [21, 6, 153, 0, 33, 42, 180, 0, 9, 28, 46, 42, 180, 0, 15, 28] = true := by decide +kernel
set_option maxRecDepth 100000 in
theorem zh_dX2_statesOf_224_224 : zc cX2_statesOf 224 [46, 163, 0, 18, 42, 180, 0, 18, 28, 46, 42, 180, 0, 21, 28, 46] = true := by decide +kernel
set_option maxRecDepth 100000 in
theorem zh_dX2_statesOf_240_240 : zc cX2_statesOf 240 [164, 0, 5, 3, 172, 42, 180, 0, 15, 28, 46, 42, 180, 0, 9, 28] = true := by decide +kernel
set_option maxRecDepth 100000 in
theorem zh_dX2_statesOf_256_256 : zc cX2_statesOf 256 [46, 100, 4, 96, 42, 180, 0, 21, 28, 46, 42, 180, 0, 18, 28, 46] = true := by decide +kernel
set_option maxRecDepth 100000 in
theorem zh_dX2_statesOf_272_272 : zc cX2_statesOf 272 [100, 4, 96, 104, 54, 7, 21, 7, 42, 180, 0, 24, 28, 46, 184, 0] = true := by decide +kernel
set_option maxRecDepth 100000 in
theorem zh_dX2_statesOf_286_288 : zc cX2_statesOf 288 [92, 104, 172] = true := by decide +kernel
set_option maxRecDepth 100000 in
theorem zh_dX2_narrow_0_0 : zc cX2_narrow 0 [42, 180, 0, 9, 27, 42, 180, 0, 9, 27, 46, 44, 180, 0, 97, 29] = true := by decide +kernel
set_option maxRecDepth 100000 in
theorem zh_dX2_narrow_16_16 : zc cX2_narrow 16 [100, 184, 0, 100, 79, 42, 180, 0, 18, 27, 42, 180, 0, 18, 27, 46] = true := by decide +kernel
set_option maxRecDepth 100000 in
theorem zh_dX2_narrow_32_32 : zc cX2_narrow 32 [44, 180, 0, 105, 29, 100, 184, 0, 100, 79, 42, 180, 0, 15, 27, 42] = true := by decide +kernel
set_option maxRecDepth 100000 in
theorem zh_dX2_narrow_48_48 : zc cX2_narrow 48 [180, 0, 15, 27, 46, 44, 180, 0, 97, 44, 180, 0, 108, 96, 29, 96] = true := by decide +kernel
set_option maxRecDepth 100000 in
theorem zh_dX2_narrow_64_64 : zc cX2_narrow 64 [184, 0, 110, 79, 42, 180, 0, 21, 27, 42, 180, 0, 21, 27, 46, 44] = true := by decide +kernel
set_option maxRecDepth 100000 in
theorem zh_dX2_narrow_80_80 : zc cX2_narrow 80 [180, 0, 105, 44, 180, 0, 108, 96, 29, 96, 184, 0, 110, 79, 177] = true := by decide +kernel
theorem dX2_statesOf_0 : decode cX2_statesOf 0 = .ok (.iload_n 2, 1) := zo_28 (zi_at zh_dX2_statesOf_0_0 0 rfl)
theorem dX2_statesOf_1 : decode cX2_statesOf 1 = .ok (.ifCond .ne 10, 3) := zo_154 (zi_at zh_dX2_statesOf_0_0 1 rfl) (zi_at zh_dX2_statesOf_0_0 2 rfl) (zi_at zh_dX2_statesOf_0_0 3 rfl) rfl
theorem dX2_statesOf_4 : decode cX2_statesOf 4 = .ok (.aload_n 1, 1) := zo_43 (zi_at zh_dX2_statesOf_0_0 4 rfl)
theorem dX2_statesOf_5 : decode cX2_statesOf 5 = .ok (.getfield 31, 3) := zo_180 (zi_at zh_dX2_statesOf_0_0 5 rfl) (zi_at zh_dX2_statesOf_0_0 6 rfl) (zi_at zh_dX2_statesOf_0_0 7 rfl) rfl
theorem dX2_statesOf_8 : decode cX2_statesOf 8 = .ok (.goto 7, 3) := zo_167 (zi_at zh_dX2_statesOf_0_0 8 rfl) (zi_at zh_dX2_statesOf_0_0 9 rfl) (zi_at zh_dX2_statesOf_0_0 10 rfl) rfl
theorem dX2_statesOf_11 : decode cX2_statesOf 11 = .ok (.aload_n 1, 1) := zo_43 (zi_at zh_dX2_statesOf_0_0 11 rfl)
theorem dX2_statesOf_12 : decode cX2_statesOf 12 = .ok (.getfield 37, 3) := zo_180 (zi_at zh_dX2_statesOf_0_0 12 rfl) (zi_at zh_dX2_statesOf_0_0 13 rfl) (zi_at zh_dX2_statesOf_0_0 14 rfl) rfl
theorem dX2_statesOf_15 : decode cX2_statesOf 15 = .ok (.istore 4, 2) := zo_54 (zi_at zh_dX2_statesOf_0_0 15 rfl) (zi_at zh_dX2_statesOf_15_16 0 rfl)
theorem dX2_statesOf_17 : decode cX2_statesOf 17 = .ok (.aload_n 0, 1) := zo_42 (zi_at zh_dX2_statesOf_15_16 1 rfl)
theorem dX2_statesOf_18 : decode cX2_statesOf 18 = .ok (.getfield 27, 3) := zo_180 (zi_at zh_dX2_statesOf_15_16 2 rfl) (zi_at zh_dX2_statesOf_15_16 3 rfl) (zi_at zh_dX2_statesOf_15_16 4 rfl) rfl
theorem dX2_statesOf_21 : decode cX2_statesOf 21 = .ok (.getfield 40, 3) := zo_180 (zi_at zh_dX2_statesOf_15_16 5 rfl) (zi_at zh_dX2_statesOf_15_16 6 rfl) (zi_at zh_dX2_statesOf_15_16 7 rfl) rfl
theorem dX2_statesOf_24 : decode cX2_statesOf 24 = .ok (.aload_n 1, 1) := zo_43 (zi_at zh_dX2_statesOf_15_16 8 rfl)
theorem dX2_statesOf_25 : decode cX2_statesOf 25 = .ok (.getfield 46, 3) := zo_180 (zi_at zh_dX2_statesOf_15_16 9 rfl) (zi_at zh_dX2_statesOf_15_16 10 rfl) (zi_at zh_dX2_statesOf_15_16 11 rfl) rfl
theorem dX2_statesOf_28 : decode cX2_statesOf 28 = .ok (.invokevirtual 49, 3) := zo_182 (zi_at zh_dX2_statesOf_15_16 12 rfl) (zi_at zh_dX2_statesOf_15_16 13 rfl) (zi_at zh_dX2_statesOf_15_16 14 rfl) rfl
theorem dX2_statesOf_31 : decode cX2_statesOf 31 = .ok (.checkcast 55, 3) := zo_192 (zi_at zh_dX2_statesOf_15_16 15 rfl) (zi_at zh_dX2_statesOf_31_32 0 rfl) (zi_at zh_dX2_statesOf_31_32 1 rfl) rfl
theorem dX2_statesOf_34 : decode cX2_statesOf 34 = .ok (.iload_n 3, 1) := zo_29 (zi_at zh_dX2_statesOf_31_32 2 rfl)
theorem dX2_statesOf_35 : decode cX2_statesOf 35 = .ok (.invokevirtual 57, 3) := zo_182 (zi_at zh_dX2_statesOf_31_32 3 rfl) (zi_at zh_dX2_statesOf_31_32 4 rfl) (zi_at zh_dX2_statesOf_31_32 5 rfl) rfl
theorem dX2_statesOf_38 : decode cX2_statesOf 38 = .ok (.istore 5, 2) := zo_54 (zi_at zh_dX2_statesOf_31_32 6 rfl) (zi_at zh_dX2_statesOf_31_32 7 rfl)
theorem dX2_statesOf_40 : decode cX2_statesOf 40 = .ok (.iconst 0, 1) := zo_3 (zi_at zh_dX2_statesOf_31_32 8 rfl)
theorem dX2_statesOf_41 : decode cX2_statesOf 41 = .ok (.istore 6, 2) := zo_54 (zi_at zh_dX2_statesOf_31_32 9 rfl) (zi_at zh_dX2_statesOf_31_32 10 rfl)
theorem dX2_statesOf_43 : decode cX2_statesOf 43 = .ok (.aload_n 0, 1) := zo_42 (zi_at zh_dX2_statesOf_31_32 11 rfl)
theorem dX2_statesOf_44 : decode cX2_statesOf 44 = .ok (.getfield 9, 3) := zo_180 (zi_at zh_dX2_statesOf_31_32 12 rfl) (zi_at zh_dX2_statesOf_31_32 13 rfl) (zi_at zh_dX2_statesOf_31_32 14 rfl) rfl
theorem dX2_statesOf_47 : decode cX2_statesOf 47 = .ok (.iload_n 2, 1) := zo_28 (zi_at zh_dX2_statesOf_31_32 15 rfl)
theorem dX2_statesOf_48 : decode cX2_statesOf 48 = .ok (.iconst 0, 1) := zo_3 (zi_at zh_dX2_statesOf_48_48 0 rfl)
theorem dX2_statesOf_49 : decode cX2_statesOf 49 = .ok (.iastore, 1) := zo_79 (zi_at zh_dX2_statesOf_48_48 1 rfl)
theorem dX2_statesOf_50 : decode cX2_statesOf 50 = .ok (.aload_n 0, 1) := zo_42 (zi_at zh_dX2_statesOf_48_48 2 rfl)
theorem dX2_statesOf_51 : decode cX2_statesOf 51 = .ok (.getfield 18, 3) := zo_180 (zi_at zh_dX2_statesOf_48_48 3 rfl) (zi_at zh_dX2_statesOf_48_48 4 rfl) (zi_at zh_dX2_statesOf_48_48 5 rfl) rfl
theorem dX2_statesOf_54 : decode cX2_statesOf 54 = .ok (.iload_n 2, 1) := zo_28 (zi_at zh_dX2_statesOf_48_48 6 rfl)
theorem dX2_statesOf_55 : decode cX2_statesOf 55 = .ok (.iconst 0, 1) := zo_3 (zi_at zh_dX2_statesOf_48_48 7 rfl)
theorem dX2_statesOf_56 : decode cX2_statesOf 56 = .ok (.iastore, 1) := zo_79 (zi_at zh_dX2_statesOf_48_48 8 rfl)
theorem dX2_statesOf_57 : decode cX2_statesOf 57 = .ok (.aload_n 0, 1) := zo_42 (zi_at zh_dX2_statesOf_48_48 9 rfl)
theorem dX2_statesOf_58 : decode cX2_statesOf 58 = .ok (.getfield 15, 3) := zo_180 (zi_at zh_dX2_statesOf_48_48 10 rfl) (zi_at zh_dX2_statesOf_48_48 11 rfl) (zi_at zh_dX2_statesOf_48_48 12 rfl) rfl
theorem dX2_statesOf_61 : decode cX2_statesOf 61 = .ok (.iload_n 2, 1) := zo_28 (zi_at zh_dX2_statesOf_48_48 13 rfl)
theorem dX2_statesOf_62 : decode cX2_statesOf 62 = .ok (.bipush 99, 2) := zo_16 (zi_at zh_dX2_statesOf_48_48 14 rfl) (zi_at zh_dX2_statesOf_48_48 15 rfl) rfl
theorem dX2_statesOf_64 : decode cX2_statesOf 64 = .ok (.iastore, 1) := zo_79 (zi_at zh_dX2_statesOf_64_64 0 rfl)
theorem dX2_statesOf_65 : decode cX2_statesOf 65 = .ok (.aload_n 0, 1) := zo_42 (zi_at zh_dX2_statesOf_64_64 1 rfl)
theorem dX2_statesOf_66 : decode cX2_statesOf 66 = .ok (.getfield 21, 3) := zo_180 (zi_at zh_dX2_statesOf_64_64 2 rfl) (zi_at zh_dX2_statesOf_64_64 3 rfl) (zi_at zh_dX2_statesOf_64_64 4 rfl) rfl
theorem dX2_statesOf_69 : decode cX2_statesOf 69 = .ok (.iload_n 2, 1) := zo_28 (zi_at zh_dX2_statesOf_64_64 5 rfl)
theorem dX2_statesOf_70 : decode cX2_statesOf 70 = .ok (.bipush 99, 2) := zo_16 (zi_at zh_dX2_statesOf_64_64 6 rfl) (zi_at zh_dX2_statesOf_64_64 7 rfl) rfl
theorem dX2_statesOf_72 : decode cX2_statesOf 72 = .ok (.iastore, 1) := zo_79 (zi_at zh_dX2_statesOf_64_64 8 rfl)
theorem dX2_statesOf_73 : decode cX2_statesOf 73 = .ok (.aload_n 0, 1) := zo_42 (zi_at zh_dX2_statesOf_64_64 9 rfl)
theorem dX2_statesOf_74 : decode cX2_statesOf 74 = .ok (.getfield 24, 3) := zo_180 (zi_at zh_dX2_statesOf_64_64 10 rfl) (zi_at zh_dX2_statesOf_64_64 11 rfl) (zi_at zh_dX2_statesOf_64_64 12 rfl) rfl
theorem dX2_statesOf_77 : decode cX2_statesOf 77 = .ok (.iload_n 2, 1) := zo_28 (zi_at zh_dX2_statesOf_64_64 13 rfl)
theorem dX2_statesOf_78 : decode cX2_statesOf 78 = .ok (.sipush 255, 3) := zo_17 (zi_at zh_dX2_statesOf_64_64 14 rfl) (zi_at zh_dX2_statesOf_64_64 15 rfl) (zi_at zh_dX2_statesOf_78_80 0 rfl) rfl
theorem dX2_statesOf_81 : decode cX2_statesOf 81 = .ok (.iastore, 1) := zo_79 (zi_at zh_dX2_statesOf_78_80 1 rfl)
theorem dX2_statesOf_82 : decode cX2_statesOf 82 = .ok (.iconst 0, 1) := zo_3 (zi_at zh_dX2_statesOf_78_80 2 rfl)
theorem dX2_statesOf_83 : decode cX2_statesOf 83 = .ok (.istore 7, 2) := zo_54 (zi_at zh_dX2_statesOf_78_80 3 rfl) (zi_at zh_dX2_statesOf_78_80 4 rfl)
theorem dX2_statesOf_85 : decode cX2_statesOf 85 = .ok (.iload 7, 2) := zo_21 (zi_at zh_dX2_statesOf_78_80 5 rfl) (zi_at zh_dX2_statesOf_78_80 6 rfl)
theorem dX2_statesOf_87 : decode cX2_statesOf 87 = .ok (.aload_n 0, 1) := zo_42 (zi_at zh_dX2_statesOf_78_80 7 rfl)
theorem dX2_statesOf_88 : decode cX2_statesOf 88 = .ok (.getfield 27, 3) := zo_180 (zi_at zh_dX2_statesOf_78_80 8 rfl) (zi_at zh_dX2_statesOf_78_80 9 rfl) (zi_at zh_dX2_statesOf_78_80 10 rfl) rfl
theorem dX2_statesOf_91 : decode cX2_statesOf 91 = .ok (.getfield 61, 3) := zo_180 (zi_at zh_dX2_statesOf_78_80 11 rfl) (zi_at zh_dX2_statesOf_78_80 12 rfl) (zi_at zh_dX2_statesOf_78_80 13 rfl) rfl
theorem dX2_statesOf_94 : decode cX2_statesOf 94 = .ok (.invokevirtual 64, 3) := zo_182 (zi_at zh_dX2_statesOf_78_80 14 rfl) (zi_at zh_dX2_statesOf_78_80 15 rfl) (zi_at zh_dX2_statesOf_94_96 0 rfl) rfl
theorem dX2_statesOf_97 : decode cX2_statesOf 97 = .ok (.if_icmp .ge 111, 3) := zo_162 (zi_at zh_dX2_statesOf_94_96 1 rfl) (zi_at zh_dX2_statesOf_94_96 2 rfl) (zi_at zh_dX2_statesOf_94_96 3 rfl) rfl
theorem dX2_statesOf_100 : decode cX2_statesOf 100 = .ok (.aload_n 0, 1) := zo_42 (zi_at zh_dX2_statesOf_94_96 4 rfl)
theorem dX2_statesOf_101 : decode cX2_statesOf 101 = .ok (.getfield 27, 3) := zo_180 (zi_at zh_dX2_statesOf_94_96 5 rfl) (zi_at zh_dX2_statesOf_94_96 6 rfl) (zi_at zh_dX2_statesOf_94_96 7 rfl) rfl
theorem dX2_statesOf_104 : decode cX2_statesOf 104 = .ok (.getfield 61, 3) := zo_180 (zi_at zh_dX2_statesOf_94_96 8 rfl) (zi_at zh_dX2_statesOf_94_96 9 rfl) (zi_at zh_dX2_statesOf_94_96 10 rfl) rfl
theorem dX2_statesOf_107 : decode cX2_statesOf 107 = .ok (.iload 7, 2) := zo_21 (zi_at zh_dX2_statesOf_94_96 11 rfl) (zi_at zh_dX2_statesOf_94_96 12 rfl)
theorem dX2_statesOf_109 : decode cX2_statesOf 109 = .ok (.invokevirtual 49, 3) := zo_182 (zi_at zh_dX2_statesOf_94_96 13 rfl) (zi_at zh_dX2_statesOf_94_96 14 rfl) (zi_at zh_dX2_statesOf_94_96 15 rfl) rfl
theorem dX2_statesOf_112 : decode cX2_statesOf 112 = .ok (.checkcast 68, 3) := zo_192 (zi_at zh_dX2_statesOf_112_112 0 rfl) (zi_at zh_dX2_statesOf_112_112 1 rfl) (zi_at zh_dX2_statesOf_112_112 2 rfl) rfl
theorem dX2_statesOf_115 : decode cX2_statesOf 115 = .ok (.astore 8, 2) := zo_58 (zi_at zh_dX2_statesOf_112_112 3 rfl) (zi_at zh_dX2_statesOf_112_112 4 rfl)
theorem dX2_statesOf_117 : decode cX2_statesOf 117 = .ok (.aload 8, 2) := zo_25 (zi_at zh_dX2_statesOf_112_112 5 rfl) (zi_at zh_dX2_statesOf_112_112 6 rfl)
theorem dX2_statesOf_119 : decode cX2_statesOf 119 = .ok (.getfield 70, 3) := zo_180 (zi_at zh_dX2_statesOf_112_112 7 rfl) (zi_at zh_dX2_statesOf_112_112 8 rfl) (zi_at zh_dX2_statesOf_112_112 9 rfl) rfl
theorem dX2_statesOf_122 : decode cX2_statesOf 122 = .ok (.aload_n 1, 1) := zo_43 (zi_at zh_dX2_statesOf_112_112 10 rfl)
theorem dX2_statesOf_123 : decode cX2_statesOf 123 = .ok (.getfield 46, 3) := zo_180 (zi_at zh_dX2_statesOf_112_112 11 rfl) (zi_at zh_dX2_statesOf_112_112 12 rfl) (zi_at zh_dX2_statesOf_112_112 13 rfl) rfl
theorem dX2_statesOf_126 : decode cX2_statesOf 126 = .ok (.if_icmp .ne 76, 3) := zo_160 (zi_at zh_dX2_statesOf_112_112 14 rfl) (zi_at zh_dX2_statesOf_112_112 15 rfl) (zi_at zh_dX2_statesOf_126_128 0 rfl) rfl
theorem dX2_statesOf_129 : decode cX2_statesOf 129 = .ok (.aload 8, 2) := zo_25 (zi_at zh_dX2_statesOf_126_128 1 rfl) (zi_at zh_dX2_statesOf_126_128 2 rfl)
theorem dX2_statesOf_131 : decode cX2_statesOf 131 = .ok (.getfield 71, 3) := zo_180 (zi_at zh_dX2_statesOf_126_128 3 rfl) (zi_at zh_dX2_statesOf_126_128 4 rfl) (zi_at zh_dX2_statesOf_126_128 5 rfl) rfl
theorem dX2_statesOf_134 : decode cX2_statesOf 134 = .ok (.iload 4, 2) := zo_21 (zi_at zh_dX2_statesOf_126_128 6 rfl) (zi_at zh_dX2_statesOf_126_128 7 rfl)
theorem dX2_statesOf_136 : decode cX2_statesOf 136 = .ok (.if_icmp .ne 66, 3) := zo_160 (zi_at zh_dX2_statesOf_126_128 8 rfl) (zi_at zh_dX2_statesOf_126_128 9 rfl) (zi_at zh_dX2_statesOf_126_128 10 rfl) rfl
theorem dX2_statesOf_139 : decode cX2_statesOf 139 = .ok (.aload 8, 2) := zo_25 (zi_at zh_dX2_statesOf_126_128 11 rfl) (zi_at zh_dX2_statesOf_126_128 12 rfl)
theorem dX2_statesOf_141 : decode cX2_statesOf 141 = .ok (.getfield 74, 3) := zo_180 (zi_at zh_dX2_statesOf_126_128 13 rfl) (zi_at zh_dX2_statesOf_126_128 14 rfl) (zi_at zh_dX2_statesOf_126_128 15 rfl) rfl
theorem dX2_statesOf_144 : decode cX2_statesOf 144 = .ok (.iload_n 3, 1) := zo_29 (zi_at zh_dX2_statesOf_144_144 0 rfl)
theorem dX2_statesOf_145 : decode cX2_statesOf 145 = .ok (.if_icmp .le 6, 3) := zo_164 (zi_at zh_dX2_statesOf_144_144 1 rfl) (zi_at zh_dX2_statesOf_144_144 2 rfl) (zi_at zh_dX2_statesOf_144_144 3 rfl) rfl
theorem dX2_statesOf_148 : decode cX2_statesOf 148 = .ok (.goto 54, 3) := zo_167 (zi_at zh_dX2_statesOf_144_144 4 rfl) (zi_at zh_dX2_statesOf_144_144 5 rfl) (zi_at zh_dX2_statesOf_144_144 6 rfl) rfl
theorem dX2_statesOf_151 : decode cX2_statesOf 151 = .ok (.aload_n 0, 1) := zo_42 (zi_at zh_dX2_statesOf_144_144 7 rfl)
theorem dX2_statesOf_152 : decode cX2_statesOf 152 = .ok (.iload_n 2, 1) := zo_28 (zi_at zh_dX2_statesOf_144_144 8 rfl)
theorem dX2_statesOf_153 : decode cX2_statesOf 153 = .ok (.aload 8, 2) := zo_25 (zi_at zh_dX2_statesOf_144_144 9 rfl) (zi_at zh_dX2_statesOf_144_144 10 rfl)
theorem dX2_statesOf_155 : decode cX2_statesOf 155 = .ok (.iload 5, 2) := zo_21 (zi_at zh_dX2_statesOf_144_144 11 rfl) (zi_at zh_dX2_statesOf_144_144 12 rfl)
theorem dX2_statesOf_157 : decode cX2_statesOf 157 = .ok (.aload 8, 2) := zo_25 (zi_at zh_dX2_statesOf_144_144 13 rfl) (zi_at zh_dX2_statesOf_144_144 14 rfl)
theorem dX2_statesOf_159 : decode cX2_statesOf 159 = .ok (.getfield 77, 3) := zo_180 (zi_at zh_dX2_statesOf_144_144 15 rfl) (zi_at zh_dX2_statesOf_159_160 0 rfl) (zi_at zh_dX2_statesOf_159_160 1 rfl) rfl
theorem dX2_statesOf_162 : decode cX2_statesOf 162 = .ok (.aload_n 1, 1) := zo_43 (zi_at zh_dX2_statesOf_159_160 2 rfl)
theorem dX2_statesOf_163 : decode cX2_statesOf 163 = .ok (.getfield 80, 3) := zo_180 (zi_at zh_dX2_statesOf_159_160 3 rfl) (zi_at zh_dX2_statesOf_159_160 4 rfl) (zi_at zh_dX2_statesOf_159_160 5 rfl) rfl
theorem dX2_statesOf_166 : decode cX2_statesOf 166 = .ok (.invokestatic 81, 3) := zo_184 (zi_at zh_dX2_statesOf_159_160 6 rfl) (zi_at zh_dX2_statesOf_159_160 7 rfl) (zi_at zh_dX2_statesOf_159_160 8 rfl) rfl
theorem dX2_statesOf_169 : decode cX2_statesOf 169 = .ok (.imul, 1) := zo_104 (zi_at zh_dX2_statesOf_159_160 9 rfl)
theorem dX2_statesOf_170 : decode cX2_statesOf 170 = .ok (.invokevirtual 85, 3) := zo_182 (zi_at zh_dX2_statesOf_159_160 10 rfl) (zi_at zh_dX2_statesOf_159_160 11 rfl) (zi_at zh_dX2_statesOf_159_160 12 rfl) rfl
theorem dX2_statesOf_173 : decode cX2_statesOf 173 = .ok (.aload 8, 2) := zo_25 (zi_at zh_dX2_statesOf_159_160 13 rfl) (zi_at zh_dX2_statesOf_159_160 14 rfl)
theorem dX2_statesOf_175 : decode cX2_statesOf 175 = .ok (.getfield 77, 3) := zo_180 (zi_at zh_dX2_statesOf_159_160 15 rfl) (zi_at zh_dX2_statesOf_175_176 0 rfl) (zi_at zh_dX2_statesOf_175_176 1 rfl) rfl
theorem dX2_statesOf_178 : decode cX2_statesOf 178 = .ok (.aload_n 1, 1) := zo_43 (zi_at zh_dX2_statesOf_175_176 2 rfl)
theorem dX2_statesOf_179 : decode cX2_statesOf 179 = .ok (.getfield 80, 3) := zo_180 (zi_at zh_dX2_statesOf_175_176 3 rfl) (zi_at zh_dX2_statesOf_175_176 4 rfl) (zi_at zh_dX2_statesOf_175_176 5 rfl) rfl
theorem dX2_statesOf_182 : decode cX2_statesOf 182 = .ok (.if_icmp .ne 20, 3) := zo_160 (zi_at zh_dX2_statesOf_175_176 6 rfl) (zi_at zh_dX2_statesOf_175_176 7 rfl) (zi_at zh_dX2_statesOf_175_176 8 rfl) rfl
theorem dX2_statesOf_185 : decode cX2_statesOf 185 = .ok (.iconst 1, 1) := zo_4 (zi_at zh_dX2_statesOf_175_176 9 rfl)
theorem dX2_statesOf_186 : decode cX2_statesOf 186 = .ok (.istore 6, 2) := zo_54 (zi_at zh_dX2_statesOf_175_176 10 rfl) (zi_at zh_dX2_statesOf_175_176 11 rfl)
theorem dX2_statesOf_188 : decode cX2_statesOf 188 = .ok (.aload_n 0, 1) := zo_42 (zi_at zh_dX2_statesOf_175_176 12 rfl)
theorem dX2_statesOf_189 : decode cX2_statesOf 189 = .ok (.getfield 24, 3) := zo_180 (zi_at zh_dX2_statesOf_175_176 13 rfl) (zi_at zh_dX2_statesOf_175_176 14 rfl) (zi_at zh_dX2_statesOf_175_176 15 rfl) rfl
theorem dX2_statesOf_192 : decode cX2_statesOf 192 = .ok (.iload_n 2, 1) := zo_28 (zi_at zh_dX2_statesOf_192_192 0 rfl)
theorem dX2_statesOf_193 : decode cX2_statesOf 193 = .ok (.dup2, 1) := zo_92 (zi_at zh_dX2_statesOf_192_192 1 rfl)
theorem dX2_statesOf_194 : decode cX2_statesOf 194 = .ok (.iaload, 1) := zo_46 (zi_at zh_dX2_statesOf_192_192 2 rfl)
theorem dX2_statesOf_195 : decode cX2_statesOf 195 = .ok (.aload 8, 2) := zo_25 (zi_at zh_dX2_statesOf_192_192 3 rfl) (zi_at zh_dX2_statesOf_192_192 4 rfl)
theorem dX2_statesOf_197 : decode cX2_statesOf 197 = .ok (.getfield 89, 3) := zo_180 (zi_at zh_dX2_statesOf_192_192 5 rfl) (zi_at zh_dX2_statesOf_192_192 6 rfl) (zi_at zh_dX2_statesOf_192_192 7 rfl) rfl
theorem dX2_statesOf_200 : decode cX2_statesOf 200 = .ok (.iand, 1) := zo_126 (zi_at zh_dX2_statesOf_192_192 8 rfl)
theorem dX2_statesOf_201 : decode cX2_statesOf 201 = .ok (.iastore, 1) := zo_79 (zi_at zh_dX2_statesOf_192_192 9 rfl)
theorem dX2_statesOf_202 : decode cX2_statesOf 202 = .ok (.iinc 7 1, 3) := zo_132 (zi_at zh_dX2_statesOf_192_192 10 rfl) (zi_at zh_dX2_statesOf_192_192 11 rfl) (zi_at zh_dX2_statesOf_192_192 12 rfl) rfl
theorem dX2_statesOf_205 : decode cX2_statesOf 205 = .ok (.goto (-120), 3) := zo_167 (zi_at zh_dX2_statesOf_192_192 13 rfl) (zi_at zh_dX2_statesOf_192_192 14 rfl) (zi_at zh_dX2_statesOf_192_192 15 rfl) rfl
theorem dX2_statesOf_208 : decode cX2_statesOf 208 = .ok (.iload 6, 2) := zo_21 (zi_at zh_dX2_statesOf_208_208 0 rfl) (zi_at zh_dX2_statesOf_208_208 1 rfl)
theorem dX2_statesOf_210 : decode cX2_statesOf 210 = .ok (.ifCond .eq 33, 3) := zo_153 (zi_at zh_dX2_statesOf_208_208 2 rfl) (zi_at zh_dX2_statesOf_208_208 3 rfl) (zi_at zh_dX2_statesOf_208_208 4 rfl) rfl
theorem dX2_statesOf_213 : decode cX2_statesOf 213 = .ok (.aload_n 0, 1) := zo_42 (zi_at zh_dX2_statesOf_208_208 5 rfl)
theorem dX2_statesOf_214 : decode cX2_statesOf 214 = .ok (.getfield 9, 3) := zo_180 (zi_at zh_dX2_statesOf_208_208 6 rfl) (zi_at zh_dX2_statesOf_208_208 7 rfl) (zi_at zh_dX2_statesOf_208_208 8 rfl) rfl
theorem dX2_statesOf_217 : decode cX2_statesOf 217 = .ok (.iload_n 2, 1) := zo_28 (zi_at zh_dX2_statesOf_208_208 9 rfl)
theorem dX2_statesOf_218 : decode cX2_statesOf 218 = .ok (.iaload, 1) := zo_46 (zi_at zh_dX2_statesOf_208_208 10 rfl)
theorem dX2_statesOf_219 : decode cX2_statesOf 219 = .ok (.aload_n 0, 1) := zo_42 (zi_at zh_dX2_statesOf_208_208 11 rfl)
theorem dX2_statesOf_220 : decode cX2_statesOf 220 = .ok (.getfield 15, 3) := zo_180 (zi_at zh_dX2_statesOf_208_208 12 rfl) (zi_at zh_dX2_statesOf_208_208 13 rfl) (zi_at zh_dX2_statesOf_208_208 14 rfl) rfl
theorem dX2_statesOf_223 : decode cX2_statesOf 223 = .ok (.iload_n 2, 1) := zo_28 (zi_at zh_dX2_statesOf_208_208 15 rfl)
theorem dX2_statesOf_224 : decode cX2_statesOf 224 = .ok (.iaload, 1) := zo_46 (zi_at zh_dX2_statesOf_224_224 0 rfl)
theorem dX2_statesOf_225 : decode cX2_statesOf 225 = .ok (.if_icmp .gt 18, 3) := zo_163 (zi_at zh_dX2_statesOf_224_224 1 rfl) (zi_at zh_dX2_statesOf_224_224 2 rfl) (zi_at zh_dX2_statesOf_224_224 3 rfl) rfl
theorem dX2_statesOf_228 : decode cX2_statesOf 228 = .ok (.aload_n 0, 1) := zo_42 (zi_at zh_dX2_statesOf_224_224 4 rfl)
theorem dX2_statesOf_229 : decode cX2_statesOf 229 = .ok (.getfield 18, 3) := zo_180 (zi_at zh_dX2_statesOf_224_224 5 rfl) (zi_at zh_dX2_statesOf_224_224 6 rfl) (zi_at zh_dX2_statesOf_224_224 7 rfl) rfl
theorem dX2_statesOf_232 : decode cX2_statesOf 232 = .ok (.iload_n 2, 1) := zo_28 (zi_at zh_dX2_statesOf_224_224 8 rfl)
theorem dX2_statesOf_233 : decode cX2_statesOf 233 = .ok (.iaload, 1) := zo_46 (zi_at zh_dX2_statesOf_224_224 9 rfl)
theorem dX2_statesOf_234 : decode cX2_statesOf 234 = .ok (.aload_n 0, 1) := zo_42 (zi_at zh_dX2_statesOf_224_224 10 rfl)
theorem dX2_statesOf_235 : decode cX2_statesOf 235 = .ok (.getfield 21, 3) := zo_180 (zi_at zh_dX2_statesOf_224_224 11 rfl) (zi_at zh_dX2_statesOf_224_224 12 rfl) (zi_at zh_dX2_statesOf_224_224 13 rfl) rfl
theorem dX2_statesOf_238 : decode cX2_statesOf 238 = .ok (.iload_n 2, 1) := zo_28 (zi_at zh_dX2_statesOf_224_224 14 rfl)
theorem dX2_statesOf_239 : decode cX2_statesOf 239 = .ok (.iaload, 1) := zo_46 (zi_at zh_dX2_statesOf_224_224 15 rfl)
theorem dX2_statesOf_240 : decode cX2_statesOf 240 = .ok (.if_icmp .le 5, 3) := zo_164 (zi_at zh_dX2_statesOf_240_240 0 rfl) (zi_at zh_dX2_statesOf_240_240 1 rfl) (zi_at zh_dX2_statesOf_240_240 2 rfl) rfl
theorem dX2_statesOf_243 : decode cX2_statesOf 243 = .ok (.iconst 0, 1) := zo_3 (zi_at zh_dX2_statesOf_240_240 3 rfl)
theorem dX2_statesOf_244 : decode cX2_statesOf 244 = .ok (.ireturn, 1) := zo_172 (zi_at zh_dX2_statesOf_240_240 4 rfl)
theorem dX2_statesOf_245 : decode cX2_statesOf 245 = .ok (.aload_n 0, 1) := zo_42 (zi_at zh_dX2_statesOf_240_240 5 rfl)
theorem dX2_statesOf_246 : decode cX2_statesOf 246 = .ok (.getfield 15, 3) := zo_180 (zi_at zh_dX2_statesOf_240_240 6 rfl) (zi_at zh_dX2_statesOf_240_240 7 rfl) (zi_at zh_dX2_statesOf_240_240 8 rfl) rfl
theorem dX2_statesOf_249 : decode cX2_statesOf 249 = .ok (.iload_n 2, 1) := zo_28 (zi_at zh_dX2_statesOf_240_240 9 rfl)
theorem dX2_statesOf_250 : decode cX2_statesOf 250 = .ok (.iaload, 1) := zo_46 (zi_at zh_dX2_statesOf_240_240 10 rfl)
theorem dX2_statesOf_251 : decode cX2_statesOf 251 = .ok (.aload_n 0, 1) := zo_42 (zi_at zh_dX2_statesOf_240_240 11 rfl)
theorem dX2_statesOf_252 : decode cX2_statesOf 252 = .ok (.getfield 9, 3) := zo_180 (zi_at zh_dX2_statesOf_240_240 12 rfl) (zi_at zh_dX2_statesOf_240_240 13 rfl) (zi_at zh_dX2_statesOf_240_240 14 rfl) rfl
theorem dX2_statesOf_255 : decode cX2_statesOf 255 = .ok (.iload_n 2, 1) := zo_28 (zi_at zh_dX2_statesOf_240_240 15 rfl)
theorem dX2_statesOf_256 : decode cX2_statesOf 256 = .ok (.iaload, 1) := zo_46 (zi_at zh_dX2_statesOf_256_256 0 rfl)
theorem dX2_statesOf_257 : decode cX2_statesOf 257 = .ok (.isub, 1) := zo_100 (zi_at zh_dX2_statesOf_256_256 1 rfl)
theorem dX2_statesOf_258 : decode cX2_statesOf 258 = .ok (.iconst 1, 1) := zo_4 (zi_at zh_dX2_statesOf_256_256 2 rfl)
theorem dX2_statesOf_259 : decode cX2_statesOf 259 = .ok (.iadd, 1) := zo_96 (zi_at zh_dX2_statesOf_256_256 3 rfl)
theorem dX2_statesOf_260 : decode cX2_statesOf 260 = .ok (.aload_n 0, 1) := zo_42 (zi_at zh_dX2_statesOf_256_256 4 rfl)
theorem dX2_statesOf_261 : decode cX2_statesOf 261 = .ok (.getfield 21, 3) := zo_180 (zi_at zh_dX2_statesOf_256_256 5 rfl) (zi_at zh_dX2_statesOf_256_256 6 rfl) (zi_at zh_dX2_statesOf_256_256 7 rfl) rfl
theorem dX2_statesOf_264 : decode cX2_statesOf 264 = .ok (.iload_n 2, 1) := zo_28 (zi_at zh_dX2_statesOf_256_256 8 rfl)
theorem dX2_statesOf_265 : decode cX2_statesOf 265 = .ok (.iaload, 1) := zo_46 (zi_at zh_dX2_statesOf_256_256 9 rfl)
theorem dX2_statesOf_266 : decode cX2_statesOf 266 = .ok (.aload_n 0, 1) := zo_42 (zi_at zh_dX2_statesOf_256_256 10 rfl)
theorem dX2_statesOf_267 : decode cX2_statesOf 267 = .ok (.getfield 18, 3) := zo_180 (zi_at zh_dX2_statesOf_256_256 11 rfl) (zi_at zh_dX2_statesOf_256_256 12 rfl) (zi_at zh_dX2_statesOf_256_256 13 rfl) rfl
theorem dX2_statesOf_270 : decode cX2_statesOf 270 = .ok (.iload_n 2, 1) := zo_28 (zi_at zh_dX2_statesOf_256_256 14 rfl)
theorem dX2_statesOf_271 : decode cX2_statesOf 271 = .ok (.iaload, 1) := zo_46 (zi_at zh_dX2_statesOf_256_256 15 rfl)
theorem dX2_statesOf_272 : decode cX2_statesOf 272 = .ok (.isub, 1) := zo_100 (zi_at zh_dX2_statesOf_272_272 0 rfl)
theorem dX2_statesOf_273 : decode cX2_statesOf 273 = .ok (.iconst 1, 1) := zo_4 (zi_at zh_dX2_statesOf_272_272 1 rfl)
theorem dX2_statesOf_274 : decode cX2_statesOf 274 = .ok (.iadd, 1) := zo_96 (zi_at zh_dX2_statesOf_272_272 2 rfl)
theorem dX2_statesOf_275 : decode cX2_statesOf 275 = .ok (.imul, 1) := zo_104 (zi_at zh_dX2_statesOf_272_272 3 rfl)
theorem dX2_statesOf_276 : decode cX2_statesOf 276 = .ok (.istore 7, 2) := zo_54 (zi_at zh_dX2_statesOf_272_272 4 rfl) (zi_at zh_dX2_statesOf_272_272 5 rfl)
theorem dX2_statesOf_278 : decode cX2_statesOf 278 = .ok (.iload 7, 2) := zo_21 (zi_at zh_dX2_statesOf_272_272 6 rfl) (zi_at zh_dX2_statesOf_272_272 7 rfl)
theorem dX2_statesOf_280 : decode cX2_statesOf 280 = .ok (.aload_n 0, 1) := zo_42 (zi_at zh_dX2_statesOf_272_272 8 rfl)
theorem dX2_statesOf_281 : decode cX2_statesOf 281 = .ok (.getfield 24, 3) := zo_180 (zi_at zh_dX2_statesOf_272_272 9 rfl) (zi_at zh_dX2_statesOf_272_272 10 rfl) (zi_at zh_dX2_statesOf_272_272 11 rfl) rfl
theorem dX2_statesOf_284 : decode cX2_statesOf 284 = .ok (.iload_n 2, 1) := zo_28 (zi_at zh_dX2_statesOf_272_272 12 rfl)
theorem dX2_statesOf_285 : decode cX2_statesOf 285 = .ok (.iaload, 1) := zo_46 (zi_at zh_dX2_statesOf_272_272 13 rfl)
theorem dX2_statesOf_286 : decode cX2_statesOf 286 = .ok (.invokestatic 92, 3) := zo_184 (zi_at zh_dX2_statesOf_272_272 14 rfl) (zi_at zh_dX2_statesOf_272_272 15 rfl) (zi_at zh_dX2_statesOf_286_288 0 rfl) rfl
theorem dX2_statesOf_289 : decode cX2_statesOf 289 = .ok (.imul, 1) := zo_104 (zi_at zh_dX2_statesOf_286_288 1 rfl)
theorem dX2_statesOf_290 : decode cX2_statesOf 290 = .ok (.ireturn, 1) := zo_172 (zi_at zh_dX2_statesOf_286_288 2 rfl)
theorem dX2_narrow_0 : decode cX2_narrow 0 = .ok (.aload_n 0, 1) := zo_42 (zi_at zh_dX2_narrow_0_0 0 rfl)
theorem dX2_narrow_1 : decode cX2_narrow 1 = .ok (.getfield 9, 3) := zo_180 (zi_at zh_dX2_narrow_0_0 1 rfl) (zi_at zh_dX2_narrow_0_0 2 rfl) (zi_at zh_dX2_narrow_0_0 3 rfl) rfl
theorem dX2_narrow_4 : decode cX2_narrow 4 = .ok (.iload_n 1, 1) := zo_27 (zi_at zh_dX2_narrow_0_0 4 rfl)
theorem dX2_narrow_5 : decode cX2_narrow 5 = .ok (.aload_n 0, 1) := zo_42 (zi_at zh_dX2_narrow_0_0 5 rfl)
theorem dX2_narrow_6 : decode cX2_narrow 6 = .ok (.getfield 9, 3) := zo_180 (zi_at zh_dX2_narrow_0_0 6 rfl) (zi_at zh_dX2_narrow_0_0 7 rfl) (zi_at zh_dX2_narrow_0_0 8 rfl) rfl
theorem dX2_narrow_9 : decode cX2_narrow 9 = .ok (.iload_n 1, 1) := zo_27 (zi_at zh_dX2_narrow_0_0 9 rfl)
theorem dX2_narrow_10 : decode cX2_narrow 10 = .ok (.iaload, 1) := zo_46 (zi_at zh_dX2_narrow_0_0 10 rfl)
theorem dX2_narrow_11 : decode cX2_narrow 11 = .ok (.aload_n 2, 1) := zo_44 (zi_at zh_dX2_narrow_0_0 11 rfl)
theorem dX2_narrow_12 : decode cX2_narrow 12 = .ok (.getfield 97, 3) := zo_180 (zi_at zh_dX2_narrow_0_0 12 rfl) (zi_at zh_dX2_narrow_0_0 13 rfl) (zi_at zh_dX2_narrow_0_0 14 rfl) rfl
theorem dX2_narrow_15 : decode cX2_narrow 15 = .ok (.iload_n 3, 1) := zo_29 (zi_at zh_dX2_narrow_0_0 15 rfl)
theorem dX2_narrow_16 : decode cX2_narrow 16 = .ok (.isub, 1) := zo_100 (zi_at zh_dX2_narrow_16_16 0 rfl)
theorem dX2_narrow_17 : decode cX2_narrow 17 = .ok (.invokestatic 100, 3) := zo_184 (zi_at zh_dX2_narrow_16_16 1 rfl) (zi_at zh_dX2_narrow_16_16 2 rfl) (zi_at zh_dX2_narrow_16_16 3 rfl) rfl
theorem dX2_narrow_20 : decode cX2_narrow 20 = .ok (.iastore, 1) := zo_79 (zi_at zh_dX2_narrow_16_16 4 rfl)
theorem dX2_narrow_21 : decode cX2_narrow 21 = .ok (.aload_n 0, 1) := zo_42 (zi_at zh_dX2_narrow_16_16 5 rfl)
theorem dX2_narrow_22 : decode cX2_narrow 22 = .ok (.getfield 18, 3) := zo_180 (zi_at zh_dX2_narrow_16_16 6 rfl) (zi_at zh_dX2_narrow_16_16 7 rfl) (zi_at zh_dX2_narrow_16_16 8 rfl) rfl
theorem dX2_narrow_25 : decode cX2_narrow 25 = .ok (.iload_n 1, 1) := zo_27 (zi_at zh_dX2_narrow_16_16 9 rfl)
theorem dX2_narrow_26 : decode cX2_narrow 26 = .ok (.aload_n 0, 1) := zo_42 (zi_at zh_dX2_narrow_16_16 10 rfl)
theorem dX2_narrow_27 : decode cX2_narrow 27 = .ok (.getfield 18, 3) := zo_180 (zi_at zh_dX2_narrow_16_16 11 rfl) (zi_at zh_dX2_narrow_16_16 12 rfl) (zi_at zh_dX2_narrow_16_16 13 rfl) rfl
theorem dX2_narrow_30 : decode cX2_narrow 30 = .ok (.iload_n 1, 1) := zo_27 (zi_at zh_dX2_narrow_16_16 14 rfl)
theorem dX2_narrow_31 : decode cX2_narrow 31 = .ok (.iaload, 1) := zo_46 (zi_at zh_dX2_narrow_16_16 15 rfl)
theorem dX2_narrow_32 : decode cX2_narrow 32 = .ok (.aload_n 2, 1) := zo_44 (zi_at zh_dX2_narrow_32_32 0 rfl)
theorem dX2_narrow_33 : decode cX2_narrow 33 = .ok (.getfield 105, 3) := zo_180 (zi_at zh_dX2_narrow_32_32 1 rfl) (zi_at zh_dX2_narrow_32_32 2 rfl) (zi_at zh_dX2_narrow_32_32 3 rfl) rfl
theorem dX2_narrow_36 : decode cX2_narrow 36 = .ok (.iload_n 3, 1) := zo_29 (zi_at zh_dX2_narrow_32_32 4 rfl)
theorem dX2_narrow_37 : decode cX2_narrow 37 = .ok (.isub, 1) := zo_100 (zi_at zh_dX2_narrow_32_32 5 rfl)
theorem dX2_narrow_38 : decode cX2_narrow 38 = .ok (.invokestatic 100, 3) := zo_184 (zi_at zh_dX2_narrow_32_32 6 rfl) (zi_at zh_dX2_narrow_32_32 7 rfl) (zi_at zh_dX2_narrow_32_32 8 rfl) rfl
theorem dX2_narrow_41 : decode cX2_narrow 41 = .ok (.iastore, 1) := zo_79 (zi_at zh_dX2_narrow_32_32 9 rfl)
theorem dX2_narrow_42 : decode cX2_narrow 42 = .ok (.aload_n 0, 1) := zo_42 (zi_at zh_dX2_narrow_32_32 10 rfl)
theorem dX2_narrow_43 : decode cX2_narrow 43 = .ok (.getfield 15, 3) := zo_180 (zi_at zh_dX2_narrow_32_32 11 rfl) (zi_at zh_dX2_narrow_32_32 12 rfl) (zi_at zh_dX2_narrow_32_32 13 rfl) rfl
theorem dX2_narrow_46 : decode cX2_narrow 46 = .ok (.iload_n 1, 1) := zo_27 (zi_at zh_dX2_narrow_32_32 14 rfl)
theorem dX2_narrow_47 : decode cX2_narrow 47 = .ok (.aload_n 0, 1) := zo_42 (zi_at zh_dX2_narrow_32_32 15 rfl)
theorem dX2_narrow_48 : decode cX2_narrow 48 = .ok (.getfield 15, 3) := zo_180 (zi_at zh_dX2_narrow_48_48 0 rfl) (zi_at zh_dX2_narrow_48_48 1 rfl) (zi_at zh_dX2_narrow_48_48 2 rfl) rfl
theorem dX2_narrow_51 : decode cX2_narrow 51 = .ok (.iload_n 1, 1) := zo_27 (zi_at zh_dX2_narrow_48_48 3 rfl)
theorem dX2_narrow_52 : decode cX2_narrow 52 = .ok (.iaload, 1) := zo_46 (zi_at zh_dX2_narrow_48_48 4 rfl)
theorem dX2_narrow_53 : decode cX2_narrow 53 = .ok (.aload_n 2, 1) := zo_44 (zi_at zh_dX2_narrow_48_48 5 rfl)
theorem dX2_narrow_54 : decode cX2_narrow 54 = .ok (.getfield 97, 3) := zo_180 (zi_at zh_dX2_narrow_48_48 6 rfl) (zi_at zh_dX2_narrow_48_48 7 rfl) (zi_at zh_dX2_narrow_48_48 8 rfl) rfl
theorem dX2_narrow_57 : decode cX2_narrow 57 = .ok (.aload_n 2, 1) := zo_44 (zi_at zh_dX2_narrow_48_48 9 rfl)
theorem dX2_narrow_58 : decode cX2_narrow 58 = .ok (.getfield 108, 3) := zo_180 (zi_at zh_dX2_narrow_48_48 10 rfl) (zi_at zh_dX2_narrow_48_48 11 rfl) (zi_at zh_dX2_narrow_48_48 12 rfl) rfl
theorem dX2_narrow_61 : decode cX2_narrow 61 = .ok (.iadd, 1) := zo_96 (zi_at zh_dX2_narrow_48_48 13 rfl)
theorem dX2_narrow_62 : decode cX2_narrow 62 = .ok (.iload_n 3, 1) := zo_29 (zi_at zh_dX2_narrow_48_48 14 rfl)
theorem dX2_narrow_63 : decode cX2_narrow 63 = .ok (.iadd, 1) := zo_96 (zi_at zh_dX2_narrow_48_48 15 rfl)
theorem dX2_narrow_64 : decode cX2_narrow 64 = .ok (.invokestatic 110, 3) := zo_184 (zi_at zh_dX2_narrow_64_64 0 rfl) (zi_at zh_dX2_narrow_64_64 1 rfl) (zi_at zh_dX2_narrow_64_64 2 rfl) rfl
theorem dX2_narrow_67 : decode cX2_narrow 67 = .ok (.iastore, 1) := zo_79 (zi_at zh_dX2_narrow_64_64 3 rfl)
theorem dX2_narrow_68 : decode cX2_narrow 68 = .ok (.aload_n 0, 1) := zo_42 (zi_at zh_dX2_narrow_64_64 4 rfl)
theorem dX2_narrow_69 : decode cX2_narrow 69 = .ok (.getfield 21, 3) := zo_180 (zi_at zh_dX2_narrow_64_64 5 rfl) (zi_at zh_dX2_narrow_64_64 6 rfl) (zi_at zh_dX2_narrow_64_64 7 rfl) rfl
theorem dX2_narrow_72 : decode cX2_narrow 72 = .ok (.iload_n 1, 1) := zo_27 (zi_at zh_dX2_narrow_64_64 8 rfl)
theorem dX2_narrow_73 : decode cX2_narrow 73 = .ok (.aload_n 0, 1) := zo_42 (zi_at zh_dX2_narrow_64_64 9 rfl)
theorem dX2_narrow_74 : decode cX2_narrow 74 = .ok (.getfield 21, 3) := zo_180 (zi_at zh_dX2_narrow_64_64 10 rfl) (zi_at zh_dX2_narrow_64_64 11 rfl) (zi_at zh_dX2_narrow_64_64 12 rfl) rfl
theorem dX2_narrow_77 : decode cX2_narrow 77 = .ok (.iload_n 1, 1) := zo_27 (zi_at zh_dX2_narrow_64_64 13 rfl)
theorem dX2_narrow_78 : decode cX2_narrow 78 = .ok (.iaload, 1) := zo_46 (zi_at zh_dX2_narrow_64_64 14 rfl)
theorem dX2_narrow_79 : decode cX2_narrow 79 = .ok (.aload_n 2, 1) := zo_44 (zi_at zh_dX2_narrow_64_64 15 rfl)
theorem dX2_narrow_80 : decode cX2_narrow 80 = .ok (.getfield 105, 3) := zo_180 (zi_at zh_dX2_narrow_80_80 0 rfl) (zi_at zh_dX2_narrow_80_80 1 rfl) (zi_at zh_dX2_narrow_80_80 2 rfl) rfl
theorem dX2_narrow_83 : decode cX2_narrow 83 = .ok (.aload_n 2, 1) := zo_44 (zi_at zh_dX2_narrow_80_80 3 rfl)
theorem dX2_narrow_84 : decode cX2_narrow 84 = .ok (.getfield 108, 3) := zo_180 (zi_at zh_dX2_narrow_80_80 4 rfl) (zi_at zh_dX2_narrow_80_80 5 rfl) (zi_at zh_dX2_narrow_80_80 6 rfl) rfl
theorem dX2_narrow_87 : decode cX2_narrow 87 = .ok (.iadd, 1) := zo_96 (zi_at zh_dX2_narrow_80_80 7 rfl)
theorem dX2_narrow_88 : decode cX2_narrow 88 = .ok (.iload_n 3, 1) := zo_29 (zi_at zh_dX2_narrow_80_80 8 rfl)
theorem dX2_narrow_89 : decode cX2_narrow 89 = .ok (.iadd, 1) := zo_96 (zi_at zh_dX2_narrow_80_80 9 rfl)
theorem dX2_narrow_90 : decode cX2_narrow 90 = .ok (.invokestatic 110, 3) := zo_184 (zi_at zh_dX2_narrow_80_80 10 rfl) (zi_at zh_dX2_narrow_80_80 11 rfl) (zi_at zh_dX2_narrow_80_80 12 rfl) rfl
theorem dX2_narrow_93 : decode cX2_narrow 93 = .ok (.iastore, 1) := zo_79 (zi_at zh_dX2_narrow_80_80 13 rfl)
theorem dX2_narrow_94 : decode cX2_narrow 94 = .ok (.return_, 1) := zo_177 (zi_at zh_dX2_narrow_80_80 14 rfl)
theorem hz_yX5_swiftIn_1 : yX5_swiftIn.cls ≠ "java/lang/invoke/MethodHandle" ∧ yX5_swiftIn.cls ≠ "java/lang/invoke/VarHandle" ∧ (parseMethodDescriptor yX5_swiftIn.desc).map (fun d => d.parameters.length) = some 1 := by decide +kernel
theorem hz_yJ6_bitCount_0f7a4_1 : yJ6_bitCount_0f7a4.cls ≠ "java/lang/invoke/MethodHandle" ∧ yJ6_bitCount_0f7a4.cls ≠ "java/lang/invoke/VarHandle" ∧ (parseMethodDescriptor yJ6_bitCount_0f7a4.desc).map (fun d => d.parameters.length) = some 1 := by decide +kernel
theorem hz_yX2_narrow_3 : yX2_narrow.cls ≠ "java/lang/invoke/MethodHandle" ∧ yX2_narrow.cls ≠ "java/lang/invoke/VarHandle" ∧ (parseMethodDescriptor yX2_narrow.desc).map (fun d => d.parameters.length) = some 3 := by decide +kernel
def v_narrow : List Cond := .code yX2_narrow cX2_narrow 4 none :: vA
abbrev rm_narrow : Room := { frames := 1, cells := 0, slots := 0, locals := 40 }
def w_narrow : Nat → Nat → Bool := wl [38, 39, 40, 41] []
set_option maxHeartbeats 4000000 in
set_option maxRecDepth 100000 in
theorem q_narrow (l : Launch) (dC : Nat → ClassId) (dI : Nat → Nat → Nat) (cT : Nat → ClassId) (cf : Nat → Nat) (hC : CF cf) (ad : Nat → Nat) (E : Nat → va_E) (sz : Nat) (a0 : Int32) (a1 : Int32) (i : Nat) (hI0 : IXL cT (shC cf) (spC cf) (LC cf) ad E) (hh0 : i < cf 4) (hh1 : 0 ≤ a0.toInt ∧ a0.toInt ≤ 1) (hh2 : 0 ≤ a1.toInt ∧ a1.toInt ≤ 900000) : Met l yX2_narrow v_narrow rm_narrow (va_Pc [.ref (ad 5), .int a0, .ref (ad (64 * (i + 1) + 13)), .int a1] (HWL dC dI (TYC cT) cf ad E sz)) (va_Qv (S := Nat → va_E) (fun u => IXL cT (shC cf) (spC cf) (LC cf) ad u ∧ Kp w_narrow E u ∧ (True)) (HBL dC dI (LC cf) ad) (va_A (WL (LC cf) ad E) sz)) 0 0 (va_A (WL (LC cf) ad E) sz) := by
  obtain ⟨⟨hc0, hc1, hc2, hc3, hc4, hc5⟩, hcr⟩ := id hC
  refine Met.ofW (cc := cX2_narrow) (maxL := 4) (ret := none) (by decide) rfl ?_
  intro p e s m args below meth c s₁ B hml hv
  obtain ⟨hargs, hsz, hP, hK, hD0, hEV⟩ := hv
  subst hsz
  have hx := B.exec
  have hb := B.bytes
  have hr := B.returns
  have hts := atoms_spec (ws := v_narrow) B.pre
  have hown : s.vm.findClass RX2 = some m.cls := findClass_of_methodNamed B.named
  have hlocks := B.notSynchronized
  have hinX11 : ∀ w ∈ u_ws RX11 TX11 8, w ∈ v_narrow := fun w h => vA_in _ w (in_X11 w h)
  have hinX2 : ∀ w ∈ u_ws RX2 TX2 10, w ∈ v_narrow := fun w h => vA_in _ w (in_X2 w h)
  generalize hAe : va_A (WL (LC cf) ad E) s.heap.size = A at hEV ⊢
  have hA : ∀ q : Nat, s.heap.size ≤ q → A q := fun q h => by rw [← hAe]; exact Or.inr h
  have hD : va_D A (WL (LC cf) ad E) := by rw [← hAe]; exact hD0.self
  have hS : va_S A s.heap s.heap [] := va_S.rf
  have hI := hI0
  have hKp : Kp w_narrow E E := Kp.rf
  have hl := lv_entry ([.ref (ad 5), .int a0, .ref (ad (64 * (i + 1) + 13)), .int a1]) (n := 4) (Nat.le_of_ble_eq_true rfl)
  obtain ⟨Q, hQ⟩ : ∃ Q, Q = MQ below (va_Qv (S := Nat → va_E) (fun u => IXL cT (shC cf) (spC cf) (LC cf) ad u ∧ Kp w_narrow E u ∧ (True)) (HBL dC dI (LC cf) ad) (A)) args s 0 0 (A) := ⟨_, rfl⟩
  rw [← hQ, show entryFrame m args 4 = _ from (congrArg (fun z => entryFrame m z 4) hargs).trans (lg_entry_eq _ _ _)]
  generalize (lg_sl ([.ref (ad 5), .int a0, .ref (ad (64 * (i + 1) + 13)), .int a1]) ++ List.replicate (4 - (lg_sl ([.ref (ad 5), .int a0, .ref (ad (64 * (i + 1) + 13)), .int a1])).length) Slot.unset).toArray = ls at hl ⊢
  have hl : lv_has ls 4 [(0, .ref (ad 5)), (1, .int a0), (2, .ref (ad (64 * (i + 1) + 13))), (3, .int a1)] := hl
  refine lv_aload_n hx hb dX2_narrow_0 rfl (lv_at hl 0 rfl) ?_
  refine th_getL (ci := 3) (C := RX2) (T := TX2) (N := 10) (v := .ref (ad 38)) hx hb hts hinX2 hown hK hP hI 5 (mF 5 rfl) rfl rfl 1 (Nat.le_of_ble_eq_true rfl) (hts _ (vA_in _ _ (in_15 _ (zs1 (zs1 (zs0)))))) (fun _ h9 => h9) (hI.fr 5 (mF 5 rfl) rfl (Nat.le_of_ble_eq_true rfl) 38 rfl) dX2_narrow_1 ?_
  refine lv_iload_n hx hb dX2_narrow_4 rfl (lv_at hl 1 rfl) ?_
  refine lv_aload_n hx hb dX2_narrow_5 rfl (lv_at hl 0 rfl) ?_
  refine th_getL (ci := 3) (C := RX2) (T := TX2) (N := 10) (v := .ref (ad 38)) hx hb hts hinX2 hown hK hP hI 5 (mF 5 rfl) rfl rfl 1 (Nat.le_of_ble_eq_true rfl) (hts _ (vA_in _ _ (in_15 _ (zs1 (zs1 (zs0)))))) (fun _ h9 => h9) (hI.fr 5 (mF 5 rfl) rfl (Nat.le_of_ble_eq_true rfl) 38 rfl) dX2_narrow_6 ?_
  refine lv_iload_n hx hb dX2_narrow_9 rfl (lv_at hl 1 rfl) ?_
  have n2 : vp_in a0 2 := (iv_in (n := 2) hh1 (by decide))
  refine th_ialdL hx hb hK hP hI 38 (mF 38 rfl) rfl rfl n2 dX2_narrow_10 (fun y1 ey1 => ?_)
  have iy1 : 0 ≤ y1.toInt ∧ y1.toInt ≤ 99 := hI.el 38 (mF 38 rfl) rfl n2 (fun _ => rfl) ey1
  refine lv_aload_n hx hb dX2_narrow_11 rfl (lv_at hl 2 rfl) ?_
  have i3 : 0 ≤ (xi (E (64 * (i + 1) + 13)) 4).toInt ∧ (xi (E (64 * (i + 1) + 13)) 4).toInt ≤ 99 := hI0.iv (64 * (i + 1) + 13) (mP 13 i (by decide) hh0 (kl_le hC 4 (by decide))) (shC_p 13 i (by decide)) (Nat.le_of_ble_eq_true rfl) (spC_p 13 i (by decide) 4)
  refine th_getL (ci := 12) (C := RX11) (T := TX11) (N := 8) (v := .int (xi (E (64 * (i + 1) + 13)) 4)) hx hb hts hinX11 hown hK hP hI (64 * (i + 1) + 13) (mP 13 i (by decide) hh0 (kl_le hC 4 (by decide))) (shC_p 13 i (by decide)) rfl 4 (Nat.le_of_ble_eq_true rfl) (hts _ (vA_in _ _ (in_15 _ (zs16 (zs16 (zs1 (zs0))))))) (fun _ h9 => h9) (th_v0L hKp hI0 (64 * (i + 1) + 13) (mP 13 i (by decide) hh0 (kl_le hC 4 (by decide))) (shC_p 13 i (by decide)) (Nat.le_of_ble_eq_true rfl) (spC_p 13 i (by decide) 4) (wl_p rfl rfl (by omega))) dX2_narrow_12 ?_
  refine lv_iload_n hx hb dX2_narrow_15 rfl (lv_at hl 3 rfl) ?_
  refine lv_isub hx hb dX2_narrow_16 ?_
  refine lv_topi (fun y4 ey4 => ?_)
  obtain ⟨ty4, iy4⟩ := ti_sub (e := (-900000)) (f := 99) i3 hh2 ey4 (by decide)
  have ty4 : y4.toInt = (xi (E (64 * (i + 1) + 13)) 4).toInt - a1.toInt := ty4
  have iy4 : -900000 ≤ y4.toInt ∧ y4.toInt ≤ 99 := iy4
  refine va_mmax hx hb (by rw [hml]; exact hl.1.symm) hown (hts _ (vA_in _ _ (in_15 _ (zs16 (zs16 (zs1 (zs1 (zs0)))))))) (hts _ (vA_in _ _ (in_0 _ (zs16 (zs16 (zs0)))))) (hts _ (vA_in _ _ (in_0 _ (zs16 (zs16 (zs1 (zs0))))))) (hts _ (vA_in _ _ (in_0 _ (zs16 (zs16 (zs1 (zs1 (zs0)))))))) (Nat.le_of_ble_eq_true rfl) (Nat.le_of_ble_eq_true rfl) (Nat.le_of_ble_eq_true rfl) (Nat.le_of_ble_eq_true rfl) dX2_narrow_17 ?_
  refine lv_topi (fun y5 ey5 => ?_)
  obtain ⟨ty5, iy5⟩ := ti_max (e := 0) (f := 99) iy1 iy4 ey5 (by decide)
  have iy5 : 0 ≤ y5.toInt ∧ y5.toInt ≤ 99 := iy5
  have n6 : vp_in a0 2 := (iv_in (n := 2) hh1 (by decide))
  refine th_iastL hx hb hK hP (WL_D hD) hS hI 38 (mF 38 rfl) rfl rfl n6 (okI rfl iy5) dX2_narrow_20 (fun H locs E7 pw8 hI hP hS => ?_)
  have hKp := hKp.pw pw8 rfl
  refine lv_aload_n hx hb dX2_narrow_21 rfl (lv_at hl 0 rfl) ?_
  refine th_getL (ci := 3) (C := RX2) (T := TX2) (N := 10) (v := .ref (ad 40)) hx hb hts hinX2 hown hK hP hI 5 (mF 5 rfl) rfl rfl 3 (Nat.le_of_ble_eq_true rfl) (hts _ (vA_in _ _ (in_15 _ (zs4 (zs0))))) (fun _ h9 => h9) (hI.fr 5 (mF 5 rfl) rfl (Nat.le_of_ble_eq_true rfl) 40 rfl) dX2_narrow_22 ?_
  refine lv_iload_n hx hb dX2_narrow_25 rfl (lv_at hl 1 rfl) ?_
  refine lv_aload_n hx hb dX2_narrow_26 rfl (lv_at hl 0 rfl) ?_
  refine th_getL (ci := 3) (C := RX2) (T := TX2) (N := 10) (v := .ref (ad 40)) hx hb hts hinX2 hown hK hP hI 5 (mF 5 rfl) rfl rfl 3 (Nat.le_of_ble_eq_true rfl) (hts _ (vA_in _ _ (in_15 _ (zs4 (zs0))))) (fun _ h9 => h9) (hI.fr 5 (mF 5 rfl) rfl (Nat.le_of_ble_eq_true rfl) 40 rfl) dX2_narrow_27 ?_
  refine lv_iload_n hx hb dX2_narrow_30 rfl (lv_at hl 1 rfl) ?_
  have n10 : vp_in a0 2 := (iv_in (n := 2) hh1 (by decide))
  refine th_ialdL hx hb hK hP hI 40 (mF 40 rfl) rfl rfl n10 dX2_narrow_31 (fun y9 ey9 => ?_)
  have iy9 : 0 ≤ y9.toInt ∧ y9.toInt ≤ 99 := hI.el 40 (mF 40 rfl) rfl n10 (fun _ => rfl) ey9
  refine lv_aload_n hx hb dX2_narrow_32 rfl (lv_at hl 2 rfl) ?_
  have i11 : 0 ≤ (xi (E (64 * (i + 1) + 13)) 5).toInt ∧ (xi (E (64 * (i + 1) + 13)) 5).toInt ≤ 99 := hI0.iv (64 * (i + 1) + 13) (mP 13 i (by decide) hh0 (kl_le hC 4 (by decide))) (shC_p 13 i (by decide)) (Nat.le_of_ble_eq_true rfl) (spC_p 13 i (by decide) 5)
  refine th_getL (ci := 12) (C := RX11) (T := TX11) (N := 8) (v := .int (xi (E (64 * (i + 1) + 13)) 5)) hx hb hts hinX11 hown hK hP hI (64 * (i + 1) + 13) (mP 13 i (by decide) hh0 (kl_le hC 4 (by decide))) (shC_p 13 i (by decide)) rfl 5 (Nat.le_of_ble_eq_true rfl) (hts _ (vA_in _ _ (in_15 _ (zs16 (zs16 (zs1 (zs1 (zs1 (zs0))))))))) (fun _ h9 => h9) (th_v0L hKp hI0 (64 * (i + 1) + 13) (mP 13 i (by decide) hh0 (kl_le hC 4 (by decide))) (shC_p 13 i (by decide)) (Nat.le_of_ble_eq_true rfl) (spC_p 13 i (by decide) 5) (wl_p rfl rfl (by omega))) dX2_narrow_33 ?_
  refine lv_iload_n hx hb dX2_narrow_36 rfl (lv_at hl 3 rfl) ?_
  refine lv_isub hx hb dX2_narrow_37 ?_
  refine lv_topi (fun y12 ey12 => ?_)
  obtain ⟨ty12, iy12⟩ := ti_sub (e := (-900000)) (f := 99) i11 hh2 ey12 (by decide)
  have ty12 : y12.toInt = (xi (E (64 * (i + 1) + 13)) 5).toInt - a1.toInt := ty12
  have iy12 : -900000 ≤ y12.toInt ∧ y12.toInt ≤ 99 := iy12
  refine va_mmax hx hb (by rw [hml]; exact hl.1.symm) hown (hts _ (vA_in _ _ (in_15 _ (zs16 (zs16 (zs1 (zs1 (zs0)))))))) (hts _ (vA_in _ _ (in_0 _ (zs16 (zs16 (zs0)))))) (hts _ (vA_in _ _ (in_0 _ (zs16 (zs16 (zs1 (zs0))))))) (hts _ (vA_in _ _ (in_0 _ (zs16 (zs16 (zs1 (zs1 (zs0)))))))) (Nat.le_of_ble_eq_true rfl) (Nat.le_of_ble_eq_true rfl) (Nat.le_of_ble_eq_true rfl) (Nat.le_of_ble_eq_true rfl) dX2_narrow_38 ?_
  refine lv_topi (fun y13 ey13 => ?_)
  obtain ⟨ty13, iy13⟩ := ti_max (e := 0) (f := 99) iy9 iy12 ey13 (by decide)
  have iy13 : 0 ≤ y13.toInt ∧ y13.toInt ≤ 99 := iy13
  have n14 : vp_in a0 2 := (iv_in (n := 2) hh1 (by decide))
  refine th_iastL hx hb hK hP (WL_D hD) hS hI 40 (mF 40 rfl) rfl rfl n14 (okI rfl iy13) dX2_narrow_41 (fun H locs E15 pw16 hI hP hS => ?_)
  have hKp := hKp.pw pw16 rfl
  refine lv_aload_n hx hb dX2_narrow_42 rfl (lv_at hl 0 rfl) ?_
  refine th_getL (ci := 3) (C := RX2) (T := TX2) (N := 10) (v := .ref (ad 39)) hx hb hts hinX2 hown hK hP hI 5 (mF 5 rfl) rfl rfl 2 (Nat.le_of_ble_eq_true rfl) (hts _ (vA_in _ _ (in_15 _ (zs1 (zs1 (zs1 (zs0))))))) (fun _ h9 => h9) (hI.fr 5 (mF 5 rfl) rfl (Nat.le_of_ble_eq_true rfl) 39 rfl) dX2_narrow_43 ?_
  refine lv_iload_n hx hb dX2_narrow_46 rfl (lv_at hl 1 rfl) ?_
  refine lv_aload_n hx hb dX2_narrow_47 rfl (lv_at hl 0 rfl) ?_
  refine th_getL (ci := 3) (C := RX2) (T := TX2) (N := 10) (v := .ref (ad 39)) hx hb hts hinX2 hown hK hP hI 5 (mF 5 rfl) rfl rfl 2 (Nat.le_of_ble_eq_true rfl) (hts _ (vA_in _ _ (in_15 _ (zs1 (zs1 (zs1 (zs0))))))) (fun _ h9 => h9) (hI.fr 5 (mF 5 rfl) rfl (Nat.le_of_ble_eq_true rfl) 39 rfl) dX2_narrow_48 ?_
  refine lv_iload_n hx hb dX2_narrow_51 rfl (lv_at hl 1 rfl) ?_
  have n18 : vp_in a0 2 := (iv_in (n := 2) hh1 (by decide))
  refine th_ialdL hx hb hK hP hI 39 (mF 39 rfl) rfl rfl n18 dX2_narrow_52 (fun y17 ey17 => ?_)
  have iy17 : 0 ≤ y17.toInt ∧ y17.toInt ≤ 99 := hI.el 39 (mF 39 rfl) rfl n18 (fun _ => rfl) ey17
  refine lv_aload_n hx hb dX2_narrow_53 rfl (lv_at hl 2 rfl) ?_
  refine th_getL (ci := 12) (C := RX11) (T := TX11) (N := 8) (v := .int (xi (E (64 * (i + 1) + 13)) 4)) hx hb hts hinX11 hown hK hP hI (64 * (i + 1) + 13) (mP 13 i (by decide) hh0 (kl_le hC 4 (by decide))) (shC_p 13 i (by decide)) rfl 4 (Nat.le_of_ble_eq_true rfl) (hts _ (vA_in _ _ (in_15 _ (zs16 (zs16 (zs1 (zs0))))))) (fun _ h9 => h9) (th_v0L hKp hI0 (64 * (i + 1) + 13) (mP 13 i (by decide) hh0 (kl_le hC 4 (by decide))) (shC_p 13 i (by decide)) (Nat.le_of_ble_eq_true rfl) (spC_p 13 i (by decide) 4) (wl_p rfl rfl (by omega))) dX2_narrow_54 ?_
  refine lv_aload_n hx hb dX2_narrow_57 rfl (lv_at hl 2 rfl) ?_
  have i19 : 0 ≤ (xi (E (64 * (i + 1) + 13)) 6).toInt ∧ (xi (E (64 * (i + 1) + 13)) 6).toInt ≤ 3 := hI0.iv (64 * (i + 1) + 13) (mP 13 i (by decide) hh0 (kl_le hC 4 (by decide))) (shC_p 13 i (by decide)) (Nat.le_of_ble_eq_true rfl) (spC_p 13 i (by decide) 6)
  refine th_getL (ci := 12) (C := RX11) (T := TX11) (N := 8) (v := .int (xi (E (64 * (i + 1) + 13)) 6)) hx hb hts hinX11 hown hK hP hI (64 * (i + 1) + 13) (mP 13 i (by decide) hh0 (kl_le hC 4 (by decide))) (shC_p 13 i (by decide)) rfl 6 (Nat.le_of_ble_eq_true rfl) (hts _ (vA_in _ _ (in_15 _ (zs16 (zs16 (zs4 (zs0))))))) (fun _ h9 => h9) (th_v0L hKp hI0 (64 * (i + 1) + 13) (mP 13 i (by decide) hh0 (kl_le hC 4 (by decide))) (shC_p 13 i (by decide)) (Nat.le_of_ble_eq_true rfl) (spC_p 13 i (by decide) 6) (wl_p rfl rfl (by omega))) dX2_narrow_58 ?_
  refine lv_iadd hx hb dX2_narrow_61 ?_
  refine lv_topi (fun y20 ey20 => ?_)
  obtain ⟨ty20, iy20⟩ := ti_add (e := 0) (f := 102) i3 i19 ey20 (by decide)
  have ty20 : y20.toInt = (xi (E (64 * (i + 1) + 13)) 4).toInt + (xi (E (64 * (i + 1) + 13)) 6).toInt := ty20
  have iy20 : 0 ≤ y20.toInt ∧ y20.toInt ≤ 102 := iy20
  refine lv_iload_n hx hb dX2_narrow_62 rfl (lv_at hl 3 rfl) ?_
  refine lv_iadd hx hb dX2_narrow_63 ?_
  refine lv_topi (fun y21 ey21 => ?_)
  obtain ⟨ty21, iy21⟩ := ti_add (e := 0) (f := 900102) iy20 hh2 ey21 (by decide)
  have ty21 : y21.toInt = y20.toInt + a1.toInt := ty21
  have iy21 : 0 ≤ y21.toInt ∧ y21.toInt ≤ 900102 := iy21
  refine va_mmin hx hb (by rw [hml]; exact hl.1.symm) hown (hts _ (vA_in _ _ (in_15 _ (zs16 (zs16 (zs4 (zs1 (zs0)))))))) (hts _ (vA_in _ _ (in_0 _ (zs16 (zs16 (zs4 (zs0))))))) (hts _ (vA_in _ _ (in_0 _ (zs16 (zs16 (zs1 (zs0))))))) (hts _ (vA_in _ _ (in_0 _ (zs16 (zs16 (zs4 (zs1 (zs0)))))))) (Nat.le_of_ble_eq_true rfl) (Nat.le_of_ble_eq_true rfl) (Nat.le_of_ble_eq_true rfl) (Nat.le_of_ble_eq_true rfl) dX2_narrow_64 ?_
  refine lv_topi (fun y22 ey22 => ?_)
  obtain ⟨ty22, iy22⟩ := ti_min (e := 0) (f := 99) iy17 iy21 ey22 (by decide)
  have iy22 : 0 ≤ y22.toInt ∧ y22.toInt ≤ 99 := iy22
  have n23 : vp_in a0 2 := (iv_in (n := 2) hh1 (by decide))
  refine th_iastL hx hb hK hP (WL_D hD) hS hI 39 (mF 39 rfl) rfl rfl n23 (okI rfl iy22) dX2_narrow_67 (fun H locs E24 pw25 hI hP hS => ?_)
  have hKp := hKp.pw pw25 rfl
  refine lv_aload_n hx hb dX2_narrow_68 rfl (lv_at hl 0 rfl) ?_
  refine th_getL (ci := 3) (C := RX2) (T := TX2) (N := 10) (v := .ref (ad 41)) hx hb hts hinX2 hown hK hP hI 5 (mF 5 rfl) rfl rfl 4 (Nat.le_of_ble_eq_true rfl) (hts _ (vA_in _ _ (in_15 _ (zs4 (zs1 (zs0)))))) (fun _ h9 => h9) (hI.fr 5 (mF 5 rfl) rfl (Nat.le_of_ble_eq_true rfl) 41 rfl) dX2_narrow_69 ?_
  refine lv_iload_n hx hb dX2_narrow_72 rfl (lv_at hl 1 rfl) ?_
  refine lv_aload_n hx hb dX2_narrow_73 rfl (lv_at hl 0 rfl) ?_
  refine th_getL (ci := 3) (C := RX2) (T := TX2) (N := 10) (v := .ref (ad 41)) hx hb hts hinX2 hown hK hP hI 5 (mF 5 rfl) rfl rfl 4 (Nat.le_of_ble_eq_true rfl) (hts _ (vA_in _ _ (in_15 _ (zs4 (zs1 (zs0)))))) (fun _ h9 => h9) (hI.fr 5 (mF 5 rfl) rfl (Nat.le_of_ble_eq_true rfl) 41 rfl) dX2_narrow_74 ?_
  refine lv_iload_n hx hb dX2_narrow_77 rfl (lv_at hl 1 rfl) ?_
  have n27 : vp_in a0 2 := (iv_in (n := 2) hh1 (by decide))
  refine th_ialdL hx hb hK hP hI 41 (mF 41 rfl) rfl rfl n27 dX2_narrow_78 (fun y26 ey26 => ?_)
  have iy26 : 0 ≤ y26.toInt ∧ y26.toInt ≤ 99 := hI.el 41 (mF 41 rfl) rfl n27 (fun _ => rfl) ey26
  refine lv_aload_n hx hb dX2_narrow_79 rfl (lv_at hl 2 rfl) ?_
  refine th_getL (ci := 12) (C := RX11) (T := TX11) (N := 8) (v := .int (xi (E (64 * (i + 1) + 13)) 5)) hx hb hts hinX11 hown hK hP hI (64 * (i + 1) + 13) (mP 13 i (by decide) hh0 (kl_le hC 4 (by decide))) (shC_p 13 i (by decide)) rfl 5 (Nat.le_of_ble_eq_true rfl) (hts _ (vA_in _ _ (in_15 _ (zs16 (zs16 (zs1 (zs1 (zs1 (zs0))))))))) (fun _ h9 => h9) (th_v0L hKp hI0 (64 * (i + 1) + 13) (mP 13 i (by decide) hh0 (kl_le hC 4 (by decide))) (shC_p 13 i (by decide)) (Nat.le_of_ble_eq_true rfl) (spC_p 13 i (by decide) 5) (wl_p rfl rfl (by omega))) dX2_narrow_80 ?_
  refine lv_aload_n hx hb dX2_narrow_83 rfl (lv_at hl 2 rfl) ?_
  refine th_getL (ci := 12) (C := RX11) (T := TX11) (N := 8) (v := .int (xi (E (64 * (i + 1) + 13)) 6)) hx hb hts hinX11 hown hK hP hI (64 * (i + 1) + 13) (mP 13 i (by decide) hh0 (kl_le hC 4 (by decide))) (shC_p 13 i (by decide)) rfl 6 (Nat.le_of_ble_eq_true rfl) (hts _ (vA_in _ _ (in_15 _ (zs16 (zs16 (zs4 (zs0))))))) (fun _ h9 => h9) (th_v0L hKp hI0 (64 * (i + 1) + 13) (mP 13 i (by decide) hh0 (kl_le hC 4 (by decide))) (shC_p 13 i (by decide)) (Nat.le_of_ble_eq_true rfl) (spC_p 13 i (by decide) 6) (wl_p rfl rfl (by omega))) dX2_narrow_84 ?_
  refine lv_iadd hx hb dX2_narrow_87 ?_
  refine lv_topi (fun y28 ey28 => ?_)
  obtain ⟨ty28, iy28⟩ := ti_add (e := 0) (f := 102) i11 i19 ey28 (by decide)
  have ty28 : y28.toInt = (xi (E (64 * (i + 1) + 13)) 5).toInt + (xi (E (64 * (i + 1) + 13)) 6).toInt := ty28
  have iy28 : 0 ≤ y28.toInt ∧ y28.toInt ≤ 102 := iy28
  refine lv_iload_n hx hb dX2_narrow_88 rfl (lv_at hl 3 rfl) ?_
  refine lv_iadd hx hb dX2_narrow_89 ?_
  refine lv_topi (fun y29 ey29 => ?_)
  obtain ⟨ty29, iy29⟩ := ti_add (e := 0) (f := 900102) iy28 hh2 ey29 (by decide)
  have ty29 : y29.toInt = y28.toInt + a1.toInt := ty29
  have iy29 : 0 ≤ y29.toInt ∧ y29.toInt ≤ 900102 := iy29
  refine va_mmin hx hb (by rw [hml]; exact hl.1.symm) hown (hts _ (vA_in _ _ (in_15 _ (zs16 (zs16 (zs4 (zs1 (zs0)))))))) (hts _ (vA_in _ _ (in_0 _ (zs16 (zs16 (zs4 (zs0))))))) (hts _ (vA_in _ _ (in_0 _ (zs16 (zs16 (zs1 (zs0))))))) (hts _ (vA_in _ _ (in_0 _ (zs16 (zs16 (zs4 (zs1 (zs0)))))))) (Nat.le_of_ble_eq_true rfl) (Nat.le_of_ble_eq_true rfl) (Nat.le_of_ble_eq_true rfl) (Nat.le_of_ble_eq_true rfl) dX2_narrow_90 ?_
  refine lv_topi (fun y30 ey30 => ?_)
  obtain ⟨ty30, iy30⟩ := ti_min (e := 0) (f := 99) iy26 iy29 ey30 (by decide)
  have iy30 : 0 ≤ y30.toInt ∧ y30.toInt ≤ 99 := iy30
  have n31 : vp_in a0 2 := (iv_in (n := 2) hh1 (by decide))
  refine th_iastL hx hb hK hP (WL_D hD) hS hI 41 (mF 41 rfl) rfl rfl n31 (okI rfl iy30) dX2_narrow_93 (fun H locs E32 pw33 hI hP hS => ?_)
  have hKp := hKp.pw pw33 rfl
  rw [hQ]
  exact W.vret hx hb hr (fun t ht hW => ⟨⟨E32, rfl, ⟨hI, hKp, trivial⟩, by show va_P (dC, dI) vwCl (WL (LC cf) ad E32) t.heap; rw [ht]; exact hP⟩, hS.F ht⟩) hS.2.2 dX2_narrow_94
def v_statesOf : List Cond := .code yX2_statesOf cX2_statesOf 9 (some .int) :: vA
abbrev rm_statesOf : Room := { frames := 3, cells := 0, slots := 0, locals := 120 }
def w_statesOf : Nat → Nat → Bool := wl [38, 39, 40, 41, 42] []
set_option maxHeartbeats 4000000 in
set_option maxRecDepth 100000 in
theorem q_statesOf (l : Launch) (dC : Nat → ClassId) (dI : Nat → Nat → Nat) (cT : Nat → ClassId) (cf : Nat → Nat) (hC : CF cf) (ad : Nat → Nat) (E : Nat → va_E) (sz : Nat) (a0 : Int32) (a1 : Int32) (i : Nat) (hI0 : IXL cT (shC cf) (spC cf) (LC cf) ad E) (hh0 : i < cf 5) (hh1 : 0 ≤ a0.toInt ∧ a0.toInt ≤ 1) (hh2 : 0 ≤ a1.toInt ∧ a1.toInt ≤ 400) : Met l yX2_statesOf v_statesOf rm_statesOf (va_Pc [.ref (ad 5), .ref (ad (64 * (i + 1) + 14)), .int a0, .int a1] (HWL dC dI (TYC cT) cf ad E sz)) (va_Qi (S := Nat → va_E) (fun r u => IXL cT (shC cf) (spC cf) (LC cf) ad u ∧ Kp w_statesOf E u ∧ (True)) (HBL dC dI (LC cf) ad) (va_A (WL (LC cf) ad E) sz)) 0 0 (va_A (WL (LC cf) ad E) sz) := by
  obtain ⟨⟨hc0, hc1, hc2, hc3, hc4, hc5⟩, hcr⟩ := id hC
  refine Met.ofW (cc := cX2_statesOf) (maxL := 9) (ret := (some .int)) (by decide) rfl ?_
  intro p e s m args below meth c s₁ B hml hv
  obtain ⟨hargs, hsz, hP, hK, hD0, hEV⟩ := hv
  subst hsz
  have hx := B.exec
  have hb := B.bytes
  have hr := B.returns
  have hts := atoms_spec (ws := v_statesOf) B.pre
  have hown : s.vm.findClass RX2 = some m.cls := findClass_of_methodNamed B.named
  have hlocks := B.notSynchronized
  have hinX0 : ∀ w ∈ u_ws RX0 TX0 11, w ∈ v_statesOf := fun w h => vA_in _ w (in_X0 w h)
  have hinX11 : ∀ w ∈ u_ws RX11 TX11 8, w ∈ v_statesOf := fun w h => vA_in _ w (in_X11 w h)
  have hinX2 : ∀ w ∈ u_ws RX2 TX2 10, w ∈ v_statesOf := fun w h => vA_in _ w (in_X2 w h)
  have hinX4 : ∀ w ∈ u_ws RX4 TX4 10, w ∈ v_statesOf := fun w h => vA_in _ w (in_X4 w h)
  generalize hAe : va_A (WL (LC cf) ad E) s.heap.size = A at hEV ⊢
  have hA : ∀ q : Nat, s.heap.size ≤ q → A q := fun q h => by rw [← hAe]; exact Or.inr h
  have hD : va_D A (WL (LC cf) ad E) := by rw [← hAe]; exact hD0.self
  have hS : va_S A s.heap s.heap [] := va_S.rf
  have hI := hI0
  have hKp : Kp w_statesOf E E := Kp.rf
  have hl := lv_entry ([.ref (ad 5), .ref (ad (64 * (i + 1) + 14)), .int a0, .int a1]) (n := 9) (Nat.le_of_ble_eq_true rfl)
  obtain ⟨Q, hQ⟩ : ∃ Q, Q = MQ below (va_Qi (S := Nat → va_E) (fun r u => IXL cT (shC cf) (spC cf) (LC cf) ad u ∧ Kp w_statesOf E u ∧ (True)) (HBL dC dI (LC cf) ad) (A)) args s 0 0 (A) := ⟨_, rfl⟩
  rw [← hQ, show entryFrame m args 9 = _ from (congrArg (fun z => entryFrame m z 9) hargs).trans (lg_entry_eq _ _ _)]
  generalize (lg_sl ([.ref (ad 5), .ref (ad (64 * (i + 1) + 14)), .int a0, .int a1]) ++ List.replicate (9 - (lg_sl ([.ref (ad 5), .ref (ad (64 * (i + 1) + 14)), .int a0, .int a1])).length) Slot.unset).toArray = ls at hl ⊢
  have hl : lv_has ls 9 [(0, .ref (ad 5)), (1, .ref (ad (64 * (i + 1) + 14))), (2, .int a0), (3, .int a1)] := hl
  refine lv_iload_n hx hb dX2_statesOf_0 rfl (lv_at hl 2 rfl) ?_
  have hJ15 : ∀ (s15_0 : Int32) (H : Heap) (locs : List Loc) (ls : Array Slot), 0 ≤ s15_0.toInt ∧ s15_0.toInt ≤ 15 → va_P (dC, dI) vwCl (WL (LC cf) ad E) H → va_S A s.heap H locs → lv_has ls 9 [(0, .ref (ad 5)), (1, .ref (ad (64 * (i + 1) + 14))), (2, .int a0), (3, .int a1)] → W p l e (headSpec v_statesOf rm_statesOf).room s m args below meth c H locs 0 0 Q (F0 m 15 ls [.int s15_0]) := by
    intro s15_0 H locs ls hs15_0 hP hS hl
    refine lv_istore (lv' := [(4, .int s15_0), (0, .ref (ad 5)), (1, .ref (ad (64 * (i + 1) + 14))), (2, .int a0), (3, .int a1)]) hx hb dX2_statesOf_15 hl (by decide) rfl (fun ls hl => ?_)
    refine lv_aload_n hx hb dX2_statesOf_17 rfl (lv_at hl 1 rfl) ?_
    refine th_getL (ci := 3) (C := RX2) (T := TX2) (N := 10) (v := .ref (ad 1)) hx hb hts hinX2 hown hK hP hI 5 (mF 5 rfl) rfl rfl 0 (Nat.le_of_ble_eq_true rfl) (hts _ (vA_in _ _ (in_14 _ (zs16 (zs16 (zs1 (zs1 (zs0)))))))) (fun _ h9 => h9) (hI.fr 5 (mF 5 rfl) rfl (Nat.le_of_ble_eq_true rfl) 1 rfl) dX2_statesOf_18 ?_
    refine th_getL (ci := 1) (C := RX0) (T := TX0) (N := 11) (v := .ref (ad 9)) hx hb hts hinX0 hown hK hP hI 1 (mF 1 rfl) rfl rfl 5 (Nat.le_of_ble_eq_true rfl) (hts _ (vA_in _ _ (in_14 _ (zs16 (zs16 (zs1 (zs1 (zs1 (zs0))))))))) (fun _ h9 => h9) (hI.fr 1 (mF 1 rfl) rfl (Nat.le_of_ble_eq_true rfl) 9 rfl) dX2_statesOf_21 ?_
    refine lv_aload_n hx hb dX2_statesOf_24 rfl (lv_at hl 2 rfl) ?_
    have j2 : 0 ≤ (xi (E (64 * (i + 1) + 14)) 0).toInt ∧ (xi (E (64 * (i + 1) + 14)) 0).toInt ≤ ((cf 2 : Nat) : Int) - 1 := hI0.iv (64 * (i + 1) + 14) (mP 14 i (by decide) hh0 (kl_le hC 5 (by decide))) (shC_p 14 i (by decide)) (Nat.le_of_ble_eq_true rfl) (spC_p 14 i (by decide) 0)
    have i1 : 0 ≤ (xi (E (64 * (i + 1) + 14)) 0).toInt ∧ (xi (E (64 * (i + 1) + 14)) 0).toInt ≤ 19 := by omega
    refine th_getL (ci := 5) (C := RX4) (T := TX4) (N := 10) (v := .int (xi (E (64 * (i + 1) + 14)) 0)) hx hb hts hinX4 hown hK hP hI (64 * (i + 1) + 14) (mP 14 i (by decide) hh0 (kl_le hC 5 (by decide))) (shC_p 14 i (by decide)) rfl 0 (Nat.le_of_ble_eq_true rfl) (hts _ (vA_in _ _ (in_14 _ (zs16 (zs16 (zs4 (zs0))))))) (fun _ h9 => h9) (th_v0L hKp hI0 (64 * (i + 1) + 14) (mP 14 i (by decide) hh0 (kl_le hC 5 (by decide))) (shC_p 14 i (by decide)) (Nat.le_of_ble_eq_true rfl) (spC_p 14 i (by decide) 0) (wl_p rfl rfl (by omega))) dX2_statesOf_25 ?_
    refine th_rrL (va_runV (As := [.int (xi (E (64 * (i + 1) + 14)) 0)]) (rest := []) ⟨hx, hb, hml, hown, hts⟩ (q_get2 l dC dI cT cf hC ad E H.size (xi (E (64 * (i + 1) + 14)) 0) hI (by omega)) (cwV 1 hts (gi_V (in_15 _ (zs16 (zs4 (zs1 (zs0))))) (in_4 _ (zs16 (zs16 (zs4 (zs1 (zs1 (zs0))))))) (in_4 _ (zs16 (zs16 (zs4 (zs1 (zs1 (zs1 (zs0)))))))) (in_3 _ (zs16 (zs1 (zs1 (zs0))))) (in_3 _ (zs16 (zs16 (zs4 (zs1 (zs1 (zs1 (zs0))))))))) rfl rfl rfl ⟨rfl, hz_yJx4a65c_get_915e3_1⟩ ⟨Nat.le_of_ble_eq_true rfl, Nat.le_of_ble_eq_true rfl⟩) ⟨HWL_bl, va_recv hK hP (ci := 0) (q0 := posL 9 (LC cf)) rfl (hI.ob 9 (mF 9 rfl) rfl), (HWL_wi hP hK (WL_D hD) hS hA hEV)⟩ rfl rfl hl.1 rfl (lv_room (Nat.le_of_ble_eq_true rfl)) dX2_statesOf_28 ⟨Nat.le_of_ble_eq_true rfl, Nat.le_of_ble_eq_true rfl⟩) hS hP (fun r3 H locs hw hP hS => ?_)
    obtain rfl := hw
    have lv4 : (xi (E (64 * (i + 1) + 14)) 0).toNatClampNeg < cf 2 := by rw [tn_]; omega
    refine va_castS (cC := dC 6) hx hb hown (hts _ (vA_in _ _ (in_14 _ (zs16 (zs16 (zs4 (zs1 (zs0)))))))) (hK.1 6 _ rfl).2 (va_recv hK hP (ci := 6) (q0 := posL (64 * ((xi (E (64 * (i + 1) + 14)) 0).toNatClampNeg + 1) + 6) (LC cf)) rfl (hI.ob (64 * ((xi (E (64 * (i + 1) + 14)) 0).toNatClampNeg + 1) + 6) (mP 6 ((xi (E (64 * (i + 1) + 14)) 0).toNatClampNeg) (by decide) lv4 (kl_le hC 2 (by decide))) (shC_p 6 ((xi (E (64 * (i + 1) + 14)) 0).toNatClampNeg) (by decide)))) dX2_statesOf_31 ?_
    refine lv_iload_n hx hb dX2_statesOf_34 rfl (lv_at hl 4 rfl) ?_
    refine th_riL (va_runV (As := [.int a1]) (rest := []) ⟨hx, hb, hml, hown, hts⟩ (q_swiftIn l dC dI cT cf hC ad E H.size a1 ((xi (E (64 * (i + 1) + 14)) 0).toNatClampNeg) hI (by omega) hh2) (cwV 1 hts (gi_V (in_15 _ (zs16 (zs4 (zs1 (zs1 (zs0)))))) (in_15 _ (zs16 (zs4 (zs1 (zs1 (zs1 (zs0))))))) (in_15 _ (zs16 (zs4 (zs4 (zs0))))) (in_6 _ (zs16 (zs1 (zs0)))) (in_15 _ (zs16 (zs4 (zs4 (zs1 (zs0))))))) rfl rfl rfl ⟨rfl, hz_yX5_swiftIn_1⟩ ⟨Nat.le_of_ble_eq_true rfl, Nat.le_of_ble_eq_true rfl⟩) ⟨HWL_bl, va_recv hK hP (ci := 6) (q0 := posL (64 * ((xi (E (64 * (i + 1) + 14)) 0).toNatClampNeg + 1) + 6) (LC cf)) rfl (hI.ob (64 * ((xi (E (64 * (i + 1) + 14)) 0).toNatClampNeg + 1) + 6) (mP 6 ((xi (E (64 * (i + 1) + 14)) 0).toNatClampNeg) (by decide) lv4 (kl_le hC 2 (by decide))) (shC_p 6 ((xi (E (64 * (i + 1) + 14)) 0).toNatClampNeg) (by decide))), (HWL_wi hP hK (WL_D hD) hS hA hEV)⟩ rfl rfl hl.1 rfl (lv_room (Nat.le_of_ble_eq_true rfl)) dX2_statesOf_35 ⟨Nat.le_of_ble_eq_true rfl, Nat.le_of_ble_eq_true rfl⟩) hS hP (fun r5 H locs hw hP hS => ?_)
    have f6 := hw
    refine lv_istore (lv' := [(5, .int r5), (4, .int s15_0), (0, .ref (ad 5)), (1, .ref (ad (64 * (i + 1) + 14))), (2, .int a0), (3, .int a1)]) hx hb dX2_statesOf_38 hl (by decide) rfl (fun ls hl => ?_)
    refine lv_iconst (v := 0) hx hb dX2_statesOf_40 (by decide) ?_
    refine lv_istore (lv' := [(6, .int 0), (5, .int r5), (4, .int s15_0), (0, .ref (ad 5)), (1, .ref (ad (64 * (i + 1) + 14))), (2, .int a0), (3, .int a1)]) hx hb dX2_statesOf_41 hl (by decide) rfl (fun ls hl => ?_)
    refine lv_aload_n hx hb dX2_statesOf_43 rfl (lv_at hl 3 rfl) ?_
    refine th_getL (ci := 3) (C := RX2) (T := TX2) (N := 10) (v := .ref (ad 38)) hx hb hts hinX2 hown hK hP hI 5 (mF 5 rfl) rfl rfl 1 (Nat.le_of_ble_eq_true rfl) (hts _ (vA_in _ _ (in_15 _ (zs1 (zs1 (zs0)))))) (fun _ h9 => h9) (hI.fr 5 (mF 5 rfl) rfl (Nat.le_of_ble_eq_true rfl) 38 rfl) dX2_statesOf_44 ?_
    refine lv_iload_n hx hb dX2_statesOf_47 rfl (lv_at hl 5 rfl) ?_
    refine lv_iconst (v := 0) hx hb dX2_statesOf_48 (by decide) ?_
    have n7 : vp_in a0 2 := (iv_in (n := 2) hh1 (by decide))
    refine th_iastL hx hb hK hP (WL_D hD) hS hI 38 (mF 38 rfl) rfl rfl n7 (okI rfl (iv_w ln_0 (by decide))) dX2_statesOf_49 (fun H locs E8 pw9 hI hP hS => ?_)
    have hKp := hKp.pw pw9 rfl
    refine lv_aload_n hx hb dX2_statesOf_50 rfl (lv_at hl 3 rfl) ?_
    refine th_getL (ci := 3) (C := RX2) (T := TX2) (N := 10) (v := .ref (ad 40)) hx hb hts hinX2 hown hK hP hI 5 (mF 5 rfl) rfl rfl 3 (Nat.le_of_ble_eq_true rfl) (hts _ (vA_in _ _ (in_15 _ (zs4 (zs0))))) (fun _ h9 => h9) (hI.fr 5 (mF 5 rfl) rfl (Nat.le_of_ble_eq_true rfl) 40 rfl) dX2_statesOf_51 ?_
    refine lv_iload_n hx hb dX2_statesOf_54 rfl (lv_at hl 5 rfl) ?_
    refine lv_iconst (v := 0) hx hb dX2_statesOf_55 (by decide) ?_
    have n10 : vp_in a0 2 := (iv_in (n := 2) hh1 (by decide))
    refine th_iastL hx hb hK hP (WL_D hD) hS hI 40 (mF 40 rfl) rfl rfl n10 (okI rfl (iv_w ln_0 (by decide))) dX2_statesOf_56 (fun H locs E11 pw12 hI hP hS => ?_)
    have hKp := hKp.pw pw12 rfl
    refine lv_aload_n hx hb dX2_statesOf_57 rfl (lv_at hl 3 rfl) ?_
    refine th_getL (ci := 3) (C := RX2) (T := TX2) (N := 10) (v := .ref (ad 39)) hx hb hts hinX2 hown hK hP hI 5 (mF 5 rfl) rfl rfl 2 (Nat.le_of_ble_eq_true rfl) (hts _ (vA_in _ _ (in_15 _ (zs1 (zs1 (zs1 (zs0))))))) (fun _ h9 => h9) (hI.fr 5 (mF 5 rfl) rfl (Nat.le_of_ble_eq_true rfl) 39 rfl) dX2_statesOf_58 ?_
    refine lv_iload_n hx hb dX2_statesOf_61 rfl (lv_at hl 5 rfl) ?_
    refine lv_bipush (v := 99) hx hb dX2_statesOf_62 (by decide) ?_
    have n13 : vp_in a0 2 := (iv_in (n := 2) hh1 (by decide))
    refine th_iastL hx hb hK hP (WL_D hD) hS hI 39 (mF 39 rfl) rfl rfl n13 (okI rfl (iv_w ln_99 (by decide))) dX2_statesOf_64 (fun H locs E14 pw15 hI hP hS => ?_)
    have hKp := hKp.pw pw15 rfl
    refine lv_aload_n hx hb dX2_statesOf_65 rfl (lv_at hl 3 rfl) ?_
    refine th_getL (ci := 3) (C := RX2) (T := TX2) (N := 10) (v := .ref (ad 41)) hx hb hts hinX2 hown hK hP hI 5 (mF 5 rfl) rfl rfl 4 (Nat.le_of_ble_eq_true rfl) (hts _ (vA_in _ _ (in_15 _ (zs4 (zs1 (zs0)))))) (fun _ h9 => h9) (hI.fr 5 (mF 5 rfl) rfl (Nat.le_of_ble_eq_true rfl) 41 rfl) dX2_statesOf_66 ?_
    refine lv_iload_n hx hb dX2_statesOf_69 rfl (lv_at hl 5 rfl) ?_
    refine lv_bipush (v := 99) hx hb dX2_statesOf_70 (by decide) ?_
    have n16 : vp_in a0 2 := (iv_in (n := 2) hh1 (by decide))
    refine th_iastL hx hb hK hP (WL_D hD) hS hI 41 (mF 41 rfl) rfl rfl n16 (okI rfl (iv_w ln_99 (by decide))) dX2_statesOf_72 (fun H locs E17 pw18 hI hP hS => ?_)
    have hKp := hKp.pw pw18 rfl
    refine lv_aload_n hx hb dX2_statesOf_73 rfl (lv_at hl 3 rfl) ?_
    refine th_getL (ci := 3) (C := RX2) (T := TX2) (N := 10) (v := .ref (ad 42)) hx hb hts hinX2 hown hK hP hI 5 (mF 5 rfl) rfl rfl 5 (Nat.le_of_ble_eq_true rfl) (hts _ (vA_in _ _ (in_15 _ (zs4 (zs4 (zs4 (zs0))))))) (fun _ h9 => h9) (hI.fr 5 (mF 5 rfl) rfl (Nat.le_of_ble_eq_true rfl) 42 rfl) dX2_statesOf_74 ?_
    refine lv_iload_n hx hb dX2_statesOf_77 rfl (lv_at hl 5 rfl) ?_
    refine lv_sipush (v := 255) hx hb dX2_statesOf_78 (by decide) ?_
    have n19 : vp_in a0 2 := (iv_in (n := 2) hh1 (by decide))
    refine th_iastL hx hb hK hP (WL_D hD) hS hI 42 (mF 42 rfl) rfl rfl n19 (okI rfl (iv_w ln_255 (by decide))) dX2_statesOf_81 (fun H locs E20 pw21 hI hP hS => ?_)
    have hKp := hKp.pw pw21 rfl
    refine lv_iconst (v := 0) hx hb dX2_statesOf_82 (by decide) ?_
    refine lv_istore (lv' := [(7, .int 0), (6, .int 0), (5, .int r5), (4, .int s15_0), (0, .ref (ad 5)), (1, .ref (ad (64 * (i + 1) + 14))), (2, .int a0), (3, .int a1)]) hx hb dX2_statesOf_83 hl (by decide) rfl (fun ls hl => ?_)
    have hL85 : ∀ d : Nat, ∀ (v85_7 : Int32) (v85_6 : Int32) (E85_ : Nat → va_E) (H : Heap) (locs : List Loc) (ls : Array Slot), 0 ≤ v85_7.toInt ∧ v85_7.toInt ≤ 200 → 0 ≤ v85_6.toInt ∧ v85_6.toInt ≤ 1 → 200 - v85_7.toInt < (d : Int) → IXL cT (shC cf) (spC cf) (LC cf) ad E85_ → Kp w_statesOf E E85_ → va_P (dC, dI) vwCl (WL (LC cf) ad E85_) H → va_S A s.heap H locs → lv_has ls 9 [(7, .int v85_7), (6, .int v85_6), (5, .int r5), (4, .int s15_0), (0, .ref (ad 5)), (1, .ref (ad (64 * (i + 1) + 14))), (2, .int a0), (3, .int a1)] → W p l e (headSpec v_statesOf rm_statesOf).room s m args below meth c H locs 0 0 Q (F0 m 85 ls []) := by
      intro d
      induction d with
      | zero =>
        intro v85_7 v85_6 E85_ H locs ls hv85_7 hv85_6 hx85_0 hI hKp hP hS hl
        exact absurd hx85_0 (by first | exact ms_zu hv85_7.2 | omega)
      | succ d ih85 =>
        intro v85_7 v85_6 E85_ H locs ls hv85_7 hv85_6 hx85_0 hI hKp hP hS hl
        refine lv_iload hx hb dX2_statesOf_85 (lv_at hl 0 rfl) ?_
        refine lv_aload_n hx hb dX2_statesOf_87 rfl (lv_at hl 4 rfl) ?_
        refine th_getL (ci := 3) (C := RX2) (T := TX2) (N := 10) (v := .ref (ad 1)) hx hb hts hinX2 hown hK hP hI 5 (mF 5 rfl) rfl rfl 0 (Nat.le_of_ble_eq_true rfl) (hts _ (vA_in _ _ (in_14 _ (zs16 (zs16 (zs1 (zs1 (zs0)))))))) (fun _ h9 => h9) (hI.fr 5 (mF 5 rfl) rfl (Nat.le_of_ble_eq_true rfl) 1 rfl) dX2_statesOf_88 ?_
        refine th_getL (ci := 1) (C := RX0) (T := TX0) (N := 11) (v := .ref (ad 11)) hx hb hts hinX0 hown hK hP hI 1 (mF 1 rfl) rfl rfl 7 (Nat.le_of_ble_eq_true rfl) (hts _ (vA_in _ _ (in_15 _ (zs4 (zs4 (zs4 (zs1 (zs0)))))))) (fun _ h9 => h9) (hI.fr 1 (mF 1 rfl) rfl (Nat.le_of_ble_eq_true rfl) 11 rfl) dX2_statesOf_91 ?_
        refine th_riL (va_runV (As := []) (rest := [.int v85_7]) ⟨hx, hb, hml, hown, hts⟩ (q_size4 l dC dI cT cf hC ad E85_ H.size hI) (cwV 0 hts (gi_V (in_15 _ (zs16 (zs4 (zs4 (zs4 (zs0)))))) (in_4 _ (zs16 (zs16 (zs1 (zs1 (zs1 (zs0))))))) (in_4 _ (zs16 (zs16 (zs4 (zs0))))) (in_3 _ (zs16 (zs1 (zs1 (zs0))))) (in_4 _ (zs16 (zs1 (zs1 (zs1 (zs0))))))) rfl rfl rfl ⟨rfl, hz_yJx4a65c_size_8abf5_0⟩ ⟨Nat.le_of_ble_eq_true rfl, Nat.le_of_ble_eq_true rfl⟩) ⟨HWL_bl, va_recv hK hP (ci := 0) (q0 := posL 11 (LC cf)) rfl (hI.ob 11 (mF 11 rfl) rfl), (HWL_wi hP hK (WL_D hD) hS hA hEV)⟩ rfl rfl hl.1 rfl (lv_room (Nat.le_of_ble_eq_true rfl)) dX2_statesOf_94 ⟨Nat.le_of_ble_eq_true rfl, Nat.le_of_ble_eq_true rfl⟩) hS hP (fun r22 H locs hw hP hS => ?_)
        obtain ⟨f23, f24⟩ := hw
        refine lv_icmp_ge (tgt := 208) hx hb dX2_statesOf_97 (by decide) (fun c25 => ?_) (fun c25 => ?_)
        · --97 taken
          have t26 : r22.toInt ≤ v85_7.toInt := ti_le c25
          refine lv_iload hx hb dX2_statesOf_208 (lv_at hl 1 rfl) ?_
          refine lv_if_eq (tgt := 243) hx hb dX2_statesOf_210 (by decide) (fun c27 => ?_) (fun c27 => ?_)
          · --210 taken
            have t28 : v85_6.toInt = 0 := ti_eq c27
            have i29 : 0 ≤ v85_6.toInt ∧ v85_6.toInt ≤ 0 := iv_eqi t28 hv85_6 (il_ 0) (by decide)
            refine lv_iconst (v := 0) hx hb dX2_statesOf_243 (by decide) ?_
            rw [hQ]
            exact W.iret (v := 0) hx hb hr (fun t ht hW => ⟨⟨0, E85_, rfl, ⟨hI, hKp, trivial⟩, by show va_P (dC, dI) vwCl (WL (LC cf) ad E85_) t.heap; rw [ht]; exact hP⟩, hS.F ht⟩) hS.2.2 dX2_statesOf_244
          · --210 not
            have t30 : ¬ v85_6.toInt = 0 := ti_ne c27
            have i31 : 1 ≤ v85_6.toInt ∧ v85_6.toInt ≤ 1 := iv_ne_l t30 hv85_6 (il_ 0)
            refine lv_aload_n hx hb dX2_statesOf_213 rfl (lv_at hl 4 rfl) ?_
            refine th_getL (ci := 3) (C := RX2) (T := TX2) (N := 10) (v := .ref (ad 38)) hx hb hts hinX2 hown hK hP hI 5 (mF 5 rfl) rfl rfl 1 (Nat.le_of_ble_eq_true rfl) (hts _ (vA_in _ _ (in_15 _ (zs1 (zs1 (zs0)))))) (fun _ h9 => h9) (hI.fr 5 (mF 5 rfl) rfl (Nat.le_of_ble_eq_true rfl) 38 rfl) dX2_statesOf_214 ?_
            refine lv_iload_n hx hb dX2_statesOf_217 rfl (lv_at hl 6 rfl) ?_
            have n33 : vp_in a0 2 := (iv_in (n := 2) hh1 (by decide))
            refine th_ialdL hx hb hK hP hI 38 (mF 38 rfl) rfl rfl n33 dX2_statesOf_218 (fun y32 ey32 => ?_)
            have iy32 : 0 ≤ y32.toInt ∧ y32.toInt ≤ 99 := hI.el 38 (mF 38 rfl) rfl n33 (fun _ => rfl) ey32
            refine lv_aload_n hx hb dX2_statesOf_219 rfl (lv_at hl 4 rfl) ?_
            refine th_getL (ci := 3) (C := RX2) (T := TX2) (N := 10) (v := .ref (ad 39)) hx hb hts hinX2 hown hK hP hI 5 (mF 5 rfl) rfl rfl 2 (Nat.le_of_ble_eq_true rfl) (hts _ (vA_in _ _ (in_15 _ (zs1 (zs1 (zs1 (zs0))))))) (fun _ h9 => h9) (hI.fr 5 (mF 5 rfl) rfl (Nat.le_of_ble_eq_true rfl) 39 rfl) dX2_statesOf_220 ?_
            refine lv_iload_n hx hb dX2_statesOf_223 rfl (lv_at hl 6 rfl) ?_
            have n35 : vp_in a0 2 := (iv_in (n := 2) hh1 (by decide))
            refine th_ialdL hx hb hK hP hI 39 (mF 39 rfl) rfl rfl n35 dX2_statesOf_224 (fun y34 ey34 => ?_)
            have iy34 : 0 ≤ y34.toInt ∧ y34.toInt ≤ 99 := hI.el 39 (mF 39 rfl) rfl n35 (fun _ => rfl) ey34
            refine lv_icmp_gt (tgt := 243) hx hb dX2_statesOf_225 (by decide) (fun c36 => ?_) (fun c36 => ?_)
            · --225 taken
              have t37 : y34.toInt < y32.toInt := ti_lt c36
              have i38 : 0 ≤ y34.toInt ∧ y34.toInt ≤ 98 := iv_lt_l t37 iy34 iy32 (by decide)
              have i39 : 1 ≤ y32.toInt ∧ y32.toInt ≤ 99 := iv_lt_r t37 iy34 iy32 (by decide)
              refine lv_iconst (v := 0) hx hb dX2_statesOf_243 (by decide) ?_
              rw [hQ]
              exact W.iret (v := 0) hx hb hr (fun t ht hW => ⟨⟨0, E85_, rfl, ⟨hI, hKp, trivial⟩, by show va_P (dC, dI) vwCl (WL (LC cf) ad E85_) t.heap; rw [ht]; exact hP⟩, hS.F ht⟩) hS.2.2 dX2_statesOf_244
            · --225 not
              have t40 : y32.toInt ≤ y34.toInt := ti_nlt c36
              refine lv_aload_n hx hb dX2_statesOf_228 rfl (lv_at hl 4 rfl) ?_
              refine th_getL (ci := 3) (C := RX2) (T := TX2) (N := 10) (v := .ref (ad 40)) hx hb hts hinX2 hown hK hP hI 5 (mF 5 rfl) rfl rfl 3 (Nat.le_of_ble_eq_true rfl) (hts _ (vA_in _ _ (in_15 _ (zs4 (zs0))))) (fun _ h9 => h9) (hI.fr 5 (mF 5 rfl) rfl (Nat.le_of_ble_eq_true rfl) 40 rfl) dX2_statesOf_229 ?_
              refine lv_iload_n hx hb dX2_statesOf_232 rfl (lv_at hl 6 rfl) ?_
              have n42 : vp_in a0 2 := (iv_in (n := 2) hh1 (by decide))
              refine th_ialdL hx hb hK hP hI 40 (mF 40 rfl) rfl rfl n42 dX2_statesOf_233 (fun y41 ey41 => ?_)
              have iy41 : 0 ≤ y41.toInt ∧ y41.toInt ≤ 99 := hI.el 40 (mF 40 rfl) rfl n42 (fun _ => rfl) ey41
              refine lv_aload_n hx hb dX2_statesOf_234 rfl (lv_at hl 4 rfl) ?_
              refine th_getL (ci := 3) (C := RX2) (T := TX2) (N := 10) (v := .ref (ad 41)) hx hb hts hinX2 hown hK hP hI 5 (mF 5 rfl) rfl rfl 4 (Nat.le_of_ble_eq_true rfl) (hts _ (vA_in _ _ (in_15 _ (zs4 (zs1 (zs0)))))) (fun _ h9 => h9) (hI.fr 5 (mF 5 rfl) rfl (Nat.le_of_ble_eq_true rfl) 41 rfl) dX2_statesOf_235 ?_
              refine lv_iload_n hx hb dX2_statesOf_238 rfl (lv_at hl 6 rfl) ?_
              have n44 : vp_in a0 2 := (iv_in (n := 2) hh1 (by decide))
              refine th_ialdL hx hb hK hP hI 41 (mF 41 rfl) rfl rfl n44 dX2_statesOf_239 (fun y43 ey43 => ?_)
              have iy43 : 0 ≤ y43.toInt ∧ y43.toInt ≤ 99 := hI.el 41 (mF 41 rfl) rfl n44 (fun _ => rfl) ey43
              refine lv_icmp_le (tgt := 245) hx hb dX2_statesOf_240 (by decide) (fun c45 => ?_) (fun c45 => ?_)
              · --240 taken
                have t46 : y41.toInt ≤ y43.toInt := ti_le c45
                refine lv_aload_n hx hb dX2_statesOf_245 rfl (lv_at hl 4 rfl) ?_
                refine th_getL (ci := 3) (C := RX2) (T := TX2) (N := 10) (v := .ref (ad 39)) hx hb hts hinX2 hown hK hP hI 5 (mF 5 rfl) rfl rfl 2 (Nat.le_of_ble_eq_true rfl) (hts _ (vA_in _ _ (in_15 _ (zs1 (zs1 (zs1 (zs0))))))) (fun _ h9 => h9) (hI.fr 5 (mF 5 rfl) rfl (Nat.le_of_ble_eq_true rfl) 39 rfl) dX2_statesOf_246 ?_
                refine lv_iload_n hx hb dX2_statesOf_249 rfl (lv_at hl 6 rfl) ?_
                have n48 : vp_in a0 2 := (iv_in (n := 2) hh1 (by decide))
                refine th_ialdL hx hb hK hP hI 39 (mF 39 rfl) rfl rfl n48 dX2_statesOf_250 (fun y47 ey47 => ?_)
                have iy47 : 0 ≤ y47.toInt ∧ y47.toInt ≤ 99 := hI.el 39 (mF 39 rfl) rfl n48 (fun _ => rfl) ey47
                refine lv_aload_n hx hb dX2_statesOf_251 rfl (lv_at hl 4 rfl) ?_
                refine th_getL (ci := 3) (C := RX2) (T := TX2) (N := 10) (v := .ref (ad 38)) hx hb hts hinX2 hown hK hP hI 5 (mF 5 rfl) rfl rfl 1 (Nat.le_of_ble_eq_true rfl) (hts _ (vA_in _ _ (in_15 _ (zs1 (zs1 (zs0)))))) (fun _ h9 => h9) (hI.fr 5 (mF 5 rfl) rfl (Nat.le_of_ble_eq_true rfl) 38 rfl) dX2_statesOf_252 ?_
                refine lv_iload_n hx hb dX2_statesOf_255 rfl (lv_at hl 6 rfl) ?_
                have n50 : vp_in a0 2 := (iv_in (n := 2) hh1 (by decide))
                refine th_ialdL hx hb hK hP hI 38 (mF 38 rfl) rfl rfl n50 dX2_statesOf_256 (fun y49 ey49 => ?_)
                have iy49 : 0 ≤ y49.toInt ∧ y49.toInt ≤ 99 := hI.el 38 (mF 38 rfl) rfl n50 (fun _ => rfl) ey49
                refine lv_isub hx hb dX2_statesOf_257 ?_
                refine lv_topi (fun y51 ey51 => ?_)
                obtain ⟨ty51, iy51⟩ := ti_sub (e := (-99)) (f := 99) iy47 iy49 ey51 (by decide)
                have ty51 : y51.toInt = y47.toInt - y49.toInt := ty51
                have iy51 : -99 ≤ y51.toInt ∧ y51.toInt ≤ 99 := iy51
                refine lv_iconst (v := 1) hx hb dX2_statesOf_258 (by decide) ?_
                refine lv_iadd hx hb dX2_statesOf_259 ?_
                refine lv_topi (fun y52 ey52 => ?_)
                obtain ⟨ty52, iy52⟩ := ti_add (e := (-98)) (f := 100) iy51 ln_1 ey52 (by decide)
                have ty52 : y52.toInt = y51.toInt + 1 := ty52
                have iy52 : -98 ≤ y52.toInt ∧ y52.toInt ≤ 100 := iy52
                refine lv_aload_n hx hb dX2_statesOf_260 rfl (lv_at hl 4 rfl) ?_
                refine th_getL (ci := 3) (C := RX2) (T := TX2) (N := 10) (v := .ref (ad 41)) hx hb hts hinX2 hown hK hP hI 5 (mF 5 rfl) rfl rfl 4 (Nat.le_of_ble_eq_true rfl) (hts _ (vA_in _ _ (in_15 _ (zs4 (zs1 (zs0)))))) (fun _ h9 => h9) (hI.fr 5 (mF 5 rfl) rfl (Nat.le_of_ble_eq_true rfl) 41 rfl) dX2_statesOf_261 ?_
                refine lv_iload_n hx hb dX2_statesOf_264 rfl (lv_at hl 6 rfl) ?_
                have n54 : vp_in a0 2 := (iv_in (n := 2) hh1 (by decide))
                refine th_ialdL hx hb hK hP hI 41 (mF 41 rfl) rfl rfl n54 dX2_statesOf_265 (fun y53 ey53 => ?_)
                have iy53 : 0 ≤ y53.toInt ∧ y53.toInt ≤ 99 := hI.el 41 (mF 41 rfl) rfl n54 (fun _ => rfl) ey53
                refine lv_aload_n hx hb dX2_statesOf_266 rfl (lv_at hl 4 rfl) ?_
                refine th_getL (ci := 3) (C := RX2) (T := TX2) (N := 10) (v := .ref (ad 40)) hx hb hts hinX2 hown hK hP hI 5 (mF 5 rfl) rfl rfl 3 (Nat.le_of_ble_eq_true rfl) (hts _ (vA_in _ _ (in_15 _ (zs4 (zs0))))) (fun _ h9 => h9) (hI.fr 5 (mF 5 rfl) rfl (Nat.le_of_ble_eq_true rfl) 40 rfl) dX2_statesOf_267 ?_
                refine lv_iload_n hx hb dX2_statesOf_270 rfl (lv_at hl 6 rfl) ?_
                have n56 : vp_in a0 2 := (iv_in (n := 2) hh1 (by decide))
                refine th_ialdL hx hb hK hP hI 40 (mF 40 rfl) rfl rfl n56 dX2_statesOf_271 (fun y55 ey55 => ?_)
                have iy55 : 0 ≤ y55.toInt ∧ y55.toInt ≤ 99 := hI.el 40 (mF 40 rfl) rfl n56 (fun _ => rfl) ey55
                refine lv_isub hx hb dX2_statesOf_272 ?_
                refine lv_topi (fun y57 ey57 => ?_)
                obtain ⟨ty57, iy57⟩ := ti_sub (e := (-99)) (f := 99) iy53 iy55 ey57 (by decide)
                have ty57 : y57.toInt = y53.toInt - y55.toInt := ty57
                have iy57 : -99 ≤ y57.toInt ∧ y57.toInt ≤ 99 := iy57
                refine lv_iconst (v := 1) hx hb dX2_statesOf_273 (by decide) ?_
                refine lv_iadd hx hb dX2_statesOf_274 ?_
                refine lv_topi (fun y58 ey58 => ?_)
                obtain ⟨ty58, iy58⟩ := ti_add (e := (-98)) (f := 100) iy57 ln_1 ey58 (by decide)
                have ty58 : y58.toInt = y57.toInt + 1 := ty58
                have iy58 : -98 ≤ y58.toInt ∧ y58.toInt ≤ 100 := iy58
                refine lv_imul hx hb dX2_statesOf_275 ?_
                refine lv_topi (fun y59 ey59 => ?_)
                obtain ⟨ty59, iy59⟩ := ti_mul (e := (-9800)) (f := 10000) iy52 iy58 ey59 (by decide)
                have ty59 : y59.toInt = y52.toInt * y58.toInt := ty59
                have iy59 : -9800 ≤ y59.toInt ∧ y59.toInt ≤ 10000 := iy59
                refine lv_istore (lv' := [(7, .int y59), (6, .int v85_6), (5, .int r5), (4, .int s15_0), (0, .ref (ad 5)), (1, .ref (ad (64 * (i + 1) + 14))), (2, .int a0), (3, .int a1)]) hx hb dX2_statesOf_276 hl (by decide) rfl (fun ls hl => ?_)
                refine lv_iload hx hb dX2_statesOf_278 (lv_at hl 0 rfl) ?_
                refine lv_aload_n hx hb dX2_statesOf_280 rfl (lv_at hl 4 rfl) ?_
                refine th_getL (ci := 3) (C := RX2) (T := TX2) (N := 10) (v := .ref (ad 42)) hx hb hts hinX2 hown hK hP hI 5 (mF 5 rfl) rfl rfl 5 (Nat.le_of_ble_eq_true rfl) (hts _ (vA_in _ _ (in_15 _ (zs4 (zs4 (zs4 (zs0))))))) (fun _ h9 => h9) (hI.fr 5 (mF 5 rfl) rfl (Nat.le_of_ble_eq_true rfl) 42 rfl) dX2_statesOf_281 ?_
                refine lv_iload_n hx hb dX2_statesOf_284 rfl (lv_at hl 6 rfl) ?_
                have n61 : vp_in a0 2 := (iv_in (n := 2) hh1 (by decide))
                refine th_ialdL hx hb hK hP hI 42 (mF 42 rfl) rfl rfl n61 dX2_statesOf_285 (fun y60 ey60 => ?_)
                have iy60 : 0 ≤ y60.toInt ∧ y60.toInt ≤ 255 := hI.el 42 (mF 42 rfl) rfl n61 (fun _ => rfl) ey60
                refine th_pi (va_runS (As := [.int y60]) (rest := [.int y59]) ⟨hx, hb, hml, hown, hts⟩ (q_bitCount l y60 (iv_w iy60 (by decide))) (va_cwS 1 hts (gi_S (in_15 _ (zs16 (zs16 (zs4 (zs1 (zs1 (zs0))))))) (in_4 _ (zs16 (zs4 (zs4 (zs1 (zs1 (zs0))))))) (in_4 _ (zs16 (zs4 (zs4 (zs1 (zs1 (zs1 (zs0)))))))) (in_2 _ (zs4 (zs4 (zs1 (zs1 (zs0))))))) rfl rfl rfl hz_yJ6_bitCount_0f7a4_1 ⟨Nat.le_of_ble_eq_true rfl, Nat.le_of_ble_eq_true rfl⟩) ⟨fun _ _ _ _ q => q, fun _ _ _ => ⟨rfl, trivial⟩⟩ rfl rfl hl.1 rfl (lv_room (Nat.le_of_ble_eq_true rfl)) dX2_statesOf_286 ⟨Nat.le_of_ble_eq_true rfl, Nat.le_of_ble_eq_true rfl⟩) hS (fun r62 H1 locs1 hw hk1 hS => ?_)
                have hP := ub_keep hP hk1
                generalize H1 = H at hP hS ⊢
                generalize locs1 = locs at hS ⊢
                have f63 := hw
                refine lv_imul hx hb dX2_statesOf_289 ?_
                refine lv_topi (fun y64 ey64 => ?_)
                rw [hQ]
                exact W.iret (v := y64) hx hb hr (fun t ht hW => ⟨⟨y64, E85_, rfl, ⟨hI, hKp, trivial⟩, by show va_P (dC, dI) vwCl (WL (LC cf) ad E85_) t.heap; rw [ht]; exact hP⟩, hS.F ht⟩) hS.2.2 dX2_statesOf_290
              · --240 not
                have t65 : y43.toInt < y41.toInt := ti_nle c45
                have i66 : 0 ≤ y43.toInt ∧ y43.toInt ≤ 98 := iv_lt_l t65 iy43 iy41 (by decide)
                have i67 : 1 ≤ y41.toInt ∧ y41.toInt ≤ 99 := iv_lt_r t65 iy43 iy41 (by decide)
                refine lv_iconst (v := 0) hx hb dX2_statesOf_243 (by decide) ?_
                rw [hQ]
                exact W.iret (v := 0) hx hb hr (fun t ht hW => ⟨⟨0, E85_, rfl, ⟨hI, hKp, trivial⟩, by show va_P (dC, dI) vwCl (WL (LC cf) ad E85_) t.heap; rw [ht]; exact hP⟩, hS.F ht⟩) hS.2.2 dX2_statesOf_244
        · --97 not
          have t68 : v85_7.toInt < r22.toInt := ti_nle c25
          have i69 : 0 ≤ v85_7.toInt ∧ v85_7.toInt ≤ 199 := iv_lt_l t68 hv85_7 f23 (by decide)
          have i70 : 1 ≤ r22.toInt ∧ r22.toInt ≤ 200 := iv_lt_r t68 hv85_7 f23 (by decide)
          refine lv_aload_n hx hb dX2_statesOf_100 rfl (lv_at hl 4 rfl) ?_
          refine th_getL (ci := 3) (C := RX2) (T := TX2) (N := 10) (v := .ref (ad 1)) hx hb hts hinX2 hown hK hP hI 5 (mF 5 rfl) rfl rfl 0 (Nat.le_of_ble_eq_true rfl) (hts _ (vA_in _ _ (in_14 _ (zs16 (zs16 (zs1 (zs1 (zs0)))))))) (fun _ h9 => h9) (hI.fr 5 (mF 5 rfl) rfl (Nat.le_of_ble_eq_true rfl) 1 rfl) dX2_statesOf_101 ?_
          refine th_getL (ci := 1) (C := RX0) (T := TX0) (N := 11) (v := .ref (ad 11)) hx hb hts hinX0 hown hK hP hI 1 (mF 1 rfl) rfl rfl 7 (Nat.le_of_ble_eq_true rfl) (hts _ (vA_in _ _ (in_15 _ (zs4 (zs4 (zs4 (zs1 (zs0)))))))) (fun _ h9 => h9) (hI.fr 1 (mF 1 rfl) rfl (Nat.le_of_ble_eq_true rfl) 11 rfl) dX2_statesOf_104 ?_
          refine lv_iload hx hb dX2_statesOf_107 (lv_at hl 0 rfl) ?_
          refine th_rrL (va_runV (As := [.int v85_7]) (rest := []) ⟨hx, hb, hml, hown, hts⟩ (q_get4 l dC dI cT cf hC ad E85_ H.size v85_7 hI (by omega)) (cwV 1 hts (gi_V (in_15 _ (zs16 (zs4 (zs1 (zs0))))) (in_4 _ (zs16 (zs16 (zs4 (zs1 (zs1 (zs0))))))) (in_4 _ (zs16 (zs16 (zs4 (zs1 (zs1 (zs1 (zs0)))))))) (in_3 _ (zs16 (zs1 (zs1 (zs0))))) (in_3 _ (zs16 (zs16 (zs4 (zs1 (zs1 (zs1 (zs0))))))))) rfl rfl rfl ⟨rfl, hz_yJx4a65c_get_915e3_1⟩ ⟨Nat.le_of_ble_eq_true rfl, Nat.le_of_ble_eq_true rfl⟩) ⟨HWL_bl, va_recv hK hP (ci := 0) (q0 := posL 11 (LC cf)) rfl (hI.ob 11 (mF 11 rfl) rfl), (HWL_wi hP hK (WL_D hD) hS hA hEV)⟩ rfl rfl hl.1 rfl (lv_room (Nat.le_of_ble_eq_true rfl)) dX2_statesOf_109 ⟨Nat.le_of_ble_eq_true rfl, Nat.le_of_ble_eq_true rfl⟩) hS hP (fun r71 H locs hw hP hS => ?_)
          obtain rfl := hw
          have lv72 : v85_7.toNatClampNeg < cf 4 := by rw [tn_]; omega
          refine va_castS (cC := dC 12) hx hb hown (hts _ (vA_in _ _ (in_15 _ (zs4 (zs4 (zs4 (zs1 (zs1 (zs0))))))))) (hK.1 12 _ rfl).2 (va_recv hK hP (ci := 12) (q0 := posL (64 * (v85_7.toNatClampNeg + 1) + 13) (LC cf)) rfl (hI.ob (64 * (v85_7.toNatClampNeg + 1) + 13) (mP 13 v85_7.toNatClampNeg (by decide) lv72 (kl_le hC 4 (by decide))) (shC_p 13 v85_7.toNatClampNeg (by decide)))) dX2_statesOf_112 ?_
          refine lv_astore (lv' := [(8, .ref (ad (64 * (v85_7.toNatClampNeg + 1) + 13))), (7, .int v85_7), (6, .int v85_6), (5, .int r5), (4, .int s15_0), (0, .ref (ad 5)), (1, .ref (ad (64 * (i + 1) + 14))), (2, .int a0), (3, .int a1)]) hx hb dX2_statesOf_115 hl (by decide) rfl (fun ls hl => ?_)
          refine lv_aload hx hb dX2_statesOf_117 (lv_at hl 0 rfl) ?_
          have i73 : 0 ≤ (xi (E (64 * (v85_7.toNatClampNeg + 1) + 13)) 0).toInt ∧ (xi (E (64 * (v85_7.toNatClampNeg + 1) + 13)) 0).toInt ≤ 19 := hI0.iv (64 * (v85_7.toNatClampNeg + 1) + 13) (mP 13 v85_7.toNatClampNeg (by decide) lv72 (kl_le hC 4 (by decide))) (shC_p 13 v85_7.toNatClampNeg (by decide)) (Nat.le_of_ble_eq_true rfl) (spC_p 13 v85_7.toNatClampNeg (by decide) 0)
          refine th_getL (ci := 12) (C := RX11) (T := TX11) (N := 8) (v := .int (xi (E (64 * (v85_7.toNatClampNeg + 1) + 13)) 0)) hx hb hts hinX11 hown hK hP hI (64 * (v85_7.toNatClampNeg + 1) + 13) (mP 13 v85_7.toNatClampNeg (by decide) lv72 (kl_le hC 4 (by decide))) (shC_p 13 v85_7.toNatClampNeg (by decide)) rfl 0 (Nat.le_of_ble_eq_true rfl) (hts _ (vA_in _ _ (in_15 _ (zs4 (zs4 (zs4 (zs1 (zs1 (zs1 (zs0)))))))))) (fun _ h9 => h9) (th_v0L hKp hI0 (64 * (v85_7.toNatClampNeg + 1) + 13) (mP 13 v85_7.toNatClampNeg (by decide) lv72 (kl_le hC 4 (by decide))) (shC_p 13 v85_7.toNatClampNeg (by decide)) (Nat.le_of_ble_eq_true rfl) (spC_p 13 v85_7.toNatClampNeg (by decide) 0) (wl_p rfl rfl (by omega))) dX2_statesOf_119 ?_
          refine lv_aload_n hx hb dX2_statesOf_122 rfl (lv_at hl 6 rfl) ?_
          refine th_getL (ci := 5) (C := RX4) (T := TX4) (N := 10) (v := .int (xi (E (64 * (i + 1) + 14)) 0)) hx hb hts hinX4 hown hK hP hI (64 * (i + 1) + 14) (mP 14 i (by decide) hh0 (kl_le hC 5 (by decide))) (shC_p 14 i (by decide)) rfl 0 (Nat.le_of_ble_eq_true rfl) (hts _ (vA_in _ _ (in_14 _ (zs16 (zs16 (zs4 (zs0))))))) (fun _ h9 => h9) (th_v0L hKp hI0 (64 * (i + 1) + 14) (mP 14 i (by decide) hh0 (kl_le hC 5 (by decide))) (shC_p 14 i (by decide)) (Nat.le_of_ble_eq_true rfl) (spC_p 14 i (by decide) 0) (wl_p rfl rfl (by omega))) dX2_statesOf_123 ?_
          refine lv_icmp_ne (tgt := 202) hx hb dX2_statesOf_126 (by decide) (fun c74 => ?_) (fun c74 => ?_)
          · --126 taken
            have t75 : ¬ (xi (E (64 * (v85_7.toNatClampNeg + 1) + 13)) 0).toInt = (xi (E (64 * (i + 1) + 14)) 0).toInt := ti_ne c74
            obtain ⟨y76, ey76⟩ : ∃ y : Int32, y = v85_7 + (1 : Int32) := ⟨_, rfl⟩
            obtain ⟨ty76, iy76⟩ := ti_add (e := 1) (f := 200) i69 ln_1 ey76 (by decide)
            have ty76 : y76.toInt = v85_7.toInt + 1 := ty76
            have iy76 : 1 ≤ y76.toInt ∧ y76.toInt ≤ 200 := iy76
            refine lv_iinc (v := y76) (lv' := [(7, .int y76), (8, .ref (ad (64 * (v85_7.toNatClampNeg + 1) + 13))), (6, .int v85_6), (5, .int r5), (4, .int s15_0), (0, .ref (ad 5)), (1, .ref (ad (64 * (i + 1) + 14))), (2, .int a0), (3, .int a1)]) hx hb dX2_statesOf_202 hl (k := 1) rfl (by rw [ey76]; rfl) (by decide) rfl (fun ls hl => ?_)
            refine lv_goto (tgt := 85) hx hb dX2_statesOf_205 (by decide) ?_
            exact ih85 y76 v85_6 E85_ _ _ _ (iv_w iy76 (by decide)) hv85_6 (by first | exact ms_su hx85_0 ty76 (by decide) | omega) hI hKp hP hS (lv_sub hl [0, 2, 3, 4, 5, 6, 7, 8] rfl)
          · --126 not
            have t77 : (xi (E (64 * (v85_7.toNatClampNeg + 1) + 13)) 0).toInt = (xi (E (64 * (i + 1) + 14)) 0).toInt := ti_eq c74
            refine lv_aload hx hb dX2_statesOf_129 (lv_at hl 0 rfl) ?_
            have i78 : 0 ≤ (xi (E (64 * (v85_7.toNatClampNeg + 1) + 13)) 1).toInt ∧ (xi (E (64 * (v85_7.toNatClampNeg + 1) + 13)) 1).toInt ≤ 15 := hI0.iv (64 * (v85_7.toNatClampNeg + 1) + 13) (mP 13 v85_7.toNatClampNeg (by decide) lv72 (kl_le hC 4 (by decide))) (shC_p 13 v85_7.toNatClampNeg (by decide)) (Nat.le_of_ble_eq_true rfl) (spC_p 13 v85_7.toNatClampNeg (by decide) 1)
            refine th_getL (ci := 12) (C := RX11) (T := TX11) (N := 8) (v := .int (xi (E (64 * (v85_7.toNatClampNeg + 1) + 13)) 1)) hx hb hts hinX11 hown hK hP hI (64 * (v85_7.toNatClampNeg + 1) + 13) (mP 13 v85_7.toNatClampNeg (by decide) lv72 (kl_le hC 4 (by decide))) (shC_p 13 v85_7.toNatClampNeg (by decide)) rfl 1 (Nat.le_of_ble_eq_true rfl) (hts _ (vA_in _ _ (in_15 _ (zs16 (zs0))))) (fun _ h9 => h9) (th_v0L hKp hI0 (64 * (v85_7.toNatClampNeg + 1) + 13) (mP 13 v85_7.toNatClampNeg (by decide) lv72 (kl_le hC 4 (by decide))) (shC_p 13 v85_7.toNatClampNeg (by decide)) (Nat.le_of_ble_eq_true rfl) (spC_p 13 v85_7.toNatClampNeg (by decide) 1) (wl_p rfl rfl (by omega))) dX2_statesOf_131 ?_
            refine lv_iload hx hb dX2_statesOf_134 (lv_at hl 4 rfl) ?_
            refine lv_icmp_ne (tgt := 202) hx hb dX2_statesOf_136 (by decide) (fun c79 => ?_) (fun c79 => ?_)
            · --136 taken
              have t80 : ¬ (xi (E (64 * (v85_7.toNatClampNeg + 1) + 13)) 1).toInt = s15_0.toInt := ti_ne c79
              obtain ⟨y81, ey81⟩ : ∃ y : Int32, y = v85_7 + (1 : Int32) := ⟨_, rfl⟩
              obtain ⟨ty81, iy81⟩ := ti_add (e := 1) (f := 200) i69 ln_1 ey81 (by decide)
              have ty81 : y81.toInt = v85_7.toInt + 1 := ty81
              have iy81 : 1 ≤ y81.toInt ∧ y81.toInt ≤ 200 := iy81
              refine lv_iinc (v := y81) (lv' := [(7, .int y81), (8, .ref (ad (64 * (v85_7.toNatClampNeg + 1) + 13))), (6, .int v85_6), (5, .int r5), (4, .int s15_0), (0, .ref (ad 5)), (1, .ref (ad (64 * (i + 1) + 14))), (2, .int a0), (3, .int a1)]) hx hb dX2_statesOf_202 hl (k := 1) rfl (by rw [ey81]; rfl) (by decide) rfl (fun ls hl => ?_)
              refine lv_goto (tgt := 85) hx hb dX2_statesOf_205 (by decide) ?_
              exact ih85 y81 v85_6 E85_ _ _ _ (iv_w iy81 (by decide)) hv85_6 (by first | exact ms_su hx85_0 ty81 (by decide) | omega) hI hKp hP hS (lv_sub hl [0, 2, 3, 4, 5, 6, 7, 8] rfl)
            · --136 not
              have t82 : (xi (E (64 * (v85_7.toNatClampNeg + 1) + 13)) 1).toInt = s15_0.toInt := ti_eq c79
              refine lv_aload hx hb dX2_statesOf_139 (lv_at hl 0 rfl) ?_
              have i83 : 0 ≤ (xi (E (64 * (v85_7.toNatClampNeg + 1) + 13)) 2).toInt ∧ (xi (E (64 * (v85_7.toNatClampNeg + 1) + 13)) 2).toInt ≤ 400 := hI0.iv (64 * (v85_7.toNatClampNeg + 1) + 13) (mP 13 v85_7.toNatClampNeg (by decide) lv72 (kl_le hC 4 (by decide))) (shC_p 13 v85_7.toNatClampNeg (by decide)) (Nat.le_of_ble_eq_true rfl) (spC_p 13 v85_7.toNatClampNeg (by decide) 2)
              refine th_getL (ci := 12) (C := RX11) (T := TX11) (N := 8) (v := .int (xi (E (64 * (v85_7.toNatClampNeg + 1) + 13)) 2)) hx hb hts hinX11 hown hK hP hI (64 * (v85_7.toNatClampNeg + 1) + 13) (mP 13 v85_7.toNatClampNeg (by decide) lv72 (kl_le hC 4 (by decide))) (shC_p 13 v85_7.toNatClampNeg (by decide)) rfl 2 (Nat.le_of_ble_eq_true rfl) (hts _ (vA_in _ _ (in_15 _ (zs16 (zs1 (zs0)))))) (fun _ h9 => h9) (th_v0L hKp hI0 (64 * (v85_7.toNatClampNeg + 1) + 13) (mP 13 v85_7.toNatClampNeg (by decide) lv72 (kl_le hC 4 (by decide))) (shC_p 13 v85_7.toNatClampNeg (by decide)) (Nat.le_of_ble_eq_true rfl) (spC_p 13 v85_7.toNatClampNeg (by decide) 2) (wl_p rfl rfl (by omega))) dX2_statesOf_141 ?_
              refine lv_iload_n hx hb dX2_statesOf_144 rfl (lv_at hl 8 rfl) ?_
              refine lv_icmp_le (tgt := 151) hx hb dX2_statesOf_145 (by decide) (fun c84 => ?_) (fun c84 => ?_)
              · --145 taken
                have t85 : (xi (E (64 * (v85_7.toNatClampNeg + 1) + 13)) 2).toInt ≤ a1.toInt := ti_le c84
                refine lv_aload_n hx hb dX2_statesOf_151 rfl (lv_at hl 5 rfl) ?_
                refine lv_iload_n hx hb dX2_statesOf_152 rfl (lv_at hl 7 rfl) ?_
                refine lv_aload hx hb dX2_statesOf_153 (lv_at hl 0 rfl) ?_
                refine lv_iload hx hb dX2_statesOf_155 (lv_at hl 3 rfl) ?_
                refine lv_aload hx hb dX2_statesOf_157 (lv_at hl 0 rfl) ?_
                have i86 : 0 ≤ (xi (E (64 * (v85_7.toNatClampNeg + 1) + 13)) 3).toInt ∧ (xi (E (64 * (v85_7.toNatClampNeg + 1) + 13)) 3).toInt ≤ 100000 := hI0.iv (64 * (v85_7.toNatClampNeg + 1) + 13) (mP 13 v85_7.toNatClampNeg (by decide) lv72 (kl_le hC 4 (by decide))) (shC_p 13 v85_7.toNatClampNeg (by decide)) (Nat.le_of_ble_eq_true rfl) (spC_p 13 v85_7.toNatClampNeg (by decide) 3)
                refine th_getL (ci := 12) (C := RX11) (T := TX11) (N := 8) (v := .int (xi (E (64 * (v85_7.toNatClampNeg + 1) + 13)) 3)) hx hb hts hinX11 hown hK hP hI (64 * (v85_7.toNatClampNeg + 1) + 13) (mP 13 v85_7.toNatClampNeg (by decide) lv72 (kl_le hC 4 (by decide))) (shC_p 13 v85_7.toNatClampNeg (by decide)) rfl 3 (Nat.le_of_ble_eq_true rfl) (hts _ (vA_in _ _ (in_15 _ (zs16 (zs1 (zs1 (zs0))))))) (fun _ h9 => h9) (th_v0L hKp hI0 (64 * (v85_7.toNatClampNeg + 1) + 13) (mP 13 v85_7.toNatClampNeg (by decide) lv72 (kl_le hC 4 (by decide))) (shC_p 13 v85_7.toNatClampNeg (by decide)) (Nat.le_of_ble_eq_true rfl) (spC_p 13 v85_7.toNatClampNeg (by decide) 3) (wl_p rfl rfl (by omega))) dX2_statesOf_159 ?_
                refine lv_aload_n hx hb dX2_statesOf_162 rfl (lv_at hl 6 rfl) ?_
                have i87 : 0 ≤ (xi (E (64 * (i + 1) + 14)) 3).toInt ∧ (xi (E (64 * (i + 1) + 14)) 3).toInt ≤ 100000 := hI0.iv (64 * (i + 1) + 14) (mP 14 i (by decide) hh0 (kl_le hC 5 (by decide))) (shC_p 14 i (by decide)) (Nat.le_of_ble_eq_true rfl) (spC_p 14 i (by decide) 3)
                refine th_getL (ci := 5) (C := RX4) (T := TX4) (N := 10) (v := .int (xi (E (64 * (i + 1) + 14)) 3)) hx hb hts hinX4 hown hK hP hI (64 * (i + 1) + 14) (mP 14 i (by decide) hh0 (kl_le hC 5 (by decide))) (shC_p 14 i (by decide)) rfl 3 (Nat.le_of_ble_eq_true rfl) (hts _ (vA_in _ _ (in_15 _ (zs16 (zs1 (zs1 (zs1 (zs0)))))))) (fun _ h9 => h9) (th_v0L hKp hI0 (64 * (i + 1) + 14) (mP 14 i (by decide) hh0 (kl_le hC 5 (by decide))) (shC_p 14 i (by decide)) (Nat.le_of_ble_eq_true rfl) (spC_p 14 i (by decide) 3) (wl_p rfl rfl (by omega))) dX2_statesOf_163 ?_
                refine th_pi (va_runSN (As := [.int (xi (E (64 * (v85_7.toNatClampNeg + 1) + 13)) 3), .int (xi (E (64 * (i + 1) + 14)) 3)]) (rest := [.int r5, .ref (ad (64 * (v85_7.toNatClampNeg + 1) + 13)), .int a0, .ref (ad 5)]) ⟨hx, hb, hml, hown, hts⟩ (q_capart l (xi (E (64 * (v85_7.toNatClampNeg + 1) + 13)) 3) (xi (E (64 * (i + 1) + 14)) 3)) ⟨va_cnB 2 hts (gi_0 (in_10 _ (zs4 (zs4 (zs4 (zs1 (zs1 (zs1 (zs0))))))))) rfl rfl rfl (hEV.1.1 _ (List.mem_of_getElem? (i := 4) rfl)) (hts _ (vA_in _ _ (in_4 _ (zs16 (zs4 (zs1 (zs1 (zs1 (zs0))))))))) hz_yX12_apart_2 ⟨Nat.le_of_ble_eq_true rfl, Nat.le_of_ble_eq_true rfl⟩, (hts _ (vA_in _ _ (in_13 _ (zs16 (zs4 (zs4 (zs1 (zs0)))))))), trivial⟩ ⟨fun _ _ _ _ q => q, fun _ _ _ => ⟨rfl, trivial⟩⟩ rfl rfl hl.1 rfl (lv_room (Nat.le_of_ble_eq_true rfl)) dX2_statesOf_166 ⟨Nat.le_of_ble_eq_true rfl, Nat.le_of_ble_eq_true rfl⟩) hS (fun r88 H1 locs1 hw hk1 hS => ?_)
                have hP := ub_keep hP hk1
                generalize H1 = H at hP hS ⊢
                generalize locs1 = locs at hS ⊢
                have f89 := hw
                have i90 : 0 ≤ r88.toInt ∧ r88.toInt ≤ 100000 := by rcases f89 with h9 | h9 <;> (have h8 := ti_sub (e := -1000000) (f := 1000000) (a := 0) (b := 100000) (c := 0) (d := 100000) (by omega) (by omega) h9.2 (by decide); omega)
                refine lv_imul hx hb dX2_statesOf_169 ?_
                refine lv_topi (fun y91 ey91 => ?_)
                obtain ⟨ty91, iy91⟩ := ti_mul (e := 0) (f := 900000) f6 i90 ey91 (by decide)
                have ty91 : y91.toInt = r5.toInt * r88.toInt := ty91
                have iy91 : 0 ≤ y91.toInt ∧ y91.toInt ≤ 900000 := iy91
                refine th_vL (va_runV (As := [.int a0, .ref (ad (64 * (v85_7.toNatClampNeg + 1) + 13)), .int y91]) (rest := []) ⟨hx, hb, hml, hown, hts⟩ (q_narrow l dC dI cT cf hC ad E85_ H.size a0 y91 v85_7.toNatClampNeg hI (by omega) hh1 iy91) (cwV 3 hts (gi_V (in_15 _ (zs16 (zs4 (zs4 (zs4 (zs1 (zs0))))))) (in_15 _ (zs16 (zs4 (zs4 (zs4 (zs1 (zs1 (zs0)))))))) (in_15 _ (zs16 (zs4 (zs4 (zs4 (zs1 (zs1 (zs1 (zs0))))))))) (in_14 _ (zs16 (zs16 (zs0)))) (in_15 _ (zs16 (zs16 (zs0))))) rfl rfl rfl ⟨rfl, hz_yX2_narrow_3⟩ ⟨Nat.le_of_ble_eq_true rfl, Nat.le_of_ble_eq_true rfl⟩) ⟨HWL_bl, va_recv hK hP (ci := 3) (q0 := posL 5 (LC cf)) rfl (hI.ob 5 (mF 5 rfl) rfl), (HWL_wi hP hK (WL_D hD) hS hA hEV)⟩ rfl rfl hl.1 rfl (lv_room (Nat.le_of_ble_eq_true rfl)) dX2_statesOf_170 ⟨Nat.le_of_ble_eq_true rfl, Nat.le_of_ble_eq_true rfl⟩) (WL_D hD) hS hA (fun E93 H locs hw hP hS => ?_)
                obtain ⟨hI, kq94, hw⟩ := hw
                have hKb := hKp
                have hKp := hKp.tr kq94 (wl_sub rfl rfl)
                refine lv_aload hx hb dX2_statesOf_173 (lv_at hl 0 rfl) ?_
                refine th_getL (ci := 12) (C := RX11) (T := TX11) (N := 8) (v := .int (xi (E (64 * (v85_7.toNatClampNeg + 1) + 13)) 3)) hx hb hts hinX11 hown hK hP hI (64 * (v85_7.toNatClampNeg + 1) + 13) (mP 13 v85_7.toNatClampNeg (by decide) lv72 (kl_le hC 4 (by decide))) (shC_p 13 v85_7.toNatClampNeg (by decide)) rfl 3 (Nat.le_of_ble_eq_true rfl) (hts _ (vA_in _ _ (in_15 _ (zs16 (zs1 (zs1 (zs0))))))) (fun _ h9 => h9) (th_v0L hKp hI0 (64 * (v85_7.toNatClampNeg + 1) + 13) (mP 13 v85_7.toNatClampNeg (by decide) lv72 (kl_le hC 4 (by decide))) (shC_p 13 v85_7.toNatClampNeg (by decide)) (Nat.le_of_ble_eq_true rfl) (spC_p 13 v85_7.toNatClampNeg (by decide) 3) (wl_p rfl rfl (by omega))) dX2_statesOf_175 ?_
                refine lv_aload_n hx hb dX2_statesOf_178 rfl (lv_at hl 6 rfl) ?_
                refine th_getL (ci := 5) (C := RX4) (T := TX4) (N := 10) (v := .int (xi (E (64 * (i + 1) + 14)) 3)) hx hb hts hinX4 hown hK hP hI (64 * (i + 1) + 14) (mP 14 i (by decide) hh0 (kl_le hC 5 (by decide))) (shC_p 14 i (by decide)) rfl 3 (Nat.le_of_ble_eq_true rfl) (hts _ (vA_in _ _ (in_15 _ (zs16 (zs1 (zs1 (zs1 (zs0)))))))) (fun _ h9 => h9) (th_v0L hKp hI0 (64 * (i + 1) + 14) (mP 14 i (by decide) hh0 (kl_le hC 5 (by decide))) (shC_p 14 i (by decide)) (Nat.le_of_ble_eq_true rfl) (spC_p 14 i (by decide) 3) (wl_p rfl rfl (by omega))) dX2_statesOf_179 ?_
                refine lv_icmp_ne (tgt := 202) hx hb dX2_statesOf_182 (by decide) (fun c95 => ?_) (fun c95 => ?_)
                · --182 taken
                  have t96 : ¬ (xi (E (64 * (v85_7.toNatClampNeg + 1) + 13)) 3).toInt = (xi (E (64 * (i + 1) + 14)) 3).toInt := ti_ne c95
                  obtain ⟨y97, ey97⟩ : ∃ y : Int32, y = v85_7 + (1 : Int32) := ⟨_, rfl⟩
                  obtain ⟨ty97, iy97⟩ := ti_add (e := 1) (f := 200) i69 ln_1 ey97 (by decide)
                  have ty97 : y97.toInt = v85_7.toInt + 1 := ty97
                  have iy97 : 1 ≤ y97.toInt ∧ y97.toInt ≤ 200 := iy97
                  refine lv_iinc (v := y97) (lv' := [(7, .int y97), (8, .ref (ad (64 * (v85_7.toNatClampNeg + 1) + 13))), (6, .int v85_6), (5, .int r5), (4, .int s15_0), (0, .ref (ad 5)), (1, .ref (ad (64 * (i + 1) + 14))), (2, .int a0), (3, .int a1)]) hx hb dX2_statesOf_202 hl (k := 1) rfl (by rw [ey97]; rfl) (by decide) rfl (fun ls hl => ?_)
                  refine lv_goto (tgt := 85) hx hb dX2_statesOf_205 (by decide) ?_
                  exact ih85 y97 v85_6 E93 _ _ _ (iv_w iy97 (by decide)) hv85_6 (by first | exact ms_su hx85_0 ty97 (by decide) | omega) hI hKp hP hS (lv_sub hl [0, 2, 3, 4, 5, 6, 7, 8] rfl)
                · --182 not
                  have t98 : (xi (E (64 * (v85_7.toNatClampNeg + 1) + 13)) 3).toInt = (xi (E (64 * (i + 1) + 14)) 3).toInt := ti_eq c95
                  refine lv_iconst (v := 1) hx hb dX2_statesOf_185 (by decide) ?_
                  refine lv_istore (lv' := [(6, .int 1), (8, .ref (ad (64 * (v85_7.toNatClampNeg + 1) + 13))), (7, .int v85_7), (5, .int r5), (4, .int s15_0), (0, .ref (ad 5)), (1, .ref (ad (64 * (i + 1) + 14))), (2, .int a0), (3, .int a1)]) hx hb dX2_statesOf_186 hl (by decide) rfl (fun ls hl => ?_)
                  refine lv_aload_n hx hb dX2_statesOf_188 rfl (lv_at hl 5 rfl) ?_
                  refine th_getL (ci := 3) (C := RX2) (T := TX2) (N := 10) (v := .ref (ad 42)) hx hb hts hinX2 hown hK hP hI 5 (mF 5 rfl) rfl rfl 5 (Nat.le_of_ble_eq_true rfl) (hts _ (vA_in _ _ (in_15 _ (zs4 (zs4 (zs4 (zs0))))))) (fun _ h9 => h9) (hI.fr 5 (mF 5 rfl) rfl (Nat.le_of_ble_eq_true rfl) 42 rfl) dX2_statesOf_189 ?_
                  refine lv_iload_n hx hb dX2_statesOf_192 rfl (lv_at hl 7 rfl) ?_
                  refine lv_dup2_11 hx hb dX2_statesOf_193 rfl rfl ?_
                  have n100 : vp_in a0 2 := (iv_in (n := 2) hh1 (by decide))
                  refine th_ialdL hx hb hK hP hI 42 (mF 42 rfl) rfl rfl n100 dX2_statesOf_194 (fun y99 ey99 => ?_)
                  have iy99 : 0 ≤ y99.toInt ∧ y99.toInt ≤ 255 := hI.el 42 (mF 42 rfl) rfl n100 (fun _ => rfl) ey99
                  refine lv_aload hx hb dX2_statesOf_195 (lv_at hl 1 rfl) ?_
                  have i101 : 0 ≤ (xi (E (64 * (v85_7.toNatClampNeg + 1) + 13)) 7).toInt ∧ (xi (E (64 * (v85_7.toNatClampNeg + 1) + 13)) 7).toInt ≤ 255 := hI0.iv (64 * (v85_7.toNatClampNeg + 1) + 13) (mP 13 v85_7.toNatClampNeg (by decide) lv72 (kl_le hC 4 (by decide))) (shC_p 13 v85_7.toNatClampNeg (by decide)) (Nat.le_of_ble_eq_true rfl) (spC_p 13 v85_7.toNatClampNeg (by decide) 7)
                  refine th_getL (ci := 12) (C := RX11) (T := TX11) (N := 8) (v := .int (xi (E (64 * (v85_7.toNatClampNeg + 1) + 13)) 7)) hx hb hts hinX11 hown hK hP hI (64 * (v85_7.toNatClampNeg + 1) + 13) (mP 13 v85_7.toNatClampNeg (by decide) lv72 (kl_le hC 4 (by decide))) (shC_p 13 v85_7.toNatClampNeg (by decide)) rfl 7 (Nat.le_of_ble_eq_true rfl) (hts _ (vA_in _ _ (in_15 _ (zs16 (zs4 (zs0)))))) (fun _ h9 => h9) (th_v0L hKp hI0 (64 * (v85_7.toNatClampNeg + 1) + 13) (mP 13 v85_7.toNatClampNeg (by decide) lv72 (kl_le hC 4 (by decide))) (shC_p 13 v85_7.toNatClampNeg (by decide)) (Nat.le_of_ble_eq_true rfl) (spC_p 13 v85_7.toNatClampNeg (by decide) 7) (wl_p rfl rfl (by omega))) dX2_statesOf_197 ?_
                  refine lv_iand hx hb dX2_statesOf_200 ?_
                  refine lv_topi (fun y102 ey102 => ?_)
                  have iy102 : 0 ≤ y102.toInt ∧ y102.toInt ≤ 255 := by have h8 := i101; have h9 := ti_and (x := y99) (m := (xi (E (64 * (v85_7.toNatClampNeg + 1) + 13)) 7)) (by omega) ey102; omega
                  have n103 : vp_in a0 2 := (iv_in (n := 2) hh1 (by decide))
                  refine th_iastL hx hb hK hP (WL_D hD) hS hI 42 (mF 42 rfl) rfl rfl n103 (okI rfl iy102) dX2_statesOf_201 (fun H locs E104 pw105 hI hP hS => ?_)
                  have hKp := hKp.pw pw105 rfl
                  obtain ⟨y106, ey106⟩ : ∃ y : Int32, y = v85_7 + (1 : Int32) := ⟨_, rfl⟩
                  obtain ⟨ty106, iy106⟩ := ti_add (e := 1) (f := 200) i69 ln_1 ey106 (by decide)
                  have ty106 : y106.toInt = v85_7.toInt + 1 := ty106
                  have iy106 : 1 ≤ y106.toInt ∧ y106.toInt ≤ 200 := iy106
                  refine lv_iinc (v := y106) (lv' := [(7, .int y106), (6, .int 1), (8, .ref (ad (64 * (v85_7.toNatClampNeg + 1) + 13))), (5, .int r5), (4, .int s15_0), (0, .ref (ad 5)), (1, .ref (ad (64 * (i + 1) + 14))), (2, .int a0), (3, .int a1)]) hx hb dX2_statesOf_202 hl (k := 2) rfl (by rw [ey106]; rfl) (by decide) rfl (fun ls hl => ?_)
                  refine lv_goto (tgt := 85) hx hb dX2_statesOf_205 (by decide) ?_
                  exact ih85 y106 (1 : Int32) E104 _ _ _ (iv_w iy106 (by decide)) (iv_w ln_1 (by decide)) (by first | exact ms_su hx85_0 ty106 (by decide) | omega) hI hKp hP hS (lv_sub hl [0, 1, 3, 4, 5, 6, 7, 8] rfl)
              · --145 not
                have t107 : a1.toInt < (xi (E (64 * (v85_7.toNatClampNeg + 1) + 13)) 2).toInt := ti_nle c84
                have i108 : 0 ≤ a1.toInt ∧ a1.toInt ≤ 399 := iv_lt_l t107 hh2 i83 (by decide)
                have i109 : 1 ≤ (xi (E (64 * (v85_7.toNatClampNeg + 1) + 13)) 2).toInt ∧ (xi (E (64 * (v85_7.toNatClampNeg + 1) + 13)) 2).toInt ≤ 400 := iv_lt_r t107 hh2 i83 (by decide)
                refine lv_goto (tgt := 202) hx hb dX2_statesOf_148 (by decide) ?_
                obtain ⟨y110, ey110⟩ : ∃ y : Int32, y = v85_7 + (1 : Int32) := ⟨_, rfl⟩
                obtain ⟨ty110, iy110⟩ := ti_add (e := 1) (f := 200) i69 ln_1 ey110 (by decide)
                have ty110 : y110.toInt = v85_7.toInt + 1 := ty110
                have iy110 : 1 ≤ y110.toInt ∧ y110.toInt ≤ 200 := iy110
                refine lv_iinc (v := y110) (lv' := [(7, .int y110), (8, .ref (ad (64 * (v85_7.toNatClampNeg + 1) + 13))), (6, .int v85_6), (5, .int r5), (4, .int s15_0), (0, .ref (ad 5)), (1, .ref (ad (64 * (i + 1) + 14))), (2, .int a0), (3, .int a1)]) hx hb dX2_statesOf_202 hl (k := 1) rfl (by rw [ey110]; rfl) (by decide) rfl (fun ls hl => ?_)
                refine lv_goto (tgt := 85) hx hb dX2_statesOf_205 (by decide) ?_
                exact ih85 y110 v85_6 E85_ _ _ _ (iv_w iy110 (by decide)) hv85_6 (by first | exact ms_su hx85_0 ty110 (by decide) | omega) hI hKp hP hS (lv_sub hl [0, 2, 3, 4, 5, 6, 7, 8] rfl)
    exact hL85 (201) (0 : Int32) (0 : Int32) E20 _ _ _ (iv_w ln_0 (by decide)) (iv_w ln_0 (by decide)) (by have h9 := ln_0; first | exact ms_bu h9.1 (by decide) | omega) hI hKp hP hS (lv_sub hl [0, 1, 2, 3, 4, 5, 6, 7] rfl)
  refine lv_if_ne (tgt := 11) hx hb dX2_statesOf_1 (by decide) (fun c111 => ?_) (fun c111 => ?_)
  · --1 taken
    have t112 : ¬ a0.toInt = 0 := ti_ne c111
    have i113 : 1 ≤ a0.toInt ∧ a0.toInt ≤ 1 := iv_ne_l t112 hh1 (il_ 0)
    refine lv_aload_n hx hb dX2_statesOf_11 rfl (lv_at hl 1 rfl) ?_
    have i114 : 0 ≤ (xi (E (64 * (i + 1) + 14)) 2).toInt ∧ (xi (E (64 * (i + 1) + 14)) 2).toInt ≤ 15 := hI0.iv (64 * (i + 1) + 14) (mP 14 i (by decide) hh0 (kl_le hC 5 (by decide))) (shC_p 14 i (by decide)) (Nat.le_of_ble_eq_true rfl) (spC_p 14 i (by decide) 2)
    refine th_getL (ci := 5) (C := RX4) (T := TX4) (N := 10) (v := .int (xi (E (64 * (i + 1) + 14)) 2)) hx hb hts hinX4 hown hK hP hI (64 * (i + 1) + 14) (mP 14 i (by decide) hh0 (kl_le hC 5 (by decide))) (shC_p 14 i (by decide)) rfl 2 (Nat.le_of_ble_eq_true rfl) (hts _ (vA_in _ _ (in_15 _ (zs4 (zs4 (zs1 (zs1 (zs1 (zs0))))))))) (fun _ h9 => h9) (th_v0L hKp hI0 (64 * (i + 1) + 14) (mP 14 i (by decide) hh0 (kl_le hC 5 (by decide))) (shC_p 14 i (by decide)) (Nat.le_of_ble_eq_true rfl) (spC_p 14 i (by decide) 2) (wl_p rfl rfl (by omega))) dX2_statesOf_12 ?_
    exact hJ15 (xi (E (64 * (i + 1) + 14)) 2) _ _ _ i114 hP hS (lv_sub hl [0, 1, 2, 3] rfl)
  · --1 not
    have t115 : a0.toInt = 0 := ti_eq c111
    have i116 : 0 ≤ a0.toInt ∧ a0.toInt ≤ 0 := iv_eqi t115 hh1 (il_ 0) (by decide)
    refine lv_aload_n hx hb dX2_statesOf_4 rfl (lv_at hl 1 rfl) ?_
    have i117 : 0 ≤ (xi (E (64 * (i + 1) + 14)) 1).toInt ∧ (xi (E (64 * (i + 1) + 14)) 1).toInt ≤ 15 := hI0.iv (64 * (i + 1) + 14) (mP 14 i (by decide) hh0 (kl_le hC 5 (by decide))) (shC_p 14 i (by decide)) (Nat.le_of_ble_eq_true rfl) (spC_p 14 i (by decide) 1)
    refine th_getL (ci := 5) (C := RX4) (T := TX4) (N := 10) (v := .int (xi (E (64 * (i + 1) + 14)) 1)) hx hb hts hinX4 hown hK hP hI (64 * (i + 1) + 14) (mP 14 i (by decide) hh0 (kl_le hC 5 (by decide))) (shC_p 14 i (by decide)) rfl 1 (Nat.le_of_ble_eq_true rfl) (hts _ (vA_in _ _ (in_15 _ (zs4 (zs4 (zs1 (zs1 (zs0)))))))) (fun _ h9 => h9) (th_v0L hKp hI0 (64 * (i + 1) + 14) (mP 14 i (by decide) hh0 (kl_le hC 5 (by decide))) (shC_p 14 i (by decide)) (Nat.le_of_ble_eq_true rfl) (spC_p 14 i (by decide) 1) (wl_p rfl rfl (by omega))) dX2_statesOf_5 ?_
    refine lv_goto (tgt := 15) hx hb dX2_statesOf_8 (by decide) ?_
    exact hJ15 (xi (E (64 * (i + 1) + 14)) 1) _ _ _ i117 hP hS (lv_sub hl [0, 1, 2, 3] rfl)
