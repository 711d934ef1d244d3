set_option maxRecDepth 100000 in
theorem zh_dX13_thrown_0_0 : zc cX13_thrown 0 [42, 29, 182, 1, 194, 153, 0, 34, 27, 3, 42, 180, 1, 191, 4, 100] = true := by decide +kernel
set_option maxRecDepth 100000 in
theorem zh_dX13_thrown_16_16 : zc cX13_thrown 16 [184, 0, 235, 153, 0, 20, 42, 28, 182, 0, 245, 153, 0, 12, 42, 180] = true := by decide +kernel
set_option maxRecDepth 100000 in
theorem zh_dX13_thrown_31_32 : zc cX13_thrown 32 [0, 123, 28, 51, 154, 0, 5, 2, 172, 42, 180, 0, 119, 16, 16, 27] = true := by decide +kernel
set_option maxRecDepth 100000 in
theorem zh_dX13_thrown_48_48 : zc cX13_thrown 48 [104, 28, 96, 51, 153, 0, 7, 4, 167, 0, 4, 3, 172] = true := by decide +kernel
set_option maxRecDepth 100000 in
theorem zh_dX13_total_0_0 : zc cX13_total 0 [42, 28, 182, 1, 194, 153, 0, 29, 42, 27, 182, 0, 245, 153, 0, 21] = true := by decide +kernel
set_option maxRecDepth 100000 in
theorem zh_dX13_total_16_16 : zc cX13_total 16 [42, 180, 0, 123, 27, 51, 153, 0, 12, 42, 180, 0, 110, 27, 46, 167] = true := by decide +kernel
set_option maxRecDepth 100000 in
theorem zh_dX13_total_31_32 : zc cX13_total 32 [0, 4, 2, 172] = true := by decide +kernel
set_option maxRecDepth 100000 in
theorem zh_dX13_sorted_0_0 : zc cX13_sorted 0 [3, 62, 3, 54, 4, 21, 4, 42, 180, 1, 191, 162, 0, 91, 42, 180] = true := by decide +kernel
set_option maxRecDepth 100000 in
theorem zh_dX13_sorted_15_16 : zc cX13_sorted 16 [0, 119, 16, 16, 21, 4, 104, 27, 96, 51, 153, 0, 6, 167, 0, 67] = true := by decide +kernel
set_option maxRecDepth 100000 in
theorem zh_dX13_sorted_32_32 : zc cX13_sorted 32 [29, 54, 5, 21, 5, 158, 0, 40, 44, 21, 5, 4, 100, 46, 42, 180] = true := by decide +kernel
set_option maxRecDepth 100000 in
theorem zh_dX13_sorted_47_48 : zc cX13_sorted 48 [0, 107, 16, 16, 21, 4, 104, 27, 96, 46, 164, 0, 19, 44, 21, 5] = true := by decide +kernel
set_option maxRecDepth 100000 in
theorem zh_dX13_sorted_64_64 : zc cX13_sorted 64 [44, 21, 5, 4, 100, 46, 79, 132, 5, 255, 167, 255, 217, 44, 21, 5] = true := by decide +kernel
set_option maxRecDepth 100000 in
theorem zh_dX13_sorted_80_80 : zc cX13_sorted 80 [42, 180, 0, 107, 16, 16, 21, 4, 104, 27, 96, 46, 79, 132, 3, 1] = true := by decide +kernel
set_option maxRecDepth 100000 in
theorem zh_dX13_sorted_96_96 : zc cX13_sorted 96 [132, 4, 1, 167, 255, 162, 29, 172] = true := by decide +kernel
set_option maxRecDepth 100000 in
theorem zh_dX13_isBetter_0_0 : zc cX13_isBetter 0 [42, 180, 0, 110, 27, 46, 42, 180, 0, 110, 28, 46, 159, 0, 24, 42] = true := by decide +kernel
set_option maxRecDepth 100000 in
theorem zh_dX13_isBetter_16_16 : zc cX13_isBetter 16 [180, 0, 110, 27, 46, 42, 180, 0, 110, 28, 46, 162, 0, 7, 4, 167] = true := by decide +kernel
set_option maxRecDepth 100000 in
theorem zh_dX13_isBetter_31_32 : zc cX13_isBetter 32 [0, 4, 3, 172, 42, 27, 42, 180, 0, 113, 182, 1, 197, 62, 42, 28] = true := by decide +kernel
set_option maxRecDepth 100000 in
theorem zh_dX13_isBetter_48_48 : zc cX13_isBetter 48 [42, 180, 0, 116, 182, 1, 197, 54, 4, 3, 54, 5, 21, 5, 29, 162] = true := by decide +kernel
set_option maxRecDepth 100000 in
theorem zh_dX13_isBetter_63_64 : zc cX13_isBetter 64 [0, 56, 21, 5, 21, 4, 162, 0, 49, 42, 180, 0, 113, 21, 5, 46] = true := by decide +kernel
set_option maxRecDepth 100000 in
theorem zh_dX13_isBetter_80_80 : zc cX13_isBetter 80 [42, 180, 0, 116, 21, 5, 46, 159, 0, 26, 42, 180, 0, 113, 21, 5] = true := by decide +kernel
set_option maxRecDepth 100000 in
theorem zh_dX13_isBetter_96_96 : zc cX13_isBetter 96 [46, 42, 180, 0, 116, 21, 5, 46, 162, 0, 7, 4, 167, 0, 4, 3] = true := by decide +kernel
set_option maxRecDepth 100000 in
theorem zh_dX13_isBetter_112_112 : zc cX13_isBetter 112 [172, 132, 5, 1, 167, 255, 200, 42, 180, 1, 191, 4, 100, 54, 5, 21] = true := by decide +kernel
set_option maxRecDepth 100000 in
theorem zh_dX13_isBetter_127_128 : zc cX13_isBetter 128 [5, 155, 0, 69, 42, 180, 0, 107, 16, 16, 21, 5, 104, 27, 96, 46] = true := by decide +kernel
set_option maxRecDepth 100000 in
theorem zh_dX13_isBetter_144_144 : zc cX13_isBetter 144 [42, 180, 0, 107, 16, 16, 21, 5, 104, 28, 96, 46, 159, 0, 36, 42] = true := by decide +kernel
set_option maxRecDepth 100000 in
theorem zh_dX13_isBetter_160_160 : zc cX13_isBetter 160 [180, 0, 107, 16, 16, 21, 5, 104, 27, 96, 46, 42, 180, 0, 107, 16] = true := by decide +kernel
set_option maxRecDepth 100000 in
theorem zh_dX13_isBetter_175_176 : zc cX13_isBetter 176 [16, 21, 5, 104, 28, 96, 46, 162, 0, 7, 4, 167, 0, 4, 3, 172] = true := by decide +kernel
set_option maxRecDepth 100000 in
theorem zh_dX13_isBetter_192_192 : zc cX13_isBetter 192 [132, 5, 255, 167, 255, 188, 27, 28, 162, 0, 7, 4, 167, 0, 4, 3] = true := by decide +kernel
set_option maxRecDepth 100000 in
theorem zh_dX13_isBetter_208_208 : zc cX13_isBetter 208 [172] = true := by decide +kernel
set_option maxRecDepth 100000 in
theorem zh_dX13_ranked_0_0 : zc cX13_ranked 0 [42, 28, 182, 1, 194, 154, 0, 5, 2, 172, 3, 62, 29, 42, 180, 0] = true := by decide +kernel
set_option maxRecDepth 100000 in
theorem zh_dX13_ranked_14_16 : zc cX13_ranked 16 [239, 162, 0, 86, 42, 180, 0, 123, 29, 51, 154, 0, 6, 167, 0, 68] = true := by decide +kernel
set_option maxRecDepth 100000 in
theorem zh_dX13_ranked_32_32 : zc cX13_ranked 32 [3, 54, 4, 3, 54, 5, 21, 5, 42, 180, 0, 239, 162, 0, 45, 21] = true := by decide +kernel
set_option maxRecDepth 100000 in
theorem zh_dX13_ranked_47_48 : zc cX13_ranked 48 [4, 21, 5, 29, 159, 0, 27, 42, 180, 0, 123, 21, 5, 51, 153, 0] = true := by decide +kernel
set_option maxRecDepth 100000 in
theorem zh_dX13_ranked_62_64 : zc cX13_ranked 64 [17, 42, 21, 5, 29, 182, 1, 201, 153, 0, 7, 4, 167, 0, 4, 3] = true := by decide +kernel
set_option maxRecDepth 100000 in
theorem zh_dX13_ranked_80_80 : zc cX13_ranked 80 [96, 54, 4, 132, 5, 1, 167, 255, 208, 21, 4, 27, 160, 0, 5, 29] = true := by decide +kernel
set_option maxRecDepth 100000 in
theorem zh_dX13_ranked_96_96 : zc cX13_ranked 96 [172, 132, 3, 1, 167, 255, 168, 2, 172] = true := by decide +kernel
set_option maxRecDepth 100000 in
theorem zh_dX13_onStarboard_0_0 : zc cX13_onStarboard 0 [26, 27, 100, 16, 8, 184, 1, 228, 7, 164, 0, 7, 4, 167, 0, 4] = true := by decide +kernel
set_option maxRecDepth 100000 in
theorem zh_dX13_onStarboard_16_16 : zc cX13_onStarboard 16 [3, 172] = true := by decide +kernel
set_option maxRecDepth 100000 in
theorem zh_dX13_findingOf_0_0 : zc cX13_findingOf 0 [42, 180, 0, 150, 27, 46, 54, 4, 3, 54, 5, 3, 54, 6, 42, 180] = true := by decide +kernel
set_option maxRecDepth 100000 in
theorem zh_dX13_findingOf_15_16 : zc cX13_findingOf 16 [0, 59, 21, 4, 46, 54, 7, 3, 54, 8, 21, 8, 42, 180, 0, 189] = true := by decide +kernel
set_option maxRecDepth 100000 in
theorem zh_dX13_findingOf_32_32 : zc cX13_findingOf 32 [3, 46, 162, 1, 61, 17, 0, 128, 54, 9, 21, 9, 17, 0, 128, 42] = true := by decide +kernel
set_option maxRecDepth 100000 in
theorem zh_dX13_findingOf_48_48 : zc cX13_findingOf 48 [180, 0, 189, 4, 46, 96, 162, 1, 35, 42, 182, 1, 121, 42, 180, 0] = true := by decide +kernel
set_option maxRecDepth 100000 in
theorem zh_dX13_findingOf_62_64 : zc cX13_findingOf 64 [44, 16, 100, 42, 180, 0, 180, 21, 8, 46, 42, 180, 0, 183, 21, 8] = true := by decide +kernel
set_option maxRecDepth 100000 in
theorem zh_dX13_findingOf_80_80 : zc cX13_findingOf 80 [46, 42, 180, 0, 180, 21, 9, 46, 42, 180, 0, 183, 21, 9, 46, 184] = true := by decide +kernel
set_option maxRecDepth 100000 in
theorem zh_dX13_findingOf_95_96 : zc cX13_findingOf 96 [1, 231, 79, 42, 180, 0, 44, 16, 103, 42, 180, 0, 186, 21, 8, 46] = true := by decide +kernel
set_option maxRecDepth 100000 in
theorem zh_dX13_findingOf_112_112 : zc cX13_findingOf 112 [21, 7, 184, 1, 235, 79, 42, 180, 0, 44, 16, 104, 42, 180, 0, 186] = true := by decide +kernel
set_option maxRecDepth 100000 in
theorem zh_dX13_findingOf_128_128 : zc cX13_findingOf 128 [21, 9, 46, 21, 7, 184, 1, 235, 79, 42, 180, 0, 44, 16, 117, 42] = true := by decide +kernel
set_option maxRecDepth 100000 in
theorem zh_dX13_findingOf_144_144 : zc cX13_findingOf 144 [180, 0, 180, 21, 8, 46, 42, 180, 0, 180, 21, 9, 46, 100, 21, 7] = true := by decide +kernel
set_option maxRecDepth 100000 in
theorem zh_dX13_findingOf_160_160 : zc cX13_findingOf 160 [184, 1, 238, 104, 42, 180, 0, 183, 21, 8, 46, 42, 180, 0, 183, 21] = true := by decide +kernel
set_option maxRecDepth 100000 in
theorem zh_dX13_findingOf_175_176 : zc cX13_findingOf 176 [9, 46, 100, 21, 7, 184, 1, 241, 104, 96, 158, 0, 7, 4, 167, 0] = true := by decide +kernel
set_option maxRecDepth 100000 in
theorem zh_dX13_findingOf_190_192 : zc cX13_findingOf 192 [4, 3, 79, 42, 180, 0, 44, 16, 109, 42, 180, 0, 180, 21, 8, 46] = true := by decide +kernel
set_option maxRecDepth 100000 in
theorem zh_dX13_findingOf_208_208 : zc cX13_findingOf 208 [42, 180, 0, 183, 21, 8, 46, 42, 180, 0, 62, 21, 4, 46, 42, 180] = true := by decide +kernel
set_option maxRecDepth 100000 in
theorem zh_dX13_findingOf_223_224 : zc cX13_findingOf 224 [0, 65, 21, 4, 46, 184, 1, 231, 79, 42, 180, 0, 44, 16, 107, 42] = true := by decide +kernel
set_option maxRecDepth 100000 in
theorem zh_dX13_findingOf_240_240 : zc cX13_findingOf 240 [180, 0, 180, 21, 9, 46, 42, 180, 0, 183, 21, 9, 46, 42, 180, 0] = true := by decide +kernel
set_option maxRecDepth 100000 in
theorem zh_dX13_findingOf_254_256 : zc cX13_findingOf 256 [62, 21, 4, 46, 42, 180, 0, 65, 21, 4, 46, 184, 1, 231, 79, 42] = true := by decide +kernel
set_option maxRecDepth 100000 in
theorem zh_dX13_findingOf_272_272 : zc cX13_findingOf 272 [180, 0, 44, 16, 111, 42, 180, 0, 186, 21, 8, 46, 42, 180, 0, 186] = true := by decide +kernel
set_option maxRecDepth 100000 in
theorem zh_dX13_findingOf_288_288 : zc cX13_findingOf 288 [21, 9, 46, 160, 0, 7, 4, 167, 0, 4, 3, 79, 132, 5, 1, 21] = true := by decide +kernel
set_option maxRecDepth 100000 in
theorem zh_dX13_findingOf_303_304 : zc cX13_findingOf 304 [6, 42, 28, 154, 0, 8, 16, 97, 167, 0, 5, 16, 98, 42, 180, 0] = true := by decide +kernel
set_option maxRecDepth 100000 in
theorem zh_dX13_findingOf_318_320 : zc cX13_findingOf 320 [50, 21, 4, 46, 29, 182, 1, 124, 153, 0, 7, 4, 167, 0, 4, 3] = true := by decide +kernel
set_option maxRecDepth 100000 in
theorem zh_dX13_findingOf_336_336 : zc cX13_findingOf 336 [96, 54, 6, 132, 9, 1, 167, 254, 212, 132, 8, 1, 167, 254, 190, 21] = true := by decide +kernel
set_option maxRecDepth 100000 in
theorem zh_dX13_findingOf_351_352 : zc cX13_findingOf 352 [5, 154, 0, 7, 2, 167, 0, 24, 21, 6, 21, 5, 160, 0, 7, 4] = true := by decide +kernel
set_option maxRecDepth 100000 in
theorem zh_dX13_findingOf_368_368 : zc cX13_findingOf 368 [167, 0, 13, 21, 6, 158, 0, 7, 5, 167, 0, 4, 3, 172] = true := by decide +kernel
set_option maxRecDepth 100000 in
theorem zh_dX13_finding_0_0 : zc cX13_finding 0 [42, 27, 28, 29, 182, 1, 225, 153, 0, 13, 42, 27, 28, 29, 182, 1] = true := by decide +kernel
set_option maxRecDepth 100000 in
theorem zh_dX13_finding_14_16 : zc cX13_finding 16 [244, 167, 0, 4, 2, 172] = true := by decide +kernel
theorem dX13_thrown_0 : decode cX13_thrown 0 = .ok (.aload_n 0, 1) := zo_42 (zi_at zh_dX13_thrown_0_0 0 rfl)
theorem dX13_thrown_1 : decode cX13_thrown 1 = .ok (.iload_n 3, 1) := zo_29 (zi_at zh_dX13_thrown_0_0 1 rfl)
theorem dX13_thrown_2 : decode cX13_thrown 2 = .ok (.invokevirtual 450, 3) := zo_182 (zi_at zh_dX13_thrown_0_0 2 rfl) (zi_at zh_dX13_thrown_0_0 3 rfl) (zi_at zh_dX13_thrown_0_0 4 rfl) rfl
theorem dX13_thrown_5 : decode cX13_thrown 5 = .ok (.ifCond .eq 34, 3) := zo_153 (zi_at zh_dX13_thrown_0_0 5 rfl) (zi_at zh_dX13_thrown_0_0 6 rfl) (zi_at zh_dX13_thrown_0_0 7 rfl) rfl
theorem dX13_thrown_8 : decode cX13_thrown 8 = .ok (.iload_n 1, 1) := zo_27 (zi_at zh_dX13_thrown_0_0 8 rfl)
theorem dX13_thrown_9 : decode cX13_thrown 9 = .ok (.iconst 0, 1) := zo_3 (zi_at zh_dX13_thrown_0_0 9 rfl)
theorem dX13_thrown_10 : decode cX13_thrown 10 = .ok (.aload_n 0, 1) := zo_42 (zi_at zh_dX13_thrown_0_0 10 rfl)
theorem dX13_thrown_11 : decode cX13_thrown 11 = .ok (.getfield 447, 3) := zo_180 (zi_at zh_dX13_thrown_0_0 11 rfl) (zi_at zh_dX13_thrown_0_0 12 rfl) (zi_at zh_dX13_thrown_0_0 13 rfl) rfl
theorem dX13_thrown_14 : decode cX13_thrown 14 = .ok (.iconst 1, 1) := zo_4 (zi_at zh_dX13_thrown_0_0 14 rfl)
theorem dX13_thrown_15 : decode cX13_thrown 15 = .ok (.isub, 1) := zo_100 (zi_at zh_dX13_thrown_0_0 15 rfl)
theorem dX13_thrown_16 : decode cX13_thrown 16 = .ok (.invokestatic 235, 3) := zo_184 (zi_at zh_dX13_thrown_16_16 0 rfl) (zi_at zh_dX13_thrown_16_16 1 rfl) (zi_at zh_dX13_thrown_16_16 2 rfl) rfl
theorem dX13_thrown_19 : decode cX13_thrown 19 = .ok (.ifCond .eq 20, 3) := zo_153 (zi_at zh_dX13_thrown_16_16 3 rfl) (zi_at zh_dX13_thrown_16_16 4 rfl) (zi_at zh_dX13_thrown_16_16 5 rfl) rfl
theorem dX13_thrown_22 : decode cX13_thrown 22 = .ok (.aload_n 0, 1) := zo_42 (zi_at zh_dX13_thrown_16_16 6 rfl)
theorem dX13_thrown_23 : decode cX13_thrown 23 = .ok (.iload_n 2, 1) := zo_28 (zi_at zh_dX13_thrown_16_16 7 rfl)
theorem dX13_thrown_24 : decode cX13_thrown 24 = .ok (.invokevirtual 245, 3) := zo_182 (zi_at zh_dX13_thrown_16_16 8 rfl) (zi_at zh_dX13_thrown_16_16 9 rfl) (zi_at zh_dX13_thrown_16_16 10 rfl) rfl
theorem dX13_thrown_27 : decode cX13_thrown 27 = .ok (.ifCond .eq 12, 3) := zo_153 (zi_at zh_dX13_thrown_16_16 11 rfl) (zi_at zh_dX13_thrown_16_16 12 rfl) (zi_at zh_dX13_thrown_16_16 13 rfl) rfl
theorem dX13_thrown_30 : decode cX13_thrown 30 = .ok (.aload_n 0, 1) := zo_42 (zi_at zh_dX13_thrown_16_16 14 rfl)
theorem dX13_thrown_31 : decode cX13_thrown 31 = .ok (.getfield 123, 3) := zo_180 (zi_at zh_dX13_thrown_16_16 15 rfl) (zi_at zh_dX13_thrown_31_32 0 rfl) (zi_at zh_dX13_thrown_31_32 1 rfl) rfl
theorem dX13_thrown_34 : decode cX13_thrown 34 = .ok (.iload_n 2, 1) := zo_28 (zi_at zh_dX13_thrown_31_32 2 rfl)
theorem dX13_thrown_35 : decode cX13_thrown 35 = .ok (.baload, 1) := zo_51 (zi_at zh_dX13_thrown_31_32 3 rfl)
theorem dX13_thrown_36 : decode cX13_thrown 36 = .ok (.ifCond .ne 5, 3) := zo_154 (zi_at zh_dX13_thrown_31_32 4 rfl) (zi_at zh_dX13_thrown_31_32 5 rfl) (zi_at zh_dX13_thrown_31_32 6 rfl) rfl
theorem dX13_thrown_39 : decode cX13_thrown 39 = .ok (.iconst (-1), 1) := zo_2 (zi_at zh_dX13_thrown_31_32 7 rfl)
theorem dX13_thrown_40 : decode cX13_thrown 40 = .ok (.ireturn, 1) := zo_172 (zi_at zh_dX13_thrown_31_32 8 rfl)
theorem dX13_thrown_41 : decode cX13_thrown 41 = .ok (.aload_n 0, 1) := zo_42 (zi_at zh_dX13_thrown_31_32 9 rfl)
theorem dX13_thrown_42 : decode cX13_thrown 42 = .ok (.getfield 119, 3) := zo_180 (zi_at zh_dX13_thrown_31_32 10 rfl) (zi_at zh_dX13_thrown_31_32 11 rfl) (zi_at zh_dX13_thrown_31_32 12 rfl) rfl
theorem dX13_thrown_45 : decode cX13_thrown 45 = .ok (.bipush 16, 2) := zo_16 (zi_at zh_dX13_thrown_31_32 13 rfl) (zi_at zh_dX13_thrown_31_32 14 rfl) rfl
theorem dX13_thrown_47 : decode cX13_thrown 47 = .ok (.iload_n 1, 1) := zo_27 (zi_at zh_dX13_thrown_31_32 15 rfl)
theorem dX13_thrown_48 : decode cX13_thrown 48 = .ok (.imul, 1) := zo_104 (zi_at zh_dX13_thrown_48_48 0 rfl)
theorem dX13_thrown_49 : decode cX13_thrown 49 = .ok (.iload_n 2, 1) := zo_28 (zi_at zh_dX13_thrown_48_48 1 rfl)
theorem dX13_thrown_50 : decode cX13_thrown 50 = .ok (.iadd, 1) := zo_96 (zi_at zh_dX13_thrown_48_48 2 rfl)
theorem dX13_thrown_51 : decode cX13_thrown 51 = .ok (.baload, 1) := zo_51 (zi_at zh_dX13_thrown_48_48 3 rfl)
theorem dX13_thrown_52 : decode cX13_thrown 52 = .ok (.ifCond .eq 7, 3) := zo_153 (zi_at zh_dX13_thrown_48_48 4 rfl) (zi_at zh_dX13_thrown_48_48 5 rfl) (zi_at zh_dX13_thrown_48_48 6 rfl) rfl
theorem dX13_thrown_55 : decode cX13_thrown 55 = .ok (.iconst 1, 1) := zo_4 (zi_at zh_dX13_thrown_48_48 7 rfl)
theorem dX13_thrown_56 : decode cX13_thrown 56 = .ok (.goto 4, 3) := zo_167 (zi_at zh_dX13_thrown_48_48 8 rfl) (zi_at zh_dX13_thrown_48_48 9 rfl) (zi_at zh_dX13_thrown_48_48 10 rfl) rfl
theorem dX13_thrown_59 : decode cX13_thrown 59 = .ok (.iconst 0, 1) := zo_3 (zi_at zh_dX13_thrown_48_48 11 rfl)
theorem dX13_thrown_60 : decode cX13_thrown 60 = .ok (.ireturn, 1) := zo_172 (zi_at zh_dX13_thrown_48_48 12 rfl)
theorem dX13_total_0 : decode cX13_total 0 = .ok (.aload_n 0, 1) := zo_42 (zi_at zh_dX13_total_0_0 0 rfl)
theorem dX13_total_1 : decode cX13_total 1 = .ok (.iload_n 2, 1) := zo_28 (zi_at zh_dX13_total_0_0 1 rfl)
theorem dX13_total_2 : decode cX13_total 2 = .ok (.invokevirtual 450, 3) := zo_182 (zi_at zh_dX13_total_0_0 2 rfl) (zi_at zh_dX13_total_0_0 3 rfl) (zi_at zh_dX13_total_0_0 4 rfl) rfl
theorem dX13_total_5 : decode cX13_total 5 = .ok (.ifCond .eq 29, 3) := zo_153 (zi_at zh_dX13_total_0_0 5 rfl) (zi_at zh_dX13_total_0_0 6 rfl) (zi_at zh_dX13_total_0_0 7 rfl) rfl
theorem dX13_total_8 : decode cX13_total 8 = .ok (.aload_n 0, 1) := zo_42 (zi_at zh_dX13_total_0_0 8 rfl)
theorem dX13_total_9 : decode cX13_total 9 = .ok (.iload_n 1, 1) := zo_27 (zi_at zh_dX13_total_0_0 9 rfl)
theorem dX13_total_10 : decode cX13_total 10 = .ok (.invokevirtual 245, 3) := zo_182 (zi_at zh_dX13_total_0_0 10 rfl) (zi_at zh_dX13_total_0_0 11 rfl) (zi_at zh_dX13_total_0_0 12 rfl) rfl
theorem dX13_total_13 : decode cX13_total 13 = .ok (.ifCond .eq 21, 3) := zo_153 (zi_at zh_dX13_total_0_0 13 rfl) (zi_at zh_dX13_total_0_0 14 rfl) (zi_at zh_dX13_total_0_0 15 rfl) rfl
theorem dX13_total_16 : decode cX13_total 16 = .ok (.aload_n 0, 1) := zo_42 (zi_at zh_dX13_total_16_16 0 rfl)
theorem dX13_total_17 : decode cX13_total 17 = .ok (.getfield 123, 3) := zo_180 (zi_at zh_dX13_total_16_16 1 rfl) (zi_at zh_dX13_total_16_16 2 rfl) (zi_at zh_dX13_total_16_16 3 rfl) rfl
theorem dX13_total_20 : decode cX13_total 20 = .ok (.iload_n 1, 1) := zo_27 (zi_at zh_dX13_total_16_16 4 rfl)
theorem dX13_total_21 : decode cX13_total 21 = .ok (.baload, 1) := zo_51 (zi_at zh_dX13_total_16_16 5 rfl)
theorem dX13_total_22 : decode cX13_total 22 = .ok (.ifCond .eq 12, 3) := zo_153 (zi_at zh_dX13_total_16_16 6 rfl) (zi_at zh_dX13_total_16_16 7 rfl) (zi_at zh_dX13_total_16_16 8 rfl) rfl
theorem dX13_total_25 : decode cX13_total 25 = .ok (.aload_n 0, 1) := zo_42 (zi_at zh_dX13_total_16_16 9 rfl)
theorem dX13_total_26 : decode cX13_total 26 = .ok (.getfield 110, 3) := zo_180 (zi_at zh_dX13_total_16_16 10 rfl) (zi_at zh_dX13_total_16_16 11 rfl) (zi_at zh_dX13_total_16_16 12 rfl) rfl
theorem dX13_total_29 : decode cX13_total 29 = .ok (.iload_n 1, 1) := zo_27 (zi_at zh_dX13_total_16_16 13 rfl)
theorem dX13_total_30 : decode cX13_total 30 = .ok (.iaload, 1) := zo_46 (zi_at zh_dX13_total_16_16 14 rfl)
theorem dX13_total_31 : decode cX13_total 31 = .ok (.goto 4, 3) := zo_167 (zi_at zh_dX13_total_16_16 15 rfl) (zi_at zh_dX13_total_31_32 0 rfl) (zi_at zh_dX13_total_31_32 1 rfl) rfl
theorem dX13_total_34 : decode cX13_total 34 = .ok (.iconst (-1), 1) := zo_2 (zi_at zh_dX13_total_31_32 2 rfl)
theorem dX13_total_35 : decode cX13_total 35 = .ok (.ireturn, 1) := zo_172 (zi_at zh_dX13_total_31_32 3 rfl)
theorem dX13_sorted_0 : decode cX13_sorted 0 = .ok (.iconst 0, 1) := zo_3 (zi_at zh_dX13_sorted_0_0 0 rfl)
theorem dX13_sorted_1 : decode cX13_sorted 1 = .ok (.istore_n 3, 1) := zo_62 (zi_at zh_dX13_sorted_0_0 1 rfl)
theorem dX13_sorted_2 : decode cX13_sorted 2 = .ok (.iconst 0, 1) := zo_3 (zi_at zh_dX13_sorted_0_0 2 rfl)
theorem dX13_sorted_3 : decode cX13_sorted 3 = .ok (.istore 4, 2) := zo_54 (zi_at zh_dX13_sorted_0_0 3 rfl) (zi_at zh_dX13_sorted_0_0 4 rfl)
theorem dX13_sorted_5 : decode cX13_sorted 5 = .ok (.iload 4, 2) := zo_21 (zi_at zh_dX13_sorted_0_0 5 rfl) (zi_at zh_dX13_sorted_0_0 6 rfl)
theorem dX13_sorted_7 : decode cX13_sorted 7 = .ok (.aload_n 0, 1) := zo_42 (zi_at zh_dX13_sorted_0_0 7 rfl)
theorem dX13_sorted_8 : decode cX13_sorted 8 = .ok (.getfield 447, 3) := zo_180 (zi_at zh_dX13_sorted_0_0 8 rfl) (zi_at zh_dX13_sorted_0_0 9 rfl) (zi_at zh_dX13_sorted_0_0 10 rfl) rfl
theorem dX13_sorted_11 : decode cX13_sorted 11 = .ok (.if_icmp .ge 91, 3) := zo_162 (zi_at zh_dX13_sorted_0_0 11 rfl) (zi_at zh_dX13_sorted_0_0 12 rfl) (zi_at zh_dX13_sorted_0_0 13 rfl) rfl
theorem dX13_sorted_14 : decode cX13_sorted 14 = .ok (.aload_n 0, 1) := zo_42 (zi_at zh_dX13_sorted_0_0 14 rfl)
theorem dX13_sorted_15 : decode cX13_sorted 15 = .ok (.getfield 119, 3) := zo_180 (zi_at zh_dX13_sorted_0_0 15 rfl) (zi_at zh_dX13_sorted_15_16 0 rfl) (zi_at zh_dX13_sorted_15_16 1 rfl) rfl
theorem dX13_sorted_18 : decode cX13_sorted 18 = .ok (.bipush 16, 2) := zo_16 (zi_at zh_dX13_sorted_15_16 2 rfl) (zi_at zh_dX13_sorted_15_16 3 rfl) rfl
theorem dX13_sorted_20 : decode cX13_sorted 20 = .ok (.iload 4, 2) := zo_21 (zi_at zh_dX13_sorted_15_16 4 rfl) (zi_at zh_dX13_sorted_15_16 5 rfl)
theorem dX13_sorted_22 : decode cX13_sorted 22 = .ok (.imul, 1) := zo_104 (zi_at zh_dX13_sorted_15_16 6 rfl)
theorem dX13_sorted_23 : decode cX13_sorted 23 = .ok (.iload_n 1, 1) := zo_27 (zi_at zh_dX13_sorted_15_16 7 rfl)
theorem dX13_sorted_24 : decode cX13_sorted 24 = .ok (.iadd, 1) := zo_96 (zi_at zh_dX13_sorted_15_16 8 rfl)
theorem dX13_sorted_25 : decode cX13_sorted 25 = .ok (.baload, 1) := zo_51 (zi_at zh_dX13_sorted_15_16 9 rfl)
theorem dX13_sorted_26 : decode cX13_sorted 26 = .ok (.ifCond .eq 6, 3) := zo_153 (zi_at zh_dX13_sorted_15_16 10 rfl) (zi_at zh_dX13_sorted_15_16 11 rfl) (zi_at zh_dX13_sorted_15_16 12 rfl) rfl
theorem dX13_sorted_29 : decode cX13_sorted 29 = .ok (.goto 67, 3) := zo_167 (zi_at zh_dX13_sorted_15_16 13 rfl) (zi_at zh_dX13_sorted_15_16 14 rfl) (zi_at zh_dX13_sorted_15_16 15 rfl) rfl
theorem dX13_sorted_32 : decode cX13_sorted 32 = .ok (.iload_n 3, 1) := zo_29 (zi_at zh_dX13_sorted_32_32 0 rfl)
theorem dX13_sorted_33 : decode cX13_sorted 33 = .ok (.istore 5, 2) := zo_54 (zi_at zh_dX13_sorted_32_32 1 rfl) (zi_at zh_dX13_sorted_32_32 2 rfl)
theorem dX13_sorted_35 : decode cX13_sorted 35 = .ok (.iload 5, 2) := zo_21 (zi_at zh_dX13_sorted_32_32 3 rfl) (zi_at zh_dX13_sorted_32_32 4 rfl)
theorem dX13_sorted_37 : decode cX13_sorted 37 = .ok (.ifCond .le 40, 3) := zo_158 (zi_at zh_dX13_sorted_32_32 5 rfl) (zi_at zh_dX13_sorted_32_32 6 rfl) (zi_at zh_dX13_sorted_32_32 7 rfl) rfl
theorem dX13_sorted_40 : decode cX13_sorted 40 = .ok (.aload_n 2, 1) := zo_44 (zi_at zh_dX13_sorted_32_32 8 rfl)
theorem dX13_sorted_41 : decode cX13_sorted 41 = .ok (.iload 5, 2) := zo_21 (zi_at zh_dX13_sorted_32_32 9 rfl) (zi_at zh_dX13_sorted_32_32 10 rfl)
theorem dX13_sorted_43 : decode cX13_sorted 43 = .ok (.iconst 1, 1) := zo_4 (zi_at zh_dX13_sorted_32_32 11 rfl)
theorem dX13_sorted_44 : decode cX13_sorted 44 = .ok (.isub, 1) := zo_100 (zi_at zh_dX13_sorted_32_32 12 rfl)
theorem dX13_sorted_45 : decode cX13_sorted 45 = .ok (.iaload, 1) := zo_46 (zi_at zh_dX13_sorted_32_32 13 rfl)
theorem dX13_sorted_46 : decode cX13_sorted 46 = .ok (.aload_n 0, 1) := zo_42 (zi_at zh_dX13_sorted_32_32 14 rfl)
theorem dX13_sorted_47 : decode cX13_sorted 47 = .ok (.getfield 107, 3) := zo_180 (zi_at zh_dX13_sorted_32_32 15 rfl) (zi_at zh_dX13_sorted_47_48 0 rfl) (zi_at zh_dX13_sorted_47_48 1 rfl) rfl
theorem dX13_sorted_50 : decode cX13_sorted 50 = .ok (.bipush 16, 2) := zo_16 (zi_at zh_dX13_sorted_47_48 2 rfl) (zi_at zh_dX13_sorted_47_48 3 rfl) rfl
theorem dX13_sorted_52 : decode cX13_sorted 52 = .ok (.iload 4, 2) := zo_21 (zi_at zh_dX13_sorted_47_48 4 rfl) (zi_at zh_dX13_sorted_47_48 5 rfl)
theorem dX13_sorted_54 : decode cX13_sorted 54 = .ok (.imul, 1) := zo_104 (zi_at zh_dX13_sorted_47_48 6 rfl)
theorem dX13_sorted_55 : decode cX13_sorted 55 = .ok (.iload_n 1, 1) := zo_27 (zi_at zh_dX13_sorted_47_48 7 rfl)
theorem dX13_sorted_56 : decode cX13_sorted 56 = .ok (.iadd, 1) := zo_96 (zi_at zh_dX13_sorted_47_48 8 rfl)
theorem dX13_sorted_57 : decode cX13_sorted 57 = .ok (.iaload, 1) := zo_46 (zi_at zh_dX13_sorted_47_48 9 rfl)
theorem dX13_sorted_58 : decode cX13_sorted 58 = .ok (.if_icmp .le 19, 3) := zo_164 (zi_at zh_dX13_sorted_47_48 10 rfl) (zi_at zh_dX13_sorted_47_48 11 rfl) (zi_at zh_dX13_sorted_47_48 12 rfl) rfl
theorem dX13_sorted_61 : decode cX13_sorted 61 = .ok (.aload_n 2, 1) := zo_44 (zi_at zh_dX13_sorted_47_48 13 rfl)
theorem dX13_sorted_62 : decode cX13_sorted 62 = .ok (.iload 5, 2) := zo_21 (zi_at zh_dX13_sorted_47_48 14 rfl) (zi_at zh_dX13_sorted_47_48 15 rfl)
theorem dX13_sorted_64 : decode cX13_sorted 64 = .ok (.aload_n 2, 1) := zo_44 (zi_at zh_dX13_sorted_64_64 0 rfl)
theorem dX13_sorted_65 : decode cX13_sorted 65 = .ok (.iload 5, 2) := zo_21 (zi_at zh_dX13_sorted_64_64 1 rfl) (zi_at zh_dX13_sorted_64_64 2 rfl)
theorem dX13_sorted_67 : decode cX13_sorted 67 = .ok (.iconst 1, 1) := zo_4 (zi_at zh_dX13_sorted_64_64 3 rfl)
theorem dX13_sorted_68 : decode cX13_sorted 68 = .ok (.isub, 1) := zo_100 (zi_at zh_dX13_sorted_64_64 4 rfl)
theorem dX13_sorted_69 : decode cX13_sorted 69 = .ok (.iaload, 1) := zo_46 (zi_at zh_dX13_sorted_64_64 5 rfl)
theorem dX13_sorted_70 : decode cX13_sorted 70 = .ok (.iastore, 1) := zo_79 (zi_at zh_dX13_sorted_64_64 6 rfl)
theorem dX13_sorted_71 : decode cX13_sorted 71 = .ok (.iinc 5 (-1), 3) := zo_132 (zi_at zh_dX13_sorted_64_64 7 rfl) (zi_at zh_dX13_sorted_64_64 8 rfl) (zi_at zh_dX13_sorted_64_64 9 rfl) rfl
theorem dX13_sorted_74 : decode cX13_sorted 74 = .ok (.goto (-39), 3) := zo_167 (zi_at zh_dX13_sorted_64_64 10 rfl) (zi_at zh_dX13_sorted_64_64 11 rfl) (zi_at zh_dX13_sorted_64_64 12 rfl) rfl
theorem dX13_sorted_77 : decode cX13_sorted 77 = .ok (.aload_n 2, 1) := zo_44 (zi_at zh_dX13_sorted_64_64 13 rfl)
theorem dX13_sorted_78 : decode cX13_sorted 78 = .ok (.iload 5, 2) := zo_21 (zi_at zh_dX13_sorted_64_64 14 rfl) (zi_at zh_dX13_sorted_64_64 15 rfl)
theorem dX13_sorted_80 : decode cX13_sorted 80 = .ok (.aload_n 0, 1) := zo_42 (zi_at zh_dX13_sorted_80_80 0 rfl)
theorem dX13_sorted_81 : decode cX13_sorted 81 = .ok (.getfield 107, 3) := zo_180 (zi_at zh_dX13_sorted_80_80 1 rfl) (zi_at zh_dX13_sorted_80_80 2 rfl) (zi_at zh_dX13_sorted_80_80 3 rfl) rfl
theorem dX13_sorted_84 : decode cX13_sorted 84 = .ok (.bipush 16, 2) := zo_16 (zi_at zh_dX13_sorted_80_80 4 rfl) (zi_at zh_dX13_sorted_80_80 5 rfl) rfl
theorem dX13_sorted_86 : decode cX13_sorted 86 = .ok (.iload 4, 2) := zo_21 (zi_at zh_dX13_sorted_80_80 6 rfl) (zi_at zh_dX13_sorted_80_80 7 rfl)
theorem dX13_sorted_88 : decode cX13_sorted 88 = .ok (.imul, 1) := zo_104 (zi_at zh_dX13_sorted_80_80 8 rfl)
theorem dX13_sorted_89 : decode cX13_sorted 89 = .ok (.iload_n 1, 1) := zo_27 (zi_at zh_dX13_sorted_80_80 9 rfl)
theorem dX13_sorted_90 : decode cX13_sorted 90 = .ok (.iadd, 1) := zo_96 (zi_at zh_dX13_sorted_80_80 10 rfl)
theorem dX13_sorted_91 : decode cX13_sorted 91 = .ok (.iaload, 1) := zo_46 (zi_at zh_dX13_sorted_80_80 11 rfl)
theorem dX13_sorted_92 : decode cX13_sorted 92 = .ok (.iastore, 1) := zo_79 (zi_at zh_dX13_sorted_80_80 12 rfl)
theorem dX13_sorted_93 : decode cX13_sorted 93 = .ok (.iinc 3 1, 3) := zo_132 (zi_at zh_dX13_sorted_80_80 13 rfl) (zi_at zh_dX13_sorted_80_80 14 rfl) (zi_at zh_dX13_sorted_80_80 15 rfl) rfl
theorem dX13_sorted_96 : decode cX13_sorted 96 = .ok (.iinc 4 1, 3) := zo_132 (zi_at zh_dX13_sorted_96_96 0 rfl) (zi_at zh_dX13_sorted_96_96 1 rfl) (zi_at zh_dX13_sorted_96_96 2 rfl) rfl
theorem dX13_sorted_99 : decode cX13_sorted 99 = .ok (.goto (-94), 3) := zo_167 (zi_at zh_dX13_sorted_96_96 3 rfl) (zi_at zh_dX13_sorted_96_96 4 rfl) (zi_at zh_dX13_sorted_96_96 5 rfl) rfl
theorem dX13_sorted_102 : decode cX13_sorted 102 = .ok (.iload_n 3, 1) := zo_29 (zi_at zh_dX13_sorted_96_96 6 rfl)
theorem dX13_sorted_103 : decode cX13_sorted 103 = .ok (.ireturn, 1) := zo_172 (zi_at zh_dX13_sorted_96_96 7 rfl)
theorem dX13_isBetter_0 : decode cX13_isBetter 0 = .ok (.aload_n 0, 1) := zo_42 (zi_at zh_dX13_isBetter_0_0 0 rfl)
theorem dX13_isBetter_1 : decode cX13_isBetter 1 = .ok (.getfield 110, 3) := zo_180 (zi_at zh_dX13_isBetter_0_0 1 rfl) (zi_at zh_dX13_isBetter_0_0 2 rfl) (zi_at zh_dX13_isBetter_0_0 3 rfl) rfl
theorem dX13_isBetter_4 : decode cX13_isBetter 4 = .ok (.iload_n 1, 1) := zo_27 (zi_at zh_dX13_isBetter_0_0 4 rfl)
theorem dX13_isBetter_5 : decode cX13_isBetter 5 = .ok (.iaload, 1) := zo_46 (zi_at zh_dX13_isBetter_0_0 5 rfl)
theorem dX13_isBetter_6 : decode cX13_isBetter 6 = .ok (.aload_n 0, 1) := zo_42 (zi_at zh_dX13_isBetter_0_0 6 rfl)
theorem dX13_isBetter_7 : decode cX13_isBetter 7 = .ok (.getfield 110, 3) := zo_180 (zi_at zh_dX13_isBetter_0_0 7 rfl) (zi_at zh_dX13_isBetter_0_0 8 rfl) (zi_at zh_dX13_isBetter_0_0 9 rfl) rfl
theorem dX13_isBetter_10 : decode cX13_isBetter 10 = .ok (.iload_n 2, 1) := zo_28 (zi_at zh_dX13_isBetter_0_0 10 rfl)
theorem dX13_isBetter_11 : decode cX13_isBetter 11 = .ok (.iaload, 1) := zo_46 (zi_at zh_dX13_isBetter_0_0 11 rfl)
theorem dX13_isBetter_12 : decode cX13_isBetter 12 = .ok (.if_icmp .eq 24, 3) := zo_159 (zi_at zh_dX13_isBetter_0_0 12 rfl) (zi_at zh_dX13_isBetter_0_0 13 rfl) (zi_at zh_dX13_isBetter_0_0 14 rfl) rfl
theorem dX13_isBetter_15 : decode cX13_isBetter 15 = .ok (.aload_n 0, 1) := zo_42 (zi_at zh_dX13_isBetter_0_0 15 rfl)
theorem dX13_isBetter_16 : decode cX13_isBetter 16 = .ok (.getfield 110, 3) := zo_180 (zi_at zh_dX13_isBetter_16_16 0 rfl) (zi_at zh_dX13_isBetter_16_16 1 rfl) (zi_at zh_dX13_isBetter_16_16 2 rfl) rfl
theorem dX13_isBetter_19 : decode cX13_isBetter 19 = .ok (.iload_n 1, 1) := zo_27 (zi_at zh_dX13_isBetter_16_16 3 rfl)
theorem dX13_isBetter_20 : decode cX13_isBetter 20 = .ok (.iaload, 1) := zo_46 (zi_at zh_dX13_isBetter_16_16 4 rfl)
theorem dX13_isBetter_21 : decode cX13_isBetter 21 = .ok (.aload_n 0, 1) := zo_42 (zi_at zh_dX13_isBetter_16_16 5 rfl)
theorem dX13_isBetter_22 : decode cX13_isBetter 22 = .ok (.getfield 110, 3) := zo_180 (zi_at zh_dX13_isBetter_16_16 6 rfl) (zi_at zh_dX13_isBetter_16_16 7 rfl) (zi_at zh_dX13_isBetter_16_16 8 rfl) rfl
theorem dX13_isBetter_25 : decode cX13_isBetter 25 = .ok (.iload_n 2, 1) := zo_28 (zi_at zh_dX13_isBetter_16_16 9 rfl)
theorem dX13_isBetter_26 : decode cX13_isBetter 26 = .ok (.iaload, 1) := zo_46 (zi_at zh_dX13_isBetter_16_16 10 rfl)
theorem dX13_isBetter_27 : decode cX13_isBetter 27 = .ok (.if_icmp .ge 7, 3) := zo_162 (zi_at zh_dX13_isBetter_16_16 11 rfl) (zi_at zh_dX13_isBetter_16_16 12 rfl) (zi_at zh_dX13_isBetter_16_16 13 rfl) rfl
theorem dX13_isBetter_30 : decode cX13_isBetter 30 = .ok (.iconst 1, 1) := zo_4 (zi_at zh_dX13_isBetter_16_16 14 rfl)
theorem dX13_isBetter_31 : decode cX13_isBetter 31 = .ok (.goto 4, 3) := zo_167 (zi_at zh_dX13_isBetter_16_16 15 rfl) (zi_at zh_dX13_isBetter_31_32 0 rfl) (zi_at zh_dX13_isBetter_31_32 1 rfl) rfl
theorem dX13_isBetter_34 : decode cX13_isBetter 34 = .ok (.iconst 0, 1) := zo_3 (zi_at zh_dX13_isBetter_31_32 2 rfl)
theorem dX13_isBetter_35 : decode cX13_isBetter 35 = .ok (.ireturn, 1) := zo_172 (zi_at zh_dX13_isBetter_31_32 3 rfl)
theorem dX13_isBetter_36 : decode cX13_isBetter 36 = .ok (.aload_n 0, 1) := zo_42 (zi_at zh_dX13_isBetter_31_32 4 rfl)
theorem dX13_isBetter_37 : decode cX13_isBetter 37 = .ok (.iload_n 1, 1) := zo_27 (zi_at zh_dX13_isBetter_31_32 5 rfl)
theorem dX13_isBetter_38 : decode cX13_isBetter 38 = .ok (.aload_n 0, 1) := zo_42 (zi_at zh_dX13_isBetter_31_32 6 rfl)
theorem dX13_isBetter_39 : decode cX13_isBetter 39 = .ok (.getfield 113, 3) := zo_180 (zi_at zh_dX13_isBetter_31_32 7 rfl) (zi_at zh_dX13_isBetter_31_32 8 rfl) (zi_at zh_dX13_isBetter_31_32 9 rfl) rfl
theorem dX13_isBetter_42 : decode cX13_isBetter 42 = .ok (.invokevirtual 453, 3) := zo_182 (zi_at zh_dX13_isBetter_31_32 10 rfl) (zi_at zh_dX13_isBetter_31_32 11 rfl) (zi_at zh_dX13_isBetter_31_32 12 rfl) rfl
theorem dX13_isBetter_45 : decode cX13_isBetter 45 = .ok (.istore_n 3, 1) := zo_62 (zi_at zh_dX13_isBetter_31_32 13 rfl)
theorem dX13_isBetter_46 : decode cX13_isBetter 46 = .ok (.aload_n 0, 1) := zo_42 (zi_at zh_dX13_isBetter_31_32 14 rfl)
theorem dX13_isBetter_47 : decode cX13_isBetter 47 = .ok (.iload_n 2, 1) := zo_28 (zi_at zh_dX13_isBetter_31_32 15 rfl)
theorem dX13_isBetter_48 : decode cX13_isBetter 48 = .ok (.aload_n 0, 1) := zo_42 (zi_at zh_dX13_isBetter_48_48 0 rfl)
theorem dX13_isBetter_49 : decode cX13_isBetter 49 = .ok (.getfield 116, 3) := zo_180 (zi_at zh_dX13_isBetter_48_48 1 rfl) (zi_at zh_dX13_isBetter_48_48 2 rfl) (zi_at zh_dX13_isBetter_48_48 3 rfl) rfl
theorem dX13_isBetter_52 : decode cX13_isBetter 52 = .ok (.invokevirtual 453, 3) := zo_182 (zi_at zh_dX13_isBetter_48_48 4 rfl) (zi_at zh_dX13_isBetter_48_48 5 rfl) (zi_at zh_dX13_isBetter_48_48 6 rfl) rfl
theorem dX13_isBetter_55 : decode cX13_isBetter 55 = .ok (.istore 4, 2) := zo_54 (zi_at zh_dX13_isBetter_48_48 7 rfl) (zi_at zh_dX13_isBetter_48_48 8 rfl)
theorem dX13_isBetter_57 : decode cX13_isBetter 57 = .ok (.iconst 0, 1) := zo_3 (zi_at zh_dX13_isBetter_48_48 9 rfl)
theorem dX13_isBetter_58 : decode cX13_isBetter 58 = .ok (.istore 5, 2) := zo_54 (zi_at zh_dX13_isBetter_48_48 10 rfl) (zi_at zh_dX13_isBetter_48_48 11 rfl)
theorem dX13_isBetter_60 : decode cX13_isBetter 60 = .ok (.iload 5, 2) := zo_21 (zi_at zh_dX13_isBetter_48_48 12 rfl) (zi_at zh_dX13_isBetter_48_48 13 rfl)
theorem dX13_isBetter_62 : decode cX13_isBetter 62 = .ok (.iload_n 3, 1) := zo_29 (zi_at zh_dX13_isBetter_48_48 14 rfl)
theorem dX13_isBetter_63 : decode cX13_isBetter 63 = .ok (.if_icmp .ge 56, 3) := zo_162 (zi_at zh_dX13_isBetter_48_48 15 rfl) (zi_at zh_dX13_isBetter_63_64 0 rfl) (zi_at zh_dX13_isBetter_63_64 1 rfl) rfl
theorem dX13_isBetter_66 : decode cX13_isBetter 66 = .ok (.iload 5, 2) := zo_21 (zi_at zh_dX13_isBetter_63_64 2 rfl) (zi_at zh_dX13_isBetter_63_64 3 rfl)
theorem dX13_isBetter_68 : decode cX13_isBetter 68 = .ok (.iload 4, 2) := zo_21 (zi_at zh_dX13_isBetter_63_64 4 rfl) (zi_at zh_dX13_isBetter_63_64 5 rfl)
theorem dX13_isBetter_70 : decode cX13_isBetter 70 = .ok (.if_icmp .ge 49, 3) := zo_162 (zi_at zh_dX13_isBetter_63_64 6 rfl) (zi_at zh_dX13_isBetter_63_64 7 rfl) (zi_at zh_dX13_isBetter_63_64 8 rfl) rfl
theorem dX13_isBetter_73 : decode cX13_isBetter 73 = .ok (.aload_n 0, 1) := zo_42 (zi_at zh_dX13_isBetter_63_64 9 rfl)
theorem dX13_isBetter_74 : decode cX13_isBetter 74 = .ok (.getfield 113, 3) := zo_180 (zi_at zh_dX13_isBetter_63_64 10 rfl) (zi_at zh_dX13_isBetter_63_64 11 rfl) (zi_at zh_dX13_isBetter_63_64 12 rfl) rfl
theorem dX13_isBetter_77 : decode cX13_isBetter 77 = .ok (.iload 5, 2) := zo_21 (zi_at zh_dX13_isBetter_63_64 13 rfl) (zi_at zh_dX13_isBetter_63_64 14 rfl)
theorem dX13_isBetter_79 : decode cX13_isBetter 79 = .ok (.iaload, 1) := zo_46 (zi_at zh_dX13_isBetter_63_64 15 rfl)
theorem dX13_isBetter_80 : decode cX13_isBetter 80 = .ok (.aload_n 0, 1) := zo_42 (zi_at zh_dX13_isBetter_80_80 0 rfl)
theorem dX13_isBetter_81 : decode cX13_isBetter 81 = .ok (.getfield 116, 3) := zo_180 (zi_at zh_dX13_isBetter_80_80 1 rfl) (zi_at zh_dX13_isBetter_80_80 2 rfl) (zi_at zh_dX13_isBetter_80_80 3 rfl) rfl
theorem dX13_isBetter_84 : decode cX13_isBetter 84 = .ok (.iload 5, 2) := zo_21 (zi_at zh_dX13_isBetter_80_80 4 rfl) (zi_at zh_dX13_isBetter_80_80 5 rfl)
theorem dX13_isBetter_86 : decode cX13_isBetter 86 = .ok (.iaload, 1) := zo_46 (zi_at zh_dX13_isBetter_80_80 6 rfl)
theorem dX13_isBetter_87 : decode cX13_isBetter 87 = .ok (.if_icmp .eq 26, 3) := zo_159 (zi_at zh_dX13_isBetter_80_80 7 rfl) (zi_at zh_dX13_isBetter_80_80 8 rfl) (zi_at zh_dX13_isBetter_80_80 9 rfl) rfl
theorem dX13_isBetter_90 : decode cX13_isBetter 90 = .ok (.aload_n 0, 1) := zo_42 (zi_at zh_dX13_isBetter_80_80 10 rfl)
theorem dX13_isBetter_91 : decode cX13_isBetter 91 = .ok (.getfield 113, 3) := zo_180 (zi_at zh_dX13_isBetter_80_80 11 rfl) (zi_at zh_dX13_isBetter_80_80 12 rfl) (zi_at zh_dX13_isBetter_80_80 13 rfl) rfl
theorem dX13_isBetter_94 : decode cX13_isBetter 94 = .ok (.iload 5, 2) := zo_21 (zi_at zh_dX13_isBetter_80_80 14 rfl) (zi_at zh_dX13_isBetter_80_80 15 rfl)
theorem dX13_isBetter_96 : decode cX13_isBetter 96 = .ok (.iaload, 1) := zo_46 (zi_at zh_dX13_isBetter_96_96 0 rfl)
theorem dX13_isBetter_97 : decode cX13_isBetter 97 = .ok (.aload_n 0, 1) := zo_42 (zi_at zh_dX13_isBetter_96_96 1 rfl)
theorem dX13_isBetter_98 : decode cX13_isBetter 98 = .ok (.getfield 116, 3) := zo_180 (zi_at zh_dX13_isBetter_96_96 2 rfl) (zi_at zh_dX13_isBetter_96_96 3 rfl) (zi_at zh_dX13_isBetter_96_96 4 rfl) rfl
theorem dX13_isBetter_101 : decode cX13_isBetter 101 = .ok (.iload 5, 2) := zo_21 (zi_at zh_dX13_isBetter_96_96 5 rfl) (zi_at zh_dX13_isBetter_96_96 6 rfl)
theorem dX13_isBetter_103 : decode cX13_isBetter 103 = .ok (.iaload, 1) := zo_46 (zi_at zh_dX13_isBetter_96_96 7 rfl)
theorem dX13_isBetter_104 : decode cX13_isBetter 104 = .ok (.if_icmp .ge 7, 3) := zo_162 (zi_at zh_dX13_isBetter_96_96 8 rfl) (zi_at zh_dX13_isBetter_96_96 9 rfl) (zi_at zh_dX13_isBetter_96_96 10 rfl) rfl
theorem dX13_isBetter_107 : decode cX13_isBetter 107 = .ok (.iconst 1, 1) := zo_4 (zi_at zh_dX13_isBetter_96_96 11 rfl)
theorem dX13_isBetter_108 : decode cX13_isBetter 108 = .ok (.goto 4, 3) := zo_167 (zi_at zh_dX13_isBetter_96_96 12 rfl) (zi_at zh_dX13_isBetter_96_96 13 rfl) (zi_at zh_dX13_isBetter_96_96 14 rfl) rfl
theorem dX13_isBetter_111 : decode cX13_isBetter 111 = .ok (.iconst 0, 1) := zo_3 (zi_at zh_dX13_isBetter_96_96 15 rfl)
theorem dX13_isBetter_112 : decode cX13_isBetter 112 = .ok (.ireturn, 1) := zo_172 (zi_at zh_dX13_isBetter_112_112 0 rfl)
theorem dX13_isBetter_113 : decode cX13_isBetter 113 = .ok (.iinc 5 1, 3) := zo_132 (zi_at zh_dX13_isBetter_112_112 1 rfl) (zi_at zh_dX13_isBetter_112_112 2 rfl) (zi_at zh_dX13_isBetter_112_112 3 rfl) rfl
theorem dX13_isBetter_116 : decode cX13_isBetter 116 = .ok (.goto (-56), 3) := zo_167 (zi_at zh_dX13_isBetter_112_112 4 rfl) (zi_at zh_dX13_isBetter_112_112 5 rfl) (zi_at zh_dX13_isBetter_112_112 6 rfl) rfl
theorem dX13_isBetter_119 : decode cX13_isBetter 119 = .ok (.aload_n 0, 1) := zo_42 (zi_at zh_dX13_isBetter_112_112 7 rfl)
theorem dX13_isBetter_120 : decode cX13_isBetter 120 = .ok (.getfield 447, 3) := zo_180 (zi_at zh_dX13_isBetter_112_112 8 rfl) (zi_at zh_dX13_isBetter_112_112 9 rfl) (zi_at zh_dX13_isBetter_112_112 10 rfl) rfl
theorem dX13_isBetter_123 : decode cX13_isBetter 123 = .ok (.iconst 1, 1) := zo_4 (zi_at zh_dX13_isBetter_112_112 11 rfl)
theorem dX13_isBetter_124 : decode cX13_isBetter 124 = .ok (.isub, 1) := zo_100 (zi_at zh_dX13_isBetter_112_112 12 rfl)
theorem dX13_isBetter_125 : decode cX13_isBetter 125 = .ok (.istore 5, 2) := zo_54 (zi_at zh_dX13_isBetter_112_112 13 rfl) (zi_at zh_dX13_isBetter_112_112 14 rfl)
theorem dX13_isBetter_127 : decode cX13_isBetter 127 = .ok (.iload 5, 2) := zo_21 (zi_at zh_dX13_isBetter_112_112 15 rfl) (zi_at zh_dX13_isBetter_127_128 0 rfl)
theorem dX13_isBetter_129 : decode cX13_isBetter 129 = .ok (.ifCond .lt 69, 3) := zo_155 (zi_at zh_dX13_isBetter_127_128 1 rfl) (zi_at zh_dX13_isBetter_127_128 2 rfl) (zi_at zh_dX13_isBetter_127_128 3 rfl) rfl
theorem dX13_isBetter_132 : decode cX13_isBetter 132 = .ok (.aload_n 0, 1) := zo_42 (zi_at zh_dX13_isBetter_127_128 4 rfl)
theorem dX13_isBetter_133 : decode cX13_isBetter 133 = .ok (.getfield 107, 3) := zo_180 (zi_at zh_dX13_isBetter_127_128 5 rfl) (zi_at zh_dX13_isBetter_127_128 6 rfl) (zi_at zh_dX13_isBetter_127_128 7 rfl) rfl
theorem dX13_isBetter_136 : decode cX13_isBetter 136 = .ok (.bipush 16, 2) := zo_16 (zi_at zh_dX13_isBetter_127_128 8 rfl) (zi_at zh_dX13_isBetter_127_128 9 rfl) rfl
theorem dX13_isBetter_138 : decode cX13_isBetter 138 = .ok (.iload 5, 2) := zo_21 (zi_at zh_dX13_isBetter_127_128 10 rfl) (zi_at zh_dX13_isBetter_127_128 11 rfl)
theorem dX13_isBetter_140 : decode cX13_isBetter 140 = .ok (.imul, 1) := zo_104 (zi_at zh_dX13_isBetter_127_128 12 rfl)
theorem dX13_isBetter_141 : decode cX13_isBetter 141 = .ok (.iload_n 1, 1) := zo_27 (zi_at zh_dX13_isBetter_127_128 13 rfl)
theorem dX13_isBetter_142 : decode cX13_isBetter 142 = .ok (.iadd, 1) := zo_96 (zi_at zh_dX13_isBetter_127_128 14 rfl)
theorem dX13_isBetter_143 : decode cX13_isBetter 143 = .ok (.iaload, 1) := zo_46 (zi_at zh_dX13_isBetter_127_128 15 rfl)
theorem dX13_isBetter_144 : decode cX13_isBetter 144 = .ok (.aload_n 0, 1) := zo_42 (zi_at zh_dX13_isBetter_144_144 0 rfl)
theorem dX13_isBetter_145 : decode cX13_isBetter 145 = .ok (.getfield 107, 3) := zo_180 (zi_at zh_dX13_isBetter_144_144 1 rfl) (zi_at zh_dX13_isBetter_144_144 2 rfl) (zi_at zh_dX13_isBetter_144_144 3 rfl) rfl
theorem dX13_isBetter_148 : decode cX13_isBetter 148 = .ok (.bipush 16, 2) := zo_16 (zi_at zh_dX13_isBetter_144_144 4 rfl) (zi_at zh_dX13_isBetter_144_144 5 rfl) rfl
theorem dX13_isBetter_150 : decode cX13_isBetter 150 = .ok (.iload 5, 2) := zo_21 (zi_at zh_dX13_isBetter_144_144 6 rfl) (zi_at zh_dX13_isBetter_144_144 7 rfl)
theorem dX13_isBetter_152 : decode cX13_isBetter 152 = .ok (.imul, 1) := zo_104 (zi_at zh_dX13_isBetter_144_144 8 rfl)
theorem dX13_isBetter_153 : decode cX13_isBetter 153 = .ok (.iload_n 2, 1) := zo_28 (zi_at zh_dX13_isBetter_144_144 9 rfl)
theorem dX13_isBetter_154 : decode cX13_isBetter 154 = .ok (.iadd, 1) := zo_96 (zi_at zh_dX13_isBetter_144_144 10 rfl)
theorem dX13_isBetter_155 : decode cX13_isBetter 155 = .ok (.iaload, 1) := zo_46 (zi_at zh_dX13_isBetter_144_144 11 rfl)
theorem dX13_isBetter_156 : decode cX13_isBetter 156 = .ok (.if_icmp .eq 36, 3) := zo_159 (zi_at zh_dX13_isBetter_144_144 12 rfl) (zi_at zh_dX13_isBetter_144_144 13 rfl) (zi_at zh_dX13_isBetter_144_144 14 rfl) rfl
theorem dX13_isBetter_159 : decode cX13_isBetter 159 = .ok (.aload_n 0, 1) := zo_42 (zi_at zh_dX13_isBetter_144_144 15 rfl)
theorem dX13_isBetter_160 : decode cX13_isBetter 160 = .ok (.getfield 107, 3) := zo_180 (zi_at zh_dX13_isBetter_160_160 0 rfl) (zi_at zh_dX13_isBetter_160_160 1 rfl) (zi_at zh_dX13_isBetter_160_160 2 rfl) rfl
theorem dX13_isBetter_163 : decode cX13_isBetter 163 = .ok (.bipush 16, 2) := zo_16 (zi_at zh_dX13_isBetter_160_160 3 rfl) (zi_at zh_dX13_isBetter_160_160 4 rfl) rfl
theorem dX13_isBetter_165 : decode cX13_isBetter 165 = .ok (.iload 5, 2) := zo_21 (zi_at zh_dX13_isBetter_160_160 5 rfl) (zi_at zh_dX13_isBetter_160_160 6 rfl)
theorem dX13_isBetter_167 : decode cX13_isBetter 167 = .ok (.imul, 1) := zo_104 (zi_at zh_dX13_isBetter_160_160 7 rfl)
theorem dX13_isBetter_168 : decode cX13_isBetter 168 = .ok (.iload_n 1, 1) := zo_27 (zi_at zh_dX13_isBetter_160_160 8 rfl)
theorem dX13_isBetter_169 : decode cX13_isBetter 169 = .ok (.iadd, 1) := zo_96 (zi_at zh_dX13_isBetter_160_160 9 rfl)
theorem dX13_isBetter_170 : decode cX13_isBetter 170 = .ok (.iaload, 1) := zo_46 (zi_at zh_dX13_isBetter_160_160 10 rfl)
theorem dX13_isBetter_171 : decode cX13_isBetter 171 = .ok (.aload_n 0, 1) := zo_42 (zi_at zh_dX13_isBetter_160_160 11 rfl)
theorem dX13_isBetter_172 : decode cX13_isBetter 172 = .ok (.getfield 107, 3) := zo_180 (zi_at zh_dX13_isBetter_160_160 12 rfl) (zi_at zh_dX13_isBetter_160_160 13 rfl) (zi_at zh_dX13_isBetter_160_160 14 rfl) rfl
theorem dX13_isBetter_175 : decode cX13_isBetter 175 = .ok (.bipush 16, 2) := zo_16 (zi_at zh_dX13_isBetter_160_160 15 rfl) (zi_at zh_dX13_isBetter_175_176 0 rfl) rfl
theorem dX13_isBetter_177 : decode cX13_isBetter 177 = .ok (.iload 5, 2) := zo_21 (zi_at zh_dX13_isBetter_175_176 1 rfl) (zi_at zh_dX13_isBetter_175_176 2 rfl)
theorem dX13_isBetter_179 : decode cX13_isBetter 179 = .ok (.imul, 1) := zo_104 (zi_at zh_dX13_isBetter_175_176 3 rfl)
theorem dX13_isBetter_180 : decode cX13_isBetter 180 = .ok (.iload_n 2, 1) := zo_28 (zi_at zh_dX13_isBetter_175_176 4 rfl)
theorem dX13_isBetter_181 : decode cX13_isBetter 181 = .ok (.iadd, 1) := zo_96 (zi_at zh_dX13_isBetter_175_176 5 rfl)
theorem dX13_isBetter_182 : decode cX13_isBetter 182 = .ok (.iaload, 1) := zo_46 (zi_at zh_dX13_isBetter_175_176 6 rfl)
theorem dX13_isBetter_183 : decode cX13_isBetter 183 = .ok (.if_icmp .ge 7, 3) := zo_162 (zi_at zh_dX13_isBetter_175_176 7 rfl) (zi_at zh_dX13_isBetter_175_176 8 rfl) (zi_at zh_dX13_isBetter_175_176 9 rfl) rfl
theorem dX13_isBetter_186 : decode cX13_isBetter 186 = .ok (.iconst 1, 1) := zo_4 (zi_at zh_dX13_isBetter_175_176 10 rfl)
theorem dX13_isBetter_187 : decode cX13_isBetter 187 = .ok (.goto 4, 3) := zo_167 (zi_at zh_dX13_isBetter_175_176 11 rfl) (zi_at zh_dX13_isBetter_175_176 12 rfl) (zi_at zh_dX13_isBetter_175_176 13 rfl) rfl
theorem dX13_isBetter_190 : decode cX13_isBetter 190 = .ok (.iconst 0, 1) := zo_3 (zi_at zh_dX13_isBetter_175_176 14 rfl)
theorem dX13_isBetter_191 : decode cX13_isBetter 191 = .ok (.ireturn, 1) := zo_172 (zi_at zh_dX13_isBetter_175_176 15 rfl)
theorem dX13_isBetter_192 : decode cX13_isBetter 192 = .ok (.iinc 5 (-1), 3) := zo_132 (zi_at zh_dX13_isBetter_192_192 0 rfl) (zi_at zh_dX13_isBetter_192_192 1 rfl) (zi_at zh_dX13_isBetter_192_192 2 rfl) rfl
theorem dX13_isBetter_195 : decode cX13_isBetter 195 = .ok (.goto (-68), 3) := zo_167 (zi_at zh_dX13_isBetter_192_192 3 rfl) (zi_at zh_dX13_isBetter_192_192 4 rfl) (zi_at zh_dX13_isBetter_192_192 5 rfl) rfl
theorem dX13_isBetter_198 : decode cX13_isBetter 198 = .ok (.iload_n 1, 1) := zo_27 (zi_at zh_dX13_isBetter_192_192 6 rfl)
theorem dX13_isBetter_199 : decode cX13_isBetter 199 = .ok (.iload_n 2, 1) := zo_28 (zi_at zh_dX13_isBetter_192_192 7 rfl)
theorem dX13_isBetter_200 : decode cX13_isBetter 200 = .ok (.if_icmp .ge 7, 3) := zo_162 (zi_at zh_dX13_isBetter_192_192 8 rfl) (zi_at zh_dX13_isBetter_192_192 9 rfl) (zi_at zh_dX13_isBetter_192_192 10 rfl) rfl
theorem dX13_isBetter_203 : decode cX13_isBetter 203 = .ok (.iconst 1, 1) := zo_4 (zi_at zh_dX13_isBetter_192_192 11 rfl)
theorem dX13_isBetter_204 : decode cX13_isBetter 204 = .ok (.goto 4, 3) := zo_167 (zi_at zh_dX13_isBetter_192_192 12 rfl) (zi_at zh_dX13_isBetter_192_192 13 rfl) (zi_at zh_dX13_isBetter_192_192 14 rfl) rfl
theorem dX13_isBetter_207 : decode cX13_isBetter 207 = .ok (.iconst 0, 1) := zo_3 (zi_at zh_dX13_isBetter_192_192 15 rfl)
theorem dX13_isBetter_208 : decode cX13_isBetter 208 = .ok (.ireturn, 1) := zo_172 (zi_at zh_dX13_isBetter_208_208 0 rfl)
theorem dX13_ranked_0 : decode cX13_ranked 0 = .ok (.aload_n 0, 1) := zo_42 (zi_at zh_dX13_ranked_0_0 0 rfl)
theorem dX13_ranked_1 : decode cX13_ranked 1 = .ok (.iload_n 2, 1) := zo_28 (zi_at zh_dX13_ranked_0_0 1 rfl)
theorem dX13_ranked_2 : decode cX13_ranked 2 = .ok (.invokevirtual 450, 3) := zo_182 (zi_at zh_dX13_ranked_0_0 2 rfl) (zi_at zh_dX13_ranked_0_0 3 rfl) (zi_at zh_dX13_ranked_0_0 4 rfl) rfl
theorem dX13_ranked_5 : decode cX13_ranked 5 = .ok (.ifCond .ne 5, 3) := zo_154 (zi_at zh_dX13_ranked_0_0 5 rfl) (zi_at zh_dX13_ranked_0_0 6 rfl) (zi_at zh_dX13_ranked_0_0 7 rfl) rfl
theorem dX13_ranked_8 : decode cX13_ranked 8 = .ok (.iconst (-1), 1) := zo_2 (zi_at zh_dX13_ranked_0_0 8 rfl)
theorem dX13_ranked_9 : decode cX13_ranked 9 = .ok (.ireturn, 1) := zo_172 (zi_at zh_dX13_ranked_0_0 9 rfl)
theorem dX13_ranked_10 : decode cX13_ranked 10 = .ok (.iconst 0, 1) := zo_3 (zi_at zh_dX13_ranked_0_0 10 rfl)
theorem dX13_ranked_11 : decode cX13_ranked 11 = .ok (.istore_n 3, 1) := zo_62 (zi_at zh_dX13_ranked_0_0 11 rfl)
theorem dX13_ranked_12 : decode cX13_ranked 12 = .ok (.iload_n 3, 1) := zo_29 (zi_at zh_dX13_ranked_0_0 12 rfl)
theorem dX13_ranked_13 : decode cX13_ranked 13 = .ok (.aload_n 0, 1) := zo_42 (zi_at zh_dX13_ranked_0_0 13 rfl)
theorem dX13_ranked_14 : decode cX13_ranked 14 = .ok (.getfield 239, 3) := zo_180 (zi_at zh_dX13_ranked_0_0 14 rfl) (zi_at zh_dX13_ranked_0_0 15 rfl) (zi_at zh_dX13_ranked_14_16 0 rfl) rfl
theorem dX13_ranked_17 : decode cX13_ranked 17 = .ok (.if_icmp .ge 86, 3) := zo_162 (zi_at zh_dX13_ranked_14_16 1 rfl) (zi_at zh_dX13_ranked_14_16 2 rfl) (zi_at zh_dX13_ranked_14_16 3 rfl) rfl
theorem dX13_ranked_20 : decode cX13_ranked 20 = .ok (.aload_n 0, 1) := zo_42 (zi_at zh_dX13_ranked_14_16 4 rfl)
theorem dX13_ranked_21 : decode cX13_ranked 21 = .ok (.getfield 123, 3) := zo_180 (zi_at zh_dX13_ranked_14_16 5 rfl) (zi_at zh_dX13_ranked_14_16 6 rfl) (zi_at zh_dX13_ranked_14_16 7 rfl) rfl
theorem dX13_ranked_24 : decode cX13_ranked 24 = .ok (.iload_n 3, 1) := zo_29 (zi_at zh_dX13_ranked_14_16 8 rfl)
theorem dX13_ranked_25 : decode cX13_ranked 25 = .ok (.baload, 1) := zo_51 (zi_at zh_dX13_ranked_14_16 9 rfl)
theorem dX13_ranked_26 : decode cX13_ranked 26 = .ok (.ifCond .ne 6, 3) := zo_154 (zi_at zh_dX13_ranked_14_16 10 rfl) (zi_at zh_dX13_ranked_14_16 11 rfl) (zi_at zh_dX13_ranked_14_16 12 rfl) rfl
theorem dX13_ranked_29 : decode cX13_ranked 29 = .ok (.goto 68, 3) := zo_167 (zi_at zh_dX13_ranked_14_16 13 rfl) (zi_at zh_dX13_ranked_14_16 14 rfl) (zi_at zh_dX13_ranked_14_16 15 rfl) rfl
theorem dX13_ranked_32 : decode cX13_ranked 32 = .ok (.iconst 0, 1) := zo_3 (zi_at zh_dX13_ranked_32_32 0 rfl)
theorem dX13_ranked_33 : decode cX13_ranked 33 = .ok (.istore 4, 2) := zo_54 (zi_at zh_dX13_ranked_32_32 1 rfl) (zi_at zh_dX13_ranked_32_32 2 rfl)
theorem dX13_ranked_35 : decode cX13_ranked 35 = .ok (.iconst 0, 1) := zo_3 (zi_at zh_dX13_ranked_32_32 3 rfl)
theorem dX13_ranked_36 : decode cX13_ranked 36 = .ok (.istore 5, 2) := zo_54 (zi_at zh_dX13_ranked_32_32 4 rfl) (zi_at zh_dX13_ranked_32_32 5 rfl)
theorem dX13_ranked_38 : decode cX13_ranked 38 = .ok (.iload 5, 2) := zo_21 (zi_at zh_dX13_ranked_32_32 6 rfl) (zi_at zh_dX13_ranked_32_32 7 rfl)
theorem dX13_ranked_40 : decode cX13_ranked 40 = .ok (.aload_n 0, 1) := zo_42 (zi_at zh_dX13_ranked_32_32 8 rfl)
theorem dX13_ranked_41 : decode cX13_ranked 41 = .ok (.getfield 239, 3) := zo_180 (zi_at zh_dX13_ranked_32_32 9 rfl) (zi_at zh_dX13_ranked_32_32 10 rfl) (zi_at zh_dX13_ranked_32_32 11 rfl) rfl
theorem dX13_ranked_44 : decode cX13_ranked 44 = .ok (.if_icmp .ge 45, 3) := zo_162 (zi_at zh_dX13_ranked_32_32 12 rfl) (zi_at zh_dX13_ranked_32_32 13 rfl) (zi_at zh_dX13_ranked_32_32 14 rfl) rfl
theorem dX13_ranked_47 : decode cX13_ranked 47 = .ok (.iload 4, 2) := zo_21 (zi_at zh_dX13_ranked_32_32 15 rfl) (zi_at zh_dX13_ranked_47_48 0 rfl)
theorem dX13_ranked_49 : decode cX13_ranked 49 = .ok (.iload 5, 2) := zo_21 (zi_at zh_dX13_ranked_47_48 1 rfl) (zi_at zh_dX13_ranked_47_48 2 rfl)
theorem dX13_ranked_51 : decode cX13_ranked 51 = .ok (.iload_n 3, 1) := zo_29 (zi_at zh_dX13_ranked_47_48 3 rfl)
theorem dX13_ranked_52 : decode cX13_ranked 52 = .ok (.if_icmp .eq 27, 3) := zo_159 (zi_at zh_dX13_ranked_47_48 4 rfl) (zi_at zh_dX13_ranked_47_48 5 rfl) (zi_at zh_dX13_ranked_47_48 6 rfl) rfl
theorem dX13_ranked_55 : decode cX13_ranked 55 = .ok (.aload_n 0, 1) := zo_42 (zi_at zh_dX13_ranked_47_48 7 rfl)
theorem dX13_ranked_56 : decode cX13_ranked 56 = .ok (.getfield 123, 3) := zo_180 (zi_at zh_dX13_ranked_47_48 8 rfl) (zi_at zh_dX13_ranked_47_48 9 rfl) (zi_at zh_dX13_ranked_47_48 10 rfl) rfl
theorem dX13_ranked_59 : decode cX13_ranked 59 = .ok (.iload 5, 2) := zo_21 (zi_at zh_dX13_ranked_47_48 11 rfl) (zi_at zh_dX13_ranked_47_48 12 rfl)
theorem dX13_ranked_61 : decode cX13_ranked 61 = .ok (.baload, 1) := zo_51 (zi_at zh_dX13_ranked_47_48 13 rfl)
theorem dX13_ranked_62 : decode cX13_ranked 62 = .ok (.ifCond .eq 17, 3) := zo_153 (zi_at zh_dX13_ranked_47_48 14 rfl) (zi_at zh_dX13_ranked_47_48 15 rfl) (zi_at zh_dX13_ranked_62_64 0 rfl) rfl
theorem dX13_ranked_65 : decode cX13_ranked 65 = .ok (.aload_n 0, 1) := zo_42 (zi_at zh_dX13_ranked_62_64 1 rfl)
theorem dX13_ranked_66 : decode cX13_ranked 66 = .ok (.iload 5, 2) := zo_21 (zi_at zh_dX13_ranked_62_64 2 rfl) (zi_at zh_dX13_ranked_62_64 3 rfl)
theorem dX13_ranked_68 : decode cX13_ranked 68 = .ok (.iload_n 3, 1) := zo_29 (zi_at zh_dX13_ranked_62_64 4 rfl)
theorem dX13_ranked_69 : decode cX13_ranked 69 = .ok (.invokevirtual 457, 3) := zo_182 (zi_at zh_dX13_ranked_62_64 5 rfl) (zi_at zh_dX13_ranked_62_64 6 rfl) (zi_at zh_dX13_ranked_62_64 7 rfl) rfl
theorem dX13_ranked_72 : decode cX13_ranked 72 = .ok (.ifCond .eq 7, 3) := zo_153 (zi_at zh_dX13_ranked_62_64 8 rfl) (zi_at zh_dX13_ranked_62_64 9 rfl) (zi_at zh_dX13_ranked_62_64 10 rfl) rfl
theorem dX13_ranked_75 : decode cX13_ranked 75 = .ok (.iconst 1, 1) := zo_4 (zi_at zh_dX13_ranked_62_64 11 rfl)
theorem dX13_ranked_76 : decode cX13_ranked 76 = .ok (.goto 4, 3) := zo_167 (zi_at zh_dX13_ranked_62_64 12 rfl) (zi_at zh_dX13_ranked_62_64 13 rfl) (zi_at zh_dX13_ranked_62_64 14 rfl) rfl
theorem dX13_ranked_79 : decode cX13_ranked 79 = .ok (.iconst 0, 1) := zo_3 (zi_at zh_dX13_ranked_62_64 15 rfl)
theorem dX13_ranked_80 : decode cX13_ranked 80 = .ok (.iadd, 1) := zo_96 (zi_at zh_dX13_ranked_80_80 0 rfl)
theorem dX13_ranked_81 : decode cX13_ranked 81 = .ok (.istore 4, 2) := zo_54 (zi_at zh_dX13_ranked_80_80 1 rfl) (zi_at zh_dX13_ranked_80_80 2 rfl)
theorem dX13_ranked_83 : decode cX13_ranked 83 = .ok (.iinc 5 1, 3) := zo_132 (zi_at zh_dX13_ranked_80_80 3 rfl) (zi_at zh_dX13_ranked_80_80 4 rfl) (zi_at zh_dX13_ranked_80_80 5 rfl) rfl
theorem dX13_ranked_86 : decode cX13_ranked 86 = .ok (.goto (-48), 3) := zo_167 (zi_at zh_dX13_ranked_80_80 6 rfl) (zi_at zh_dX13_ranked_80_80 7 rfl) (zi_at zh_dX13_ranked_80_80 8 rfl) rfl
theorem dX13_ranked_89 : decode cX13_ranked 89 = .ok (.iload 4, 2) := zo_21 (zi_at zh_dX13_ranked_80_80 9 rfl) (zi_at zh_dX13_ranked_80_80 10 rfl)
theorem dX13_ranked_91 : decode cX13_ranked 91 = .ok (.iload_n 1, 1) := zo_27 (zi_at zh_dX13_ranked_80_80 11 rfl)
theorem dX13_ranked_92 : decode cX13_ranked 92 = .ok (.if_icmp .ne 5, 3) := zo_160 (zi_at zh_dX13_ranked_80_80 12 rfl) (zi_at zh_dX13_ranked_80_80 13 rfl) (zi_at zh_dX13_ranked_80_80 14 rfl) rfl
theorem dX13_ranked_95 : decode cX13_ranked 95 = .ok (.iload_n 3, 1) := zo_29 (zi_at zh_dX13_ranked_80_80 15 rfl)
theorem dX13_ranked_96 : decode cX13_ranked 96 = .ok (.ireturn, 1) := zo_172 (zi_at zh_dX13_ranked_96_96 0 rfl)
theorem dX13_ranked_97 : decode cX13_ranked 97 = .ok (.iinc 3 1, 3) := zo_132 (zi_at zh_dX13_ranked_96_96 1 rfl) (zi_at zh_dX13_ranked_96_96 2 rfl) (zi_at zh_dX13_ranked_96_96 3 rfl) rfl
theorem dX13_ranked_100 : decode cX13_ranked 100 = .ok (.goto (-88), 3) := zo_167 (zi_at zh_dX13_ranked_96_96 4 rfl) (zi_at zh_dX13_ranked_96_96 5 rfl) (zi_at zh_dX13_ranked_96_96 6 rfl) rfl
theorem dX13_ranked_103 : decode cX13_ranked 103 = .ok (.iconst (-1), 1) := zo_2 (zi_at zh_dX13_ranked_96_96 7 rfl)
theorem dX13_ranked_104 : decode cX13_ranked 104 = .ok (.ireturn, 1) := zo_172 (zi_at zh_dX13_ranked_96_96 8 rfl)
theorem dX13_onStarboard_0 : decode cX13_onStarboard 0 = .ok (.iload_n 0, 1) := zo_26 (zi_at zh_dX13_onStarboard_0_0 0 rfl)
theorem dX13_onStarboard_1 : decode cX13_onStarboard 1 = .ok (.iload_n 1, 1) := zo_27 (zi_at zh_dX13_onStarboard_0_0 1 rfl)
theorem dX13_onStarboard_2 : decode cX13_onStarboard 2 = .ok (.isub, 1) := zo_100 (zi_at zh_dX13_onStarboard_0_0 2 rfl)
theorem dX13_onStarboard_3 : decode cX13_onStarboard 3 = .ok (.bipush 8, 2) := zo_16 (zi_at zh_dX13_onStarboard_0_0 3 rfl) (zi_at zh_dX13_onStarboard_0_0 4 rfl) rfl
theorem dX13_onStarboard_5 : decode cX13_onStarboard 5 = .ok (.invokestatic 484, 3) := zo_184 (zi_at zh_dX13_onStarboard_0_0 5 rfl) (zi_at zh_dX13_onStarboard_0_0 6 rfl) (zi_at zh_dX13_onStarboard_0_0 7 rfl) rfl
theorem dX13_onStarboard_8 : decode cX13_onStarboard 8 = .ok (.iconst 4, 1) := zo_7 (zi_at zh_dX13_onStarboard_0_0 8 rfl)
theorem dX13_onStarboard_9 : decode cX13_onStarboard 9 = .ok (.if_icmp .le 7, 3) := zo_164 (zi_at zh_dX13_onStarboard_0_0 9 rfl) (zi_at zh_dX13_onStarboard_0_0 10 rfl) (zi_at zh_dX13_onStarboard_0_0 11 rfl) rfl
theorem dX13_onStarboard_12 : decode cX13_onStarboard 12 = .ok (.iconst 1, 1) := zo_4 (zi_at zh_dX13_onStarboard_0_0 12 rfl)
theorem dX13_onStarboard_13 : decode cX13_onStarboard 13 = .ok (.goto 4, 3) := zo_167 (zi_at zh_dX13_onStarboard_0_0 13 rfl) (zi_at zh_dX13_onStarboard_0_0 14 rfl) (zi_at zh_dX13_onStarboard_0_0 15 rfl) rfl
theorem dX13_onStarboard_16 : decode cX13_onStarboard 16 = .ok (.iconst 0, 1) := zo_3 (zi_at zh_dX13_onStarboard_16_16 0 rfl)
theorem dX13_onStarboard_17 : decode cX13_onStarboard 17 = .ok (.ireturn, 1) := zo_172 (zi_at zh_dX13_onStarboard_16_16 1 rfl)
theorem dX13_findingOf_0 : decode cX13_findingOf 0 = .ok (.aload_n 0, 1) := zo_42 (zi_at zh_dX13_findingOf_0_0 0 rfl)
theorem dX13_findingOf_1 : decode cX13_findingOf 1 = .ok (.getfield 150, 3) := zo_180 (zi_at zh_dX13_findingOf_0_0 1 rfl) (zi_at zh_dX13_findingOf_0_0 2 rfl) (zi_at zh_dX13_findingOf_0_0 3 rfl) rfl
theorem dX13_findingOf_4 : decode cX13_findingOf 4 = .ok (.iload_n 1, 1) := zo_27 (zi_at zh_dX13_findingOf_0_0 4 rfl)
theorem dX13_findingOf_5 : decode cX13_findingOf 5 = .ok (.iaload, 1) := zo_46 (zi_at zh_dX13_findingOf_0_0 5 rfl)
theorem dX13_findingOf_6 : decode cX13_findingOf 6 = .ok (.istore 4, 2) := zo_54 (zi_at zh_dX13_findingOf_0_0 6 rfl) (zi_at zh_dX13_findingOf_0_0 7 rfl)
theorem dX13_findingOf_8 : decode cX13_findingOf 8 = .ok (.iconst 0, 1) := zo_3 (zi_at zh_dX13_findingOf_0_0 8 rfl)
theorem dX13_findingOf_9 : decode cX13_findingOf 9 = .ok (.istore 5, 2) := zo_54 (zi_at zh_dX13_findingOf_0_0 9 rfl) (zi_at zh_dX13_findingOf_0_0 10 rfl)
theorem dX13_findingOf_11 : decode cX13_findingOf 11 = .ok (.iconst 0, 1) := zo_3 (zi_at zh_dX13_findingOf_0_0 11 rfl)
theorem dX13_findingOf_12 : decode cX13_findingOf 12 = .ok (.istore 6, 2) := zo_54 (zi_at zh_dX13_findingOf_0_0 12 rfl) (zi_at zh_dX13_findingOf_0_0 13 rfl)
theorem dX13_findingOf_14 : decode cX13_findingOf 14 = .ok (.aload_n 0, 1) := zo_42 (zi_at zh_dX13_findingOf_0_0 14 rfl)
theorem dX13_findingOf_15 : decode cX13_findingOf 15 = .ok (.getfield 59, 3) := zo_180 (zi_at zh_dX13_findingOf_0_0 15 rfl) (zi_at zh_dX13_findingOf_15_16 0 rfl) (zi_at zh_dX13_findingOf_15_16 1 rfl) rfl
theorem dX13_findingOf_18 : decode cX13_findingOf 18 = .ok (.iload 4, 2) := zo_21 (zi_at zh_dX13_findingOf_15_16 2 rfl) (zi_at zh_dX13_findingOf_15_16 3 rfl)
theorem dX13_findingOf_20 : decode cX13_findingOf 20 = .ok (.iaload, 1) := zo_46 (zi_at zh_dX13_findingOf_15_16 4 rfl)
theorem dX13_findingOf_21 : decode cX13_findingOf 21 = .ok (.istore 7, 2) := zo_54 (zi_at zh_dX13_findingOf_15_16 5 rfl) (zi_at zh_dX13_findingOf_15_16 6 rfl)
theorem dX13_findingOf_23 : decode cX13_findingOf 23 = .ok (.iconst 0, 1) := zo_3 (zi_at zh_dX13_findingOf_15_16 7 rfl)
theorem dX13_findingOf_24 : decode cX13_findingOf 24 = .ok (.istore 8, 2) := zo_54 (zi_at zh_dX13_findingOf_15_16 8 rfl) (zi_at zh_dX13_findingOf_15_16 9 rfl)
theorem dX13_findingOf_26 : decode cX13_findingOf 26 = .ok (.iload 8, 2) := zo_21 (zi_at zh_dX13_findingOf_15_16 10 rfl) (zi_at zh_dX13_findingOf_15_16 11 rfl)
theorem dX13_findingOf_28 : decode cX13_findingOf 28 = .ok (.aload_n 0, 1) := zo_42 (zi_at zh_dX13_findingOf_15_16 12 rfl)
theorem dX13_findingOf_29 : decode cX13_findingOf 29 = .ok (.getfield 189, 3) := zo_180 (zi_at zh_dX13_findingOf_15_16 13 rfl) (zi_at zh_dX13_findingOf_15_16 14 rfl) (zi_at zh_dX13_findingOf_15_16 15 rfl) rfl
theorem dX13_findingOf_32 : decode cX13_findingOf 32 = .ok (.iconst 0, 1) := zo_3 (zi_at zh_dX13_findingOf_32_32 0 rfl)
theorem dX13_findingOf_33 : decode cX13_findingOf 33 = .ok (.iaload, 1) := zo_46 (zi_at zh_dX13_findingOf_32_32 1 rfl)
theorem dX13_findingOf_34 : decode cX13_findingOf 34 = .ok (.if_icmp .ge 317, 3) := zo_162 (zi_at zh_dX13_findingOf_32_32 2 rfl) (zi_at zh_dX13_findingOf_32_32 3 rfl) (zi_at zh_dX13_findingOf_32_32 4 rfl) rfl
theorem dX13_findingOf_37 : decode cX13_findingOf 37 = .ok (.sipush 128, 3) := zo_17 (zi_at zh_dX13_findingOf_32_32 5 rfl) (zi_at zh_dX13_findingOf_32_32 6 rfl) (zi_at zh_dX13_findingOf_32_32 7 rfl) rfl
theorem dX13_findingOf_40 : decode cX13_findingOf 40 = .ok (.istore 9, 2) := zo_54 (zi_at zh_dX13_findingOf_32_32 8 rfl) (zi_at zh_dX13_findingOf_32_32 9 rfl)
theorem dX13_findingOf_42 : decode cX13_findingOf 42 = .ok (.iload 9, 2) := zo_21 (zi_at zh_dX13_findingOf_32_32 10 rfl) (zi_at zh_dX13_findingOf_32_32 11 rfl)
theorem dX13_findingOf_44 : decode cX13_findingOf 44 = .ok (.sipush 128, 3) := zo_17 (zi_at zh_dX13_findingOf_32_32 12 rfl) (zi_at zh_dX13_findingOf_32_32 13 rfl) (zi_at zh_dX13_findingOf_32_32 14 rfl) rfl
theorem dX13_findingOf_47 : decode cX13_findingOf 47 = .ok (.aload_n 0, 1) := zo_42 (zi_at zh_dX13_findingOf_32_32 15 rfl)
theorem dX13_findingOf_48 : decode cX13_findingOf 48 = .ok (.getfield 189, 3) := zo_180 (zi_at zh_dX13_findingOf_48_48 0 rfl) (zi_at zh_dX13_findingOf_48_48 1 rfl) (zi_at zh_dX13_findingOf_48_48 2 rfl) rfl
theorem dX13_findingOf_51 : decode cX13_findingOf 51 = .ok (.iconst 1, 1) := zo_4 (zi_at zh_dX13_findingOf_48_48 3 rfl)
theorem dX13_findingOf_52 : decode cX13_findingOf 52 = .ok (.iaload, 1) := zo_46 (zi_at zh_dX13_findingOf_48_48 4 rfl)
theorem dX13_findingOf_53 : decode cX13_findingOf 53 = .ok (.iadd, 1) := zo_96 (zi_at zh_dX13_findingOf_48_48 5 rfl)
theorem dX13_findingOf_54 : decode cX13_findingOf 54 = .ok (.if_icmp .ge 291, 3) := zo_162 (zi_at zh_dX13_findingOf_48_48 6 rfl) (zi_at zh_dX13_findingOf_48_48 7 rfl) (zi_at zh_dX13_findingOf_48_48 8 rfl) rfl
theorem dX13_findingOf_57 : decode cX13_findingOf 57 = .ok (.aload_n 0, 1) := zo_42 (zi_at zh_dX13_findingOf_48_48 9 rfl)
theorem dX13_findingOf_58 : decode cX13_findingOf 58 = .ok (.invokevirtual 377, 3) := zo_182 (zi_at zh_dX13_findingOf_48_48 10 rfl) (zi_at zh_dX13_findingOf_48_48 11 rfl) (zi_at zh_dX13_findingOf_48_48 12 rfl) rfl
theorem dX13_findingOf_61 : decode cX13_findingOf 61 = .ok (.aload_n 0, 1) := zo_42 (zi_at zh_dX13_findingOf_48_48 13 rfl)
theorem dX13_findingOf_62 : decode cX13_findingOf 62 = .ok (.getfield 44, 3) := zo_180 (zi_at zh_dX13_findingOf_48_48 14 rfl) (zi_at zh_dX13_findingOf_48_48 15 rfl) (zi_at zh_dX13_findingOf_62_64 0 rfl) rfl
theorem dX13_findingOf_65 : decode cX13_findingOf 65 = .ok (.bipush 100, 2) := zo_16 (zi_at zh_dX13_findingOf_62_64 1 rfl) (zi_at zh_dX13_findingOf_62_64 2 rfl) rfl
theorem dX13_findingOf_67 : decode cX13_findingOf 67 = .ok (.aload_n 0, 1) := zo_42 (zi_at zh_dX13_findingOf_62_64 3 rfl)
theorem dX13_findingOf_68 : decode cX13_findingOf 68 = .ok (.getfield 180, 3) := zo_180 (zi_at zh_dX13_findingOf_62_64 4 rfl) (zi_at zh_dX13_findingOf_62_64 5 rfl) (zi_at zh_dX13_findingOf_62_64 6 rfl) rfl
theorem dX13_findingOf_71 : decode cX13_findingOf 71 = .ok (.iload 8, 2) := zo_21 (zi_at zh_dX13_findingOf_62_64 7 rfl) (zi_at zh_dX13_findingOf_62_64 8 rfl)
theorem dX13_findingOf_73 : decode cX13_findingOf 73 = .ok (.iaload, 1) := zo_46 (zi_at zh_dX13_findingOf_62_64 9 rfl)
theorem dX13_findingOf_74 : decode cX13_findingOf 74 = .ok (.aload_n 0, 1) := zo_42 (zi_at zh_dX13_findingOf_62_64 10 rfl)
theorem dX13_findingOf_75 : decode cX13_findingOf 75 = .ok (.getfield 183, 3) := zo_180 (zi_at zh_dX13_findingOf_62_64 11 rfl) (zi_at zh_dX13_findingOf_62_64 12 rfl) (zi_at zh_dX13_findingOf_62_64 13 rfl) rfl
theorem dX13_findingOf_78 : decode cX13_findingOf 78 = .ok (.iload 8, 2) := zo_21 (zi_at zh_dX13_findingOf_62_64 14 rfl) (zi_at zh_dX13_findingOf_62_64 15 rfl)
theorem dX13_findingOf_80 : decode cX13_findingOf 80 = .ok (.iaload, 1) := zo_46 (zi_at zh_dX13_findingOf_80_80 0 rfl)
theorem dX13_findingOf_81 : decode cX13_findingOf 81 = .ok (.aload_n 0, 1) := zo_42 (zi_at zh_dX13_findingOf_80_80 1 rfl)
theorem dX13_findingOf_82 : decode cX13_findingOf 82 = .ok (.getfield 180, 3) := zo_180 (zi_at zh_dX13_findingOf_80_80 2 rfl) (zi_at zh_dX13_findingOf_80_80 3 rfl) (zi_at zh_dX13_findingOf_80_80 4 rfl) rfl
theorem dX13_findingOf_85 : decode cX13_findingOf 85 = .ok (.iload 9, 2) := zo_21 (zi_at zh_dX13_findingOf_80_80 5 rfl) (zi_at zh_dX13_findingOf_80_80 6 rfl)
theorem dX13_findingOf_87 : decode cX13_findingOf 87 = .ok (.iaload, 1) := zo_46 (zi_at zh_dX13_findingOf_80_80 7 rfl)
theorem dX13_findingOf_88 : decode cX13_findingOf 88 = .ok (.aload_n 0, 1) := zo_42 (zi_at zh_dX13_findingOf_80_80 8 rfl)
theorem dX13_findingOf_89 : decode cX13_findingOf 89 = .ok (.getfield 183, 3) := zo_180 (zi_at zh_dX13_findingOf_80_80 9 rfl) (zi_at zh_dX13_findingOf_80_80 10 rfl) (zi_at zh_dX13_findingOf_80_80 11 rfl) rfl
theorem dX13_findingOf_92 : decode cX13_findingOf 92 = .ok (.iload 9, 2) := zo_21 (zi_at zh_dX13_findingOf_80_80 12 rfl) (zi_at zh_dX13_findingOf_80_80 13 rfl)
theorem dX13_findingOf_94 : decode cX13_findingOf 94 = .ok (.iaload, 1) := zo_46 (zi_at zh_dX13_findingOf_80_80 14 rfl)
theorem dX13_findingOf_95 : decode cX13_findingOf 95 = .ok (.invokestatic 487, 3) := zo_184 (zi_at zh_dX13_findingOf_80_80 15 rfl) (zi_at zh_dX13_findingOf_95_96 0 rfl) (zi_at zh_dX13_findingOf_95_96 1 rfl) rfl
theorem dX13_findingOf_98 : decode cX13_findingOf 98 = .ok (.iastore, 1) := zo_79 (zi_at zh_dX13_findingOf_95_96 2 rfl)
theorem dX13_findingOf_99 : decode cX13_findingOf 99 = .ok (.aload_n 0, 1) := zo_42 (zi_at zh_dX13_findingOf_95_96 3 rfl)
theorem dX13_findingOf_100 : decode cX13_findingOf 100 = .ok (.getfield 44, 3) := zo_180 (zi_at zh_dX13_findingOf_95_96 4 rfl) (zi_at zh_dX13_findingOf_95_96 5 rfl) (zi_at zh_dX13_findingOf_95_96 6 rfl) rfl
theorem dX13_findingOf_103 : decode cX13_findingOf 103 = .ok (.bipush 103, 2) := zo_16 (zi_at zh_dX13_findingOf_95_96 7 rfl) (zi_at zh_dX13_findingOf_95_96 8 rfl) rfl
theorem dX13_findingOf_105 : decode cX13_findingOf 105 = .ok (.aload_n 0, 1) := zo_42 (zi_at zh_dX13_findingOf_95_96 9 rfl)
theorem dX13_findingOf_106 : decode cX13_findingOf 106 = .ok (.getfield 186, 3) := zo_180 (zi_at zh_dX13_findingOf_95_96 10 rfl) (zi_at zh_dX13_findingOf_95_96 11 rfl) (zi_at zh_dX13_findingOf_95_96 12 rfl) rfl
theorem dX13_findingOf_109 : decode cX13_findingOf 109 = .ok (.iload 8, 2) := zo_21 (zi_at zh_dX13_findingOf_95_96 13 rfl) (zi_at zh_dX13_findingOf_95_96 14 rfl)
theorem dX13_findingOf_111 : decode cX13_findingOf 111 = .ok (.iaload, 1) := zo_46 (zi_at zh_dX13_findingOf_95_96 15 rfl)
theorem dX13_findingOf_112 : decode cX13_findingOf 112 = .ok (.iload 7, 2) := zo_21 (zi_at zh_dX13_findingOf_112_112 0 rfl) (zi_at zh_dX13_findingOf_112_112 1 rfl)
theorem dX13_findingOf_114 : decode cX13_findingOf 114 = .ok (.invokestatic 491, 3) := zo_184 (zi_at zh_dX13_findingOf_112_112 2 rfl) (zi_at zh_dX13_findingOf_112_112 3 rfl) (zi_at zh_dX13_findingOf_112_112 4 rfl) rfl
theorem dX13_findingOf_117 : decode cX13_findingOf 117 = .ok (.iastore, 1) := zo_79 (zi_at zh_dX13_findingOf_112_112 5 rfl)
theorem dX13_findingOf_118 : decode cX13_findingOf 118 = .ok (.aload_n 0, 1) := zo_42 (zi_at zh_dX13_findingOf_112_112 6 rfl)
theorem dX13_findingOf_119 : decode cX13_findingOf 119 = .ok (.getfield 44, 3) := zo_180 (zi_at zh_dX13_findingOf_112_112 7 rfl) (zi_at zh_dX13_findingOf_112_112 8 rfl) (zi_at zh_dX13_findingOf_112_112 9 rfl) rfl
theorem dX13_findingOf_122 : decode cX13_findingOf 122 = .ok (.bipush 104, 2) := zo_16 (zi_at zh_dX13_findingOf_112_112 10 rfl) (zi_at zh_dX13_findingOf_112_112 11 rfl) rfl
theorem dX13_findingOf_124 : decode cX13_findingOf 124 = .ok (.aload_n 0, 1) := zo_42 (zi_at zh_dX13_findingOf_112_112 12 rfl)
theorem dX13_findingOf_125 : decode cX13_findingOf 125 = .ok (.getfield 186, 3) := zo_180 (zi_at zh_dX13_findingOf_112_112 13 rfl) (zi_at zh_dX13_findingOf_112_112 14 rfl) (zi_at zh_dX13_findingOf_112_112 15 rfl) rfl
theorem dX13_findingOf_128 : decode cX13_findingOf 128 = .ok (.iload 9, 2) := zo_21 (zi_at zh_dX13_findingOf_128_128 0 rfl) (zi_at zh_dX13_findingOf_128_128 1 rfl)
theorem dX13_findingOf_130 : decode cX13_findingOf 130 = .ok (.iaload, 1) := zo_46 (zi_at zh_dX13_findingOf_128_128 2 rfl)
theorem dX13_findingOf_131 : decode cX13_findingOf 131 = .ok (.iload 7, 2) := zo_21 (zi_at zh_dX13_findingOf_128_128 3 rfl) (zi_at zh_dX13_findingOf_128_128 4 rfl)
theorem dX13_findingOf_133 : decode cX13_findingOf 133 = .ok (.invokestatic 491, 3) := zo_184 (zi_at zh_dX13_findingOf_128_128 5 rfl) (zi_at zh_dX13_findingOf_128_128 6 rfl) (zi_at zh_dX13_findingOf_128_128 7 rfl) rfl
theorem dX13_findingOf_136 : decode cX13_findingOf 136 = .ok (.iastore, 1) := zo_79 (zi_at zh_dX13_findingOf_128_128 8 rfl)
theorem dX13_findingOf_137 : decode cX13_findingOf 137 = .ok (.aload_n 0, 1) := zo_42 (zi_at zh_dX13_findingOf_128_128 9 rfl)
theorem dX13_findingOf_138 : decode cX13_findingOf 138 = .ok (.getfield 44, 3) := zo_180 (zi_at zh_dX13_findingOf_128_128 10 rfl) (zi_at zh_dX13_findingOf_128_128 11 rfl) (zi_at zh_dX13_findingOf_128_128 12 rfl) rfl
theorem dX13_findingOf_141 : decode cX13_findingOf 141 = .ok (.bipush 117, 2) := zo_16 (zi_at zh_dX13_findingOf_128_128 13 rfl) (zi_at zh_dX13_findingOf_128_128 14 rfl) rfl
theorem dX13_findingOf_143 : decode cX13_findingOf 143 = .ok (.aload_n 0, 1) := zo_42 (zi_at zh_dX13_findingOf_128_128 15 rfl)
theorem dX13_findingOf_144 : decode cX13_findingOf 144 = .ok (.getfield 180, 3) := zo_180 (zi_at zh_dX13_findingOf_144_144 0 rfl) (zi_at zh_dX13_findingOf_144_144 1 rfl) (zi_at zh_dX13_findingOf_144_144 2 rfl) rfl
theorem dX13_findingOf_147 : decode cX13_findingOf 147 = .ok (.iload 8, 2) := zo_21 (zi_at zh_dX13_findingOf_144_144 3 rfl) (zi_at zh_dX13_findingOf_144_144 4 rfl)
theorem dX13_findingOf_149 : decode cX13_findingOf 149 = .ok (.iaload, 1) := zo_46 (zi_at zh_dX13_findingOf_144_144 5 rfl)
theorem dX13_findingOf_150 : decode cX13_findingOf 150 = .ok (.aload_n 0, 1) := zo_42 (zi_at zh_dX13_findingOf_144_144 6 rfl)
theorem dX13_findingOf_151 : decode cX13_findingOf 151 = .ok (.getfield 180, 3) := zo_180 (zi_at zh_dX13_findingOf_144_144 7 rfl) (zi_at zh_dX13_findingOf_144_144 8 rfl) (zi_at zh_dX13_findingOf_144_144 9 rfl) rfl
theorem dX13_findingOf_154 : decode cX13_findingOf 154 = .ok (.iload 9, 2) := zo_21 (zi_at zh_dX13_findingOf_144_144 10 rfl) (zi_at zh_dX13_findingOf_144_144 11 rfl)
theorem dX13_findingOf_156 : decode cX13_findingOf 156 = .ok (.iaload, 1) := zo_46 (zi_at zh_dX13_findingOf_144_144 12 rfl)
theorem dX13_findingOf_157 : decode cX13_findingOf 157 = .ok (.isub, 1) := zo_100 (zi_at zh_dX13_findingOf_144_144 13 rfl)
theorem dX13_findingOf_158 : decode cX13_findingOf 158 = .ok (.iload 7, 2) := zo_21 (zi_at zh_dX13_findingOf_144_144 14 rfl) (zi_at zh_dX13_findingOf_144_144 15 rfl)
theorem dX13_findingOf_160 : decode cX13_findingOf 160 = .ok (.invokestatic 494, 3) := zo_184 (zi_at zh_dX13_findingOf_160_160 0 rfl) (zi_at zh_dX13_findingOf_160_160 1 rfl) (zi_at zh_dX13_findingOf_160_160 2 rfl) rfl
theorem dX13_findingOf_163 : decode cX13_findingOf 163 = .ok (.imul, 1) := zo_104 (zi_at zh_dX13_findingOf_160_160 3 rfl)
theorem dX13_findingOf_164 : decode cX13_findingOf 164 = .ok (.aload_n 0, 1) := zo_42 (zi_at zh_dX13_findingOf_160_160 4 rfl)
theorem dX13_findingOf_165 : decode cX13_findingOf 165 = .ok (.getfield 183, 3) := zo_180 (zi_at zh_dX13_findingOf_160_160 5 rfl) (zi_at zh_dX13_findingOf_160_160 6 rfl) (zi_at zh_dX13_findingOf_160_160 7 rfl) rfl
theorem dX13_findingOf_168 : decode cX13_findingOf 168 = .ok (.iload 8, 2) := zo_21 (zi_at zh_dX13_findingOf_160_160 8 rfl) (zi_at zh_dX13_findingOf_160_160 9 rfl)
theorem dX13_findingOf_170 : decode cX13_findingOf 170 = .ok (.iaload, 1) := zo_46 (zi_at zh_dX13_findingOf_160_160 10 rfl)
theorem dX13_findingOf_171 : decode cX13_findingOf 171 = .ok (.aload_n 0, 1) := zo_42 (zi_at zh_dX13_findingOf_160_160 11 rfl)
theorem dX13_findingOf_172 : decode cX13_findingOf 172 = .ok (.getfield 183, 3) := zo_180 (zi_at zh_dX13_findingOf_160_160 12 rfl) (zi_at zh_dX13_findingOf_160_160 13 rfl) (zi_at zh_dX13_findingOf_160_160 14 rfl) rfl
theorem dX13_findingOf_175 : decode cX13_findingOf 175 = .ok (.iload 9, 2) := zo_21 (zi_at zh_dX13_findingOf_160_160 15 rfl) (zi_at zh_dX13_findingOf_175_176 0 rfl)
theorem dX13_findingOf_177 : decode cX13_findingOf 177 = .ok (.iaload, 1) := zo_46 (zi_at zh_dX13_findingOf_175_176 1 rfl)
theorem dX13_findingOf_178 : decode cX13_findingOf 178 = .ok (.isub, 1) := zo_100 (zi_at zh_dX13_findingOf_175_176 2 rfl)
theorem dX13_findingOf_179 : decode cX13_findingOf 179 = .ok (.iload 7, 2) := zo_21 (zi_at zh_dX13_findingOf_175_176 3 rfl) (zi_at zh_dX13_findingOf_175_176 4 rfl)
theorem dX13_findingOf_181 : decode cX13_findingOf 181 = .ok (.invokestatic 497, 3) := zo_184 (zi_at zh_dX13_findingOf_175_176 5 rfl) (zi_at zh_dX13_findingOf_175_176 6 rfl) (zi_at zh_dX13_findingOf_175_176 7 rfl) rfl
theorem dX13_findingOf_184 : decode cX13_findingOf 184 = .ok (.imul, 1) := zo_104 (zi_at zh_dX13_findingOf_175_176 8 rfl)
theorem dX13_findingOf_185 : decode cX13_findingOf 185 = .ok (.iadd, 1) := zo_96 (zi_at zh_dX13_findingOf_175_176 9 rfl)
theorem dX13_findingOf_186 : decode cX13_findingOf 186 = .ok (.ifCond .le 7, 3) := zo_158 (zi_at zh_dX13_findingOf_175_176 10 rfl) (zi_at zh_dX13_findingOf_175_176 11 rfl) (zi_at zh_dX13_findingOf_175_176 12 rfl) rfl
theorem dX13_findingOf_189 : decode cX13_findingOf 189 = .ok (.iconst 1, 1) := zo_4 (zi_at zh_dX13_findingOf_175_176 13 rfl)
theorem dX13_findingOf_190 : decode cX13_findingOf 190 = .ok (.goto 4, 3) := zo_167 (zi_at zh_dX13_findingOf_175_176 14 rfl) (zi_at zh_dX13_findingOf_175_176 15 rfl) (zi_at zh_dX13_findingOf_190_192 0 rfl) rfl
theorem dX13_findingOf_193 : decode cX13_findingOf 193 = .ok (.iconst 0, 1) := zo_3 (zi_at zh_dX13_findingOf_190_192 1 rfl)
theorem dX13_findingOf_194 : decode cX13_findingOf 194 = .ok (.iastore, 1) := zo_79 (zi_at zh_dX13_findingOf_190_192 2 rfl)
theorem dX13_findingOf_195 : decode cX13_findingOf 195 = .ok (.aload_n 0, 1) := zo_42 (zi_at zh_dX13_findingOf_190_192 3 rfl)
theorem dX13_findingOf_196 : decode cX13_findingOf 196 = .ok (.getfield 44, 3) := zo_180 (zi_at zh_dX13_findingOf_190_192 4 rfl) (zi_at zh_dX13_findingOf_190_192 5 rfl) (zi_at zh_dX13_findingOf_190_192 6 rfl) rfl
theorem dX13_findingOf_199 : decode cX13_findingOf 199 = .ok (.bipush 109, 2) := zo_16 (zi_at zh_dX13_findingOf_190_192 7 rfl) (zi_at zh_dX13_findingOf_190_192 8 rfl) rfl
theorem dX13_findingOf_201 : decode cX13_findingOf 201 = .ok (.aload_n 0, 1) := zo_42 (zi_at zh_dX13_findingOf_190_192 9 rfl)
theorem dX13_findingOf_202 : decode cX13_findingOf 202 = .ok (.getfield 180, 3) := zo_180 (zi_at zh_dX13_findingOf_190_192 10 rfl) (zi_at zh_dX13_findingOf_190_192 11 rfl) (zi_at zh_dX13_findingOf_190_192 12 rfl) rfl
theorem dX13_findingOf_205 : decode cX13_findingOf 205 = .ok (.iload 8, 2) := zo_21 (zi_at zh_dX13_findingOf_190_192 13 rfl) (zi_at zh_dX13_findingOf_190_192 14 rfl)
theorem dX13_findingOf_207 : decode cX13_findingOf 207 = .ok (.iaload, 1) := zo_46 (zi_at zh_dX13_findingOf_190_192 15 rfl)
theorem dX13_findingOf_208 : decode cX13_findingOf 208 = .ok (.aload_n 0, 1) := zo_42 (zi_at zh_dX13_findingOf_208_208 0 rfl)
theorem dX13_findingOf_209 : decode cX13_findingOf 209 = .ok (.getfield 183, 3) := zo_180 (zi_at zh_dX13_findingOf_208_208 1 rfl) (zi_at zh_dX13_findingOf_208_208 2 rfl) (zi_at zh_dX13_findingOf_208_208 3 rfl) rfl
theorem dX13_findingOf_212 : decode cX13_findingOf 212 = .ok (.iload 8, 2) := zo_21 (zi_at zh_dX13_findingOf_208_208 4 rfl) (zi_at zh_dX13_findingOf_208_208 5 rfl)
theorem dX13_findingOf_214 : decode cX13_findingOf 214 = .ok (.iaload, 1) := zo_46 (zi_at zh_dX13_findingOf_208_208 6 rfl)
theorem dX13_findingOf_215 : decode cX13_findingOf 215 = .ok (.aload_n 0, 1) := zo_42 (zi_at zh_dX13_findingOf_208_208 7 rfl)
theorem dX13_findingOf_216 : decode cX13_findingOf 216 = .ok (.getfield 62, 3) := zo_180 (zi_at zh_dX13_findingOf_208_208 8 rfl) (zi_at zh_dX13_findingOf_208_208 9 rfl) (zi_at zh_dX13_findingOf_208_208 10 rfl) rfl
theorem dX13_findingOf_219 : decode cX13_findingOf 219 = .ok (.iload 4, 2) := zo_21 (zi_at zh_dX13_findingOf_208_208 11 rfl) (zi_at zh_dX13_findingOf_208_208 12 rfl)
theorem dX13_findingOf_221 : decode cX13_findingOf 221 = .ok (.iaload, 1) := zo_46 (zi_at zh_dX13_findingOf_208_208 13 rfl)
theorem dX13_findingOf_222 : decode cX13_findingOf 222 = .ok (.aload_n 0, 1) := zo_42 (zi_at zh_dX13_findingOf_208_208 14 rfl)
theorem dX13_findingOf_223 : decode cX13_findingOf 223 = .ok (.getfield 65, 3) := zo_180 (zi_at zh_dX13_findingOf_208_208 15 rfl) (zi_at zh_dX13_findingOf_223_224 0 rfl) (zi_at zh_dX13_findingOf_223_224 1 rfl) rfl
theorem dX13_findingOf_226 : decode cX13_findingOf 226 = .ok (.iload 4, 2) := zo_21 (zi_at zh_dX13_findingOf_223_224 2 rfl) (zi_at zh_dX13_findingOf_223_224 3 rfl)
theorem dX13_findingOf_228 : decode cX13_findingOf 228 = .ok (.iaload, 1) := zo_46 (zi_at zh_dX13_findingOf_223_224 4 rfl)
theorem dX13_findingOf_229 : decode cX13_findingOf 229 = .ok (.invokestatic 487, 3) := zo_184 (zi_at zh_dX13_findingOf_223_224 5 rfl) (zi_at zh_dX13_findingOf_223_224 6 rfl) (zi_at zh_dX13_findingOf_223_224 7 rfl) rfl
theorem dX13_findingOf_232 : decode cX13_findingOf 232 = .ok (.iastore, 1) := zo_79 (zi_at zh_dX13_findingOf_223_224 8 rfl)
theorem dX13_findingOf_233 : decode cX13_findingOf 233 = .ok (.aload_n 0, 1) := zo_42 (zi_at zh_dX13_findingOf_223_224 9 rfl)
theorem dX13_findingOf_234 : decode cX13_findingOf 234 = .ok (.getfield 44, 3) := zo_180 (zi_at zh_dX13_findingOf_223_224 10 rfl) (zi_at zh_dX13_findingOf_223_224 11 rfl) (zi_at zh_dX13_findingOf_223_224 12 rfl) rfl
theorem dX13_findingOf_237 : decode cX13_findingOf 237 = .ok (.bipush 107, 2) := zo_16 (zi_at zh_dX13_findingOf_223_224 13 rfl) (zi_at zh_dX13_findingOf_223_224 14 rfl) rfl
theorem dX13_findingOf_239 : decode cX13_findingOf 239 = .ok (.aload_n 0, 1) := zo_42 (zi_at zh_dX13_findingOf_223_224 15 rfl)
theorem dX13_findingOf_240 : decode cX13_findingOf 240 = .ok (.getfield 180, 3) := zo_180 (zi_at zh_dX13_findingOf_240_240 0 rfl) (zi_at zh_dX13_findingOf_240_240 1 rfl) (zi_at zh_dX13_findingOf_240_240 2 rfl) rfl
theorem dX13_findingOf_243 : decode cX13_findingOf 243 = .ok (.iload 9, 2) := zo_21 (zi_at zh_dX13_findingOf_240_240 3 rfl) (zi_at zh_dX13_findingOf_240_240 4 rfl)
theorem dX13_findingOf_245 : decode cX13_findingOf 245 = .ok (.iaload, 1) := zo_46 (zi_at zh_dX13_findingOf_240_240 5 rfl)
theorem dX13_findingOf_246 : decode cX13_findingOf 246 = .ok (.aload_n 0, 1) := zo_42 (zi_at zh_dX13_findingOf_240_240 6 rfl)
theorem dX13_findingOf_247 : decode cX13_findingOf 247 = .ok (.getfield 183, 3) := zo_180 (zi_at zh_dX13_findingOf_240_240 7 rfl) (zi_at zh_dX13_findingOf_240_240 8 rfl) (zi_at zh_dX13_findingOf_240_240 9 rfl) rfl
theorem dX13_findingOf_250 : decode cX13_findingOf 250 = .ok (.iload 9, 2) := zo_21 (zi_at zh_dX13_findingOf_240_240 10 rfl) (zi_at zh_dX13_findingOf_240_240 11 rfl)
theorem dX13_findingOf_252 : decode cX13_findingOf 252 = .ok (.iaload, 1) := zo_46 (zi_at zh_dX13_findingOf_240_240 12 rfl)
theorem dX13_findingOf_253 : decode cX13_findingOf 253 = .ok (.aload_n 0, 1) := zo_42 (zi_at zh_dX13_findingOf_240_240 13 rfl)
theorem dX13_findingOf_254 : decode cX13_findingOf 254 = .ok (.getfield 62, 3) := zo_180 (zi_at zh_dX13_findingOf_240_240 14 rfl) (zi_at zh_dX13_findingOf_240_240 15 rfl) (zi_at zh_dX13_findingOf_254_256 0 rfl) rfl
theorem dX13_findingOf_257 : decode cX13_findingOf 257 = .ok (.iload 4, 2) := zo_21 (zi_at zh_dX13_findingOf_254_256 1 rfl) (zi_at zh_dX13_findingOf_254_256 2 rfl)
theorem dX13_findingOf_259 : decode cX13_findingOf 259 = .ok (.iaload, 1) := zo_46 (zi_at zh_dX13_findingOf_254_256 3 rfl)
theorem dX13_findingOf_260 : decode cX13_findingOf 260 = .ok (.aload_n 0, 1) := zo_42 (zi_at zh_dX13_findingOf_254_256 4 rfl)
theorem dX13_findingOf_261 : decode cX13_findingOf 261 = .ok (.getfield 65, 3) := zo_180 (zi_at zh_dX13_findingOf_254_256 5 rfl) (zi_at zh_dX13_findingOf_254_256 6 rfl) (zi_at zh_dX13_findingOf_254_256 7 rfl) rfl
theorem dX13_findingOf_264 : decode cX13_findingOf 264 = .ok (.iload 4, 2) := zo_21 (zi_at zh_dX13_findingOf_254_256 8 rfl) (zi_at zh_dX13_findingOf_254_256 9 rfl)
theorem dX13_findingOf_266 : decode cX13_findingOf 266 = .ok (.iaload, 1) := zo_46 (zi_at zh_dX13_findingOf_254_256 10 rfl)
theorem dX13_findingOf_267 : decode cX13_findingOf 267 = .ok (.invokestatic 487, 3) := zo_184 (zi_at zh_dX13_findingOf_254_256 11 rfl) (zi_at zh_dX13_findingOf_254_256 12 rfl) (zi_at zh_dX13_findingOf_254_256 13 rfl) rfl
theorem dX13_findingOf_270 : decode cX13_findingOf 270 = .ok (.iastore, 1) := zo_79 (zi_at zh_dX13_findingOf_254_256 14 rfl)
theorem dX13_findingOf_271 : decode cX13_findingOf 271 = .ok (.aload_n 0, 1) := zo_42 (zi_at zh_dX13_findingOf_254_256 15 rfl)
theorem dX13_findingOf_272 : decode cX13_findingOf 272 = .ok (.getfield 44, 3) := zo_180 (zi_at zh_dX13_findingOf_272_272 0 rfl) (zi_at zh_dX13_findingOf_272_272 1 rfl) (zi_at zh_dX13_findingOf_272_272 2 rfl) rfl
theorem dX13_findingOf_275 : decode cX13_findingOf 275 = .ok (.bipush 111, 2) := zo_16 (zi_at zh_dX13_findingOf_272_272 3 rfl) (zi_at zh_dX13_findingOf_272_272 4 rfl) rfl
theorem dX13_findingOf_277 : decode cX13_findingOf 277 = .ok (.aload_n 0, 1) := zo_42 (zi_at zh_dX13_findingOf_272_272 5 rfl)
theorem dX13_findingOf_278 : decode cX13_findingOf 278 = .ok (.getfield 186, 3) := zo_180 (zi_at zh_dX13_findingOf_272_272 6 rfl) (zi_at zh_dX13_findingOf_272_272 7 rfl) (zi_at zh_dX13_findingOf_272_272 8 rfl) rfl
theorem dX13_findingOf_281 : decode cX13_findingOf 281 = .ok (.iload 8, 2) := zo_21 (zi_at zh_dX13_findingOf_272_272 9 rfl) (zi_at zh_dX13_findingOf_272_272 10 rfl)
theorem dX13_findingOf_283 : decode cX13_findingOf 283 = .ok (.iaload, 1) := zo_46 (zi_at zh_dX13_findingOf_272_272 11 rfl)
theorem dX13_findingOf_284 : decode cX13_findingOf 284 = .ok (.aload_n 0, 1) := zo_42 (zi_at zh_dX13_findingOf_272_272 12 rfl)
theorem dX13_findingOf_285 : decode cX13_findingOf 285 = .ok (.getfield 186, 3) := zo_180 (zi_at zh_dX13_findingOf_272_272 13 rfl) (zi_at zh_dX13_findingOf_272_272 14 rfl) (zi_at zh_dX13_findingOf_272_272 15 rfl) rfl
theorem dX13_findingOf_288 : decode cX13_findingOf 288 = .ok (.iload 9, 2) := zo_21 (zi_at zh_dX13_findingOf_288_288 0 rfl) (zi_at zh_dX13_findingOf_288_288 1 rfl)
theorem dX13_findingOf_290 : decode cX13_findingOf 290 = .ok (.iaload, 1) := zo_46 (zi_at zh_dX13_findingOf_288_288 2 rfl)
theorem dX13_findingOf_291 : decode cX13_findingOf 291 = .ok (.if_icmp .ne 7, 3) := zo_160 (zi_at zh_dX13_findingOf_288_288 3 rfl) (zi_at zh_dX13_findingOf_288_288 4 rfl) (zi_at zh_dX13_findingOf_288_288 5 rfl) rfl
theorem dX13_findingOf_294 : decode cX13_findingOf 294 = .ok (.iconst 1, 1) := zo_4 (zi_at zh_dX13_findingOf_288_288 6 rfl)
theorem dX13_findingOf_295 : decode cX13_findingOf 295 = .ok (.goto 4, 3) := zo_167 (zi_at zh_dX13_findingOf_288_288 7 rfl) (zi_at zh_dX13_findingOf_288_288 8 rfl) (zi_at zh_dX13_findingOf_288_288 9 rfl) rfl
theorem dX13_findingOf_298 : decode cX13_findingOf 298 = .ok (.iconst 0, 1) := zo_3 (zi_at zh_dX13_findingOf_288_288 10 rfl)
theorem dX13_findingOf_299 : decode cX13_findingOf 299 = .ok (.iastore, 1) := zo_79 (zi_at zh_dX13_findingOf_288_288 11 rfl)
theorem dX13_findingOf_300 : decode cX13_findingOf 300 = .ok (.iinc 5 1, 3) := zo_132 (zi_at zh_dX13_findingOf_288_288 12 rfl) (zi_at zh_dX13_findingOf_288_288 13 rfl) (zi_at zh_dX13_findingOf_288_288 14 rfl) rfl
theorem dX13_findingOf_303 : decode cX13_findingOf 303 = .ok (.iload 6, 2) := zo_21 (zi_at zh_dX13_findingOf_288_288 15 rfl) (zi_at zh_dX13_findingOf_303_304 0 rfl)
theorem dX13_findingOf_305 : decode cX13_findingOf 305 = .ok (.aload_n 0, 1) := zo_42 (zi_at zh_dX13_findingOf_303_304 1 rfl)
theorem dX13_findingOf_306 : decode cX13_findingOf 306 = .ok (.iload_n 2, 1) := zo_28 (zi_at zh_dX13_findingOf_303_304 2 rfl)
theorem dX13_findingOf_307 : decode cX13_findingOf 307 = .ok (.ifCond .ne 8, 3) := zo_154 (zi_at zh_dX13_findingOf_303_304 3 rfl) (zi_at zh_dX13_findingOf_303_304 4 rfl) (zi_at zh_dX13_findingOf_303_304 5 rfl) rfl
theorem dX13_findingOf_310 : decode cX13_findingOf 310 = .ok (.bipush 97, 2) := zo_16 (zi_at zh_dX13_findingOf_303_304 6 rfl) (zi_at zh_dX13_findingOf_303_304 7 rfl) rfl
theorem dX13_findingOf_312 : decode cX13_findingOf 312 = .ok (.goto 5, 3) := zo_167 (zi_at zh_dX13_findingOf_303_304 8 rfl) (zi_at zh_dX13_findingOf_303_304 9 rfl) (zi_at zh_dX13_findingOf_303_304 10 rfl) rfl
theorem dX13_findingOf_315 : decode cX13_findingOf 315 = .ok (.bipush 98, 2) := zo_16 (zi_at zh_dX13_findingOf_303_304 11 rfl) (zi_at zh_dX13_findingOf_303_304 12 rfl) rfl
theorem dX13_findingOf_317 : decode cX13_findingOf 317 = .ok (.aload_n 0, 1) := zo_42 (zi_at zh_dX13_findingOf_303_304 13 rfl)
theorem dX13_findingOf_318 : decode cX13_findingOf 318 = .ok (.getfield 50, 3) := zo_180 (zi_at zh_dX13_findingOf_303_304 14 rfl) (zi_at zh_dX13_findingOf_303_304 15 rfl) (zi_at zh_dX13_findingOf_318_320 0 rfl) rfl
theorem dX13_findingOf_321 : decode cX13_findingOf 321 = .ok (.iload 4, 2) := zo_21 (zi_at zh_dX13_findingOf_318_320 1 rfl) (zi_at zh_dX13_findingOf_318_320 2 rfl)
theorem dX13_findingOf_323 : decode cX13_findingOf 323 = .ok (.iaload, 1) := zo_46 (zi_at zh_dX13_findingOf_318_320 3 rfl)
theorem dX13_findingOf_324 : decode cX13_findingOf 324 = .ok (.iload_n 3, 1) := zo_29 (zi_at zh_dX13_findingOf_318_320 4 rfl)
theorem dX13_findingOf_325 : decode cX13_findingOf 325 = .ok (.invokevirtual 380, 3) := zo_182 (zi_at zh_dX13_findingOf_318_320 5 rfl) (zi_at zh_dX13_findingOf_318_320 6 rfl) (zi_at zh_dX13_findingOf_318_320 7 rfl) rfl
theorem dX13_findingOf_328 : decode cX13_findingOf 328 = .ok (.ifCond .eq 7, 3) := zo_153 (zi_at zh_dX13_findingOf_318_320 8 rfl) (zi_at zh_dX13_findingOf_318_320 9 rfl) (zi_at zh_dX13_findingOf_318_320 10 rfl) rfl
theorem dX13_findingOf_331 : decode cX13_findingOf 331 = .ok (.iconst 1, 1) := zo_4 (zi_at zh_dX13_findingOf_318_320 11 rfl)
theorem dX13_findingOf_332 : decode cX13_findingOf 332 = .ok (.goto 4, 3) := zo_167 (zi_at zh_dX13_findingOf_318_320 12 rfl) (zi_at zh_dX13_findingOf_318_320 13 rfl) (zi_at zh_dX13_findingOf_318_320 14 rfl) rfl
theorem dX13_findingOf_335 : decode cX13_findingOf 335 = .ok (.iconst 0, 1) := zo_3 (zi_at zh_dX13_findingOf_318_320 15 rfl)
theorem dX13_findingOf_336 : decode cX13_findingOf 336 = .ok (.iadd, 1) := zo_96 (zi_at zh_dX13_findingOf_336_336 0 rfl)
theorem dX13_findingOf_337 : decode cX13_findingOf 337 = .ok (.istore 6, 2) := zo_54 (zi_at zh_dX13_findingOf_336_336 1 rfl) (zi_at zh_dX13_findingOf_336_336 2 rfl)
theorem dX13_findingOf_339 : decode cX13_findingOf 339 = .ok (.iinc 9 1, 3) := zo_132 (zi_at zh_dX13_findingOf_336_336 3 rfl) (zi_at zh_dX13_findingOf_336_336 4 rfl) (zi_at zh_dX13_findingOf_336_336 5 rfl) rfl
theorem dX13_findingOf_342 : decode cX13_findingOf 342 = .ok (.goto (-300), 3) := zo_167 (zi_at zh_dX13_findingOf_336_336 6 rfl) (zi_at zh_dX13_findingOf_336_336 7 rfl) (zi_at zh_dX13_findingOf_336_336 8 rfl) rfl
theorem dX13_findingOf_345 : decode cX13_findingOf 345 = .ok (.iinc 8 1, 3) := zo_132 (zi_at zh_dX13_findingOf_336_336 9 rfl) (zi_at zh_dX13_findingOf_336_336 10 rfl) (zi_at zh_dX13_findingOf_336_336 11 rfl) rfl
theorem dX13_findingOf_348 : decode cX13_findingOf 348 = .ok (.goto (-322), 3) := zo_167 (zi_at zh_dX13_findingOf_336_336 12 rfl) (zi_at zh_dX13_findingOf_336_336 13 rfl) (zi_at zh_dX13_findingOf_336_336 14 rfl) rfl
theorem dX13_findingOf_351 : decode cX13_findingOf 351 = .ok (.iload 5, 2) := zo_21 (zi_at zh_dX13_findingOf_336_336 15 rfl) (zi_at zh_dX13_findingOf_351_352 0 rfl)
theorem dX13_findingOf_353 : decode cX13_findingOf 353 = .ok (.ifCond .ne 7, 3) := zo_154 (zi_at zh_dX13_findingOf_351_352 1 rfl) (zi_at zh_dX13_findingOf_351_352 2 rfl) (zi_at zh_dX13_findingOf_351_352 3 rfl) rfl
theorem dX13_findingOf_356 : decode cX13_findingOf 356 = .ok (.iconst (-1), 1) := zo_2 (zi_at zh_dX13_findingOf_351_352 4 rfl)
theorem dX13_findingOf_357 : decode cX13_findingOf 357 = .ok (.goto 24, 3) := zo_167 (zi_at zh_dX13_findingOf_351_352 5 rfl) (zi_at zh_dX13_findingOf_351_352 6 rfl) (zi_at zh_dX13_findingOf_351_352 7 rfl) rfl
theorem dX13_findingOf_360 : decode cX13_findingOf 360 = .ok (.iload 6, 2) := zo_21 (zi_at zh_dX13_findingOf_351_352 8 rfl) (zi_at zh_dX13_findingOf_351_352 9 rfl)
theorem dX13_findingOf_362 : decode cX13_findingOf 362 = .ok (.iload 5, 2) := zo_21 (zi_at zh_dX13_findingOf_351_352 10 rfl) (zi_at zh_dX13_findingOf_351_352 11 rfl)
theorem dX13_findingOf_364 : decode cX13_findingOf 364 = .ok (.if_icmp .ne 7, 3) := zo_160 (zi_at zh_dX13_findingOf_351_352 12 rfl) (zi_at zh_dX13_findingOf_351_352 13 rfl) (zi_at zh_dX13_findingOf_351_352 14 rfl) rfl
theorem dX13_findingOf_367 : decode cX13_findingOf 367 = .ok (.iconst 1, 1) := zo_4 (zi_at zh_dX13_findingOf_351_352 15 rfl)
theorem dX13_findingOf_368 : decode cX13_findingOf 368 = .ok (.goto 13, 3) := zo_167 (zi_at zh_dX13_findingOf_368_368 0 rfl) (zi_at zh_dX13_findingOf_368_368 1 rfl) (zi_at zh_dX13_findingOf_368_368 2 rfl) rfl
theorem dX13_findingOf_371 : decode cX13_findingOf 371 = .ok (.iload 6, 2) := zo_21 (zi_at zh_dX13_findingOf_368_368 3 rfl) (zi_at zh_dX13_findingOf_368_368 4 rfl)
theorem dX13_findingOf_373 : decode cX13_findingOf 373 = .ok (.ifCond .le 7, 3) := zo_158 (zi_at zh_dX13_findingOf_368_368 5 rfl) (zi_at zh_dX13_findingOf_368_368 6 rfl) (zi_at zh_dX13_findingOf_368_368 7 rfl) rfl
theorem dX13_findingOf_376 : decode cX13_findingOf 376 = .ok (.iconst 2, 1) := zo_5 (zi_at zh_dX13_findingOf_368_368 8 rfl)
theorem dX13_findingOf_377 : decode cX13_findingOf 377 = .ok (.goto 4, 3) := zo_167 (zi_at zh_dX13_findingOf_368_368 9 rfl) (zi_at zh_dX13_findingOf_368_368 10 rfl) (zi_at zh_dX13_findingOf_368_368 11 rfl) rfl
theorem dX13_findingOf_380 : decode cX13_findingOf 380 = .ok (.iconst 0, 1) := zo_3 (zi_at zh_dX13_findingOf_368_368 12 rfl)
theorem dX13_findingOf_381 : decode cX13_findingOf 381 = .ok (.ireturn, 1) := zo_172 (zi_at zh_dX13_findingOf_368_368 13 rfl)
theorem dX13_finding_0 : decode cX13_finding 0 = .ok (.aload_n 0, 1) := zo_42 (zi_at zh_dX13_finding_0_0 0 rfl)
theorem dX13_finding_1 : decode cX13_finding 1 = .ok (.iload_n 1, 1) := zo_27 (zi_at zh_dX13_finding_0_0 1 rfl)
theorem dX13_finding_2 : decode cX13_finding 2 = .ok (.iload_n 2, 1) := zo_28 (zi_at zh_dX13_finding_0_0 2 rfl)
theorem dX13_finding_3 : decode cX13_finding 3 = .ok (.iload_n 3, 1) := zo_29 (zi_at zh_dX13_finding_0_0 3 rfl)
theorem dX13_finding_4 : decode cX13_finding 4 = .ok (.invokevirtual 481, 3) := zo_182 (zi_at zh_dX13_finding_0_0 4 rfl) (zi_at zh_dX13_finding_0_0 5 rfl) (zi_at zh_dX13_finding_0_0 6 rfl) rfl
theorem dX13_finding_7 : decode cX13_finding 7 = .ok (.ifCond .eq 13, 3) := zo_153 (zi_at zh_dX13_finding_0_0 7 rfl) (zi_at zh_dX13_finding_0_0 8 rfl) (zi_at zh_dX13_finding_0_0 9 rfl) rfl
theorem dX13_finding_10 : decode cX13_finding 10 = .ok (.aload_n 0, 1) := zo_42 (zi_at zh_dX13_finding_0_0 10 rfl)
theorem dX13_finding_11 : decode cX13_finding 11 = .ok (.iload_n 1, 1) := zo_27 (zi_at zh_dX13_finding_0_0 11 rfl)
theorem dX13_finding_12 : decode cX13_finding 12 = .ok (.iload_n 2, 1) := zo_28 (zi_at zh_dX13_finding_0_0 12 rfl)
theorem dX13_finding_13 : decode cX13_finding 13 = .ok (.iload_n 3, 1) := zo_29 (zi_at zh_dX13_finding_0_0 13 rfl)
theorem dX13_finding_14 : decode cX13_finding 14 = .ok (.invokevirtual 500, 3) := zo_182 (zi_at zh_dX13_finding_0_0 14 rfl) (zi_at zh_dX13_finding_0_0 15 rfl) (zi_at zh_dX13_finding_14_16 0 rfl) rfl
theorem dX13_finding_17 : decode cX13_finding 17 = .ok (.goto 4, 3) := zo_167 (zi_at zh_dX13_finding_14_16 1 rfl) (zi_at zh_dX13_finding_14_16 2 rfl) (zi_at zh_dX13_finding_14_16 3 rfl) rfl
theorem dX13_finding_20 : decode cX13_finding 20 = .ok (.iconst (-1), 1) := zo_2 (zi_at zh_dX13_finding_14_16 4 rfl)
theorem dX13_finding_21 : decode cX13_finding 21 = .ok (.ireturn, 1) := zo_172 (zi_at zh_dX13_finding_14_16 5 rfl)
theorem hz_yX13_score_1 : yX13_score.cls ≠ "java/lang/invoke/MethodHandle" ∧ yX13_score.cls ≠ "java/lang/invoke/VarHandle" ∧ (parseMethodDescriptor yX13_score.desc).map (fun d => d.parameters.length) = some 1 := by decide +kernel
theorem hz_yX13_sorted_2 : yX13_sorted.cls ≠ "java/lang/invoke/MethodHandle" ∧ yX13_sorted.cls ≠ "java/lang/invoke/VarHandle" ∧ (parseMethodDescriptor yX13_sorted.desc).map (fun d => d.parameters.length) = some 2 := by decide +kernel
theorem hz_yX13_isBetter_2 : yX13_isBetter.cls ≠ "java/lang/invoke/MethodHandle" ∧ yX13_isBetter.cls ≠ "java/lang/invoke/VarHandle" ∧ (parseMethodDescriptor yX13_isBetter.desc).map (fun d => d.parameters.length) = some 2 := by decide +kernel
theorem hz_yX13_far_4 : yX13_far.cls ≠ "java/lang/invoke/MethodHandle" ∧ yX13_far.cls ≠ "java/lang/invoke/VarHandle" ∧ (parseMethodDescriptor yX13_far.desc).map (fun d => d.parameters.length) = some 4 := by decide +kernel
theorem hz_yX13_onStarboard_2 : yX13_onStarboard.cls ≠ "java/lang/invoke/MethodHandle" ∧ yX13_onStarboard.cls ≠ "java/lang/invoke/VarHandle" ∧ (parseMethodDescriptor yX13_onStarboard.desc).map (fun d => d.parameters.length) = some 2 := by decide +kernel
theorem hz_yX13_east_1 : yX13_east.cls ≠ "java/lang/invoke/MethodHandle" ∧ yX13_east.cls ≠ "java/lang/invoke/VarHandle" ∧ (parseMethodDescriptor yX13_east.desc).map (fun d => d.parameters.length) = some 1 := by decide +kernel
theorem hz_yX13_south_1 : yX13_south.cls ≠ "java/lang/invoke/MethodHandle" ∧ yX13_south.cls ≠ "java/lang/invoke/VarHandle" ∧ (parseMethodDescriptor yX13_south.desc).map (fun d => d.parameters.length) = some 1 := by decide +kernel
theorem hz_yX13_findingOf_3 : yX13_findingOf.cls ≠ "java/lang/invoke/MethodHandle" ∧ yX13_findingOf.cls ≠ "java/lang/invoke/VarHandle" ∧ (parseMethodDescriptor yX13_findingOf.desc).map (fun d => d.parameters.length) = some 3 := by decide +kernel
def v_thrown : List Cond := .code yX13_thrown cX13_thrown 4 (some .int) :: vA
abbrev rm_thrown : Room := { frames := 77, cells := 0, slots := 0, locals := 3080 }
def w_thrown : Nat → Nat → Bool := wl [12, 32, 33, 36, 37] [(0, 0), (0, 18), (0, 19), (0, 20), (0, 21), (0, 22), (0, 23), (0, 24), (0, 25), (0, 26), (0, 55)]
set_option maxHeartbeats 4000000 in
set_option maxRecDepth 100000 in
theorem q_thrown (l : Launch) (dC : Nat → ClassId) (dI : Nat → Nat → Nat) (cT : Nat → ClassId) (ad : Nat → Nat) (E : Nat → va_E) (sz : Nat) (a0 : Int32) (a1 : Int32) (a2 : Int32) (hI0 : IX cT shM spM 72 ad E)  : Met l yX13_thrown v_thrown rm_thrown (va_Pc [.ref (ad 0), .int a0, .int a1, .int a2] (HW dC dI (TYM cT) 72 ad E sz)) (va_Qi (S := Nat → va_E) (fun r u => IX cT shM spM 72 ad u ∧ Kp w_thrown E u ∧ (True)) (HB dC dI 72 ad) (va_A (WX 72 ad E) sz)) 0 0 (va_A (WX 72 ad E) sz) := by
  refine Met.ofW (cc := cX13_thrown) (maxL := 4) (ret := (some .int)) (by decide) rfl ?_
  intro p e s m args below meth c s₁ B hml hv
  obtain ⟨hargs, hsz, hP, hK, hD0, hEV⟩ := hv
  subst hsz
  have hx := B.exec
  have hb := B.bytes
  have hr := B.returns
  have hts := atoms_spec (ws := v_thrown) B.pre
  have hown : s.vm.findClass RX13 = some m.cls := findClass_of_methodNamed B.named
  have hlocks := B.notSynchronized
  have hinX13 : ∀ w ∈ u_ws RX13 TX13 97, w ∈ v_thrown := fun w h => vA_in _ w (in_X13 w h)
  generalize hAe : va_A (WX 72 ad E) s.heap.size = A at hEV ⊢
  have hA : ∀ q : Nat, s.heap.size ≤ q → A q := fun q h => by rw [← hAe]; exact Or.inr h
  have hD : va_D A (WX 72 ad E) := by rw [← hAe]; exact hD0.self
  have hS : va_S A s.heap s.heap [] := va_S.rf
  have hI := hI0
  have hKp : Kp w_thrown E E := Kp.rf
  have hl := lv_entry ([.ref (ad 0), .int a0, .int a1, .int a2]) (n := 4) (Nat.le_of_ble_eq_true rfl)
  obtain ⟨Q, hQ⟩ : ∃ Q, Q = MQ below (va_Qi (S := Nat → va_E) (fun r u => IX cT shM spM 72 ad u ∧ Kp w_thrown E u ∧ (True)) (HB dC dI 72 ad) (A)) args s 0 0 (A) := ⟨_, rfl⟩
  rw [← hQ, show entryFrame m args 4 = _ from (congrArg (fun z => entryFrame m z 4) hargs).trans (lg_entry_eq _ _ _)]
  generalize (lg_sl ([.ref (ad 0), .int a0, .int a1, .int a2]) ++ List.replicate (4 - (lg_sl ([.ref (ad 0), .int a0, .int a1, .int a2])).length) Slot.unset).toArray = ls at hl ⊢
  have hl : lv_has ls 4 [(0, .ref (ad 0)), (1, .int a0), (2, .int a1), (3, .int a2)] := hl
  refine lv_aload_n hx hb dX13_thrown_0 rfl (lv_at hl 0 rfl) ?_
  refine lv_iload_n hx hb dX13_thrown_1 rfl (lv_at hl 3 rfl) ?_
  refine th_i (va_runV (As := [.int a2]) (rest := []) ⟨hx, hb, hml, hown, hts⟩ (q_score l dC dI cT ad E s.heap.size a2 hI) (cwV 1 hts (gi_V (in_33 _ (zs4 (zs4 (zs4 (zs1 (zs0)))))) (in_33 _ (zs4 (zs4 (zs4 (zs1 (zs1 (zs0))))))) (in_33 _ (zs4 (zs4 (zs4 (zs1 (zs1 (zs1 (zs0)))))))) (in_24 _ (zs4 (zs4 (zs4 (zs1 (zs1 (zs1 (zs0)))))))) (in_33 _ (zs16 (zs0)))) rfl rfl rfl ⟨rfl, hz_yX13_score_1⟩ ⟨Nat.le_of_ble_eq_true rfl, Nat.le_of_ble_eq_true rfl⟩) ⟨HW_bl, va_recv hK hP (ci := 14) (q0 := 0) rfl (hI.ob 0 (Nat.le_of_ble_eq_true rfl) rfl), (HW_wi hP hK (WX_D hD) hS hA hEV)⟩ rfl rfl hl.1 rfl (lv_room (Nat.le_of_ble_eq_true rfl)) dX13_thrown_2 ⟨Nat.le_of_ble_eq_true rfl, Nat.le_of_ble_eq_true rfl⟩) (WX_D hD) hS hA (fun r1 E2 H locs hw hP hS => ?_)
  obtain ⟨hI, kq3, hw⟩ := hw
  have hKb := hKp
  have hKp := hKp.tr kq3 (wl_sub rfl rfl)
  rcases hw with hw | hw
  · -- score, case 0
    obtain rfl := hw
    refine lv_if_eq (tgt := 39) hx hb dX13_thrown_5 (by decide) (fun c4 => ?_) (fun c4 => ?_)
    · --5 taken
      exact absurd c4 (by decide)
    · --5 not
      refine lv_iload_n hx hb dX13_thrown_8 rfl (lv_at hl 1 rfl) ?_
      refine lv_iconst (v := 0) hx hb dX13_thrown_9 (by decide) ?_
      refine lv_aload_n hx hb dX13_thrown_10 rfl (lv_at hl 0 rfl) ?_
      obtain ⟨y5, ey5⟩ : ∃ y, xi (E2 0) 55 = y := ⟨_, rfl⟩
      have fy5 : xv (E2 0) 55 = .int y5 := (hI.fi 0 (Nat.le_of_ble_eq_true rfl) rfl (Nat.le_of_ble_eq_true rfl) rfl).trans (congrArg Value.int ey5)
      have iy5 : 0 ≤ y5.toInt ∧ y5.toInt ≤ 20 := by rw [← ey5]; exact hI.iv 0 (Nat.le_of_ble_eq_true rfl) rfl (Nat.le_of_ble_eq_true rfl) rfl
      refine th_get (ci := 14) (C := RX13) (T := TX13) (N := 97) (v := .int y5) hx hb hts hinX13 hown hK hP hI 0 (Nat.le_of_ble_eq_true rfl) rfl rfl 55 (Nat.le_of_ble_eq_true rfl) (hts _ (vA_in _ _ (in_32 _ (zs16 (zs1 (zs1 (zs1 (zs0)))))))) (fun _ h9 => h9) fy5 dX13_thrown_11 ?_
      refine lv_iconst (v := 1) hx hb dX13_thrown_14 (by decide) ?_
      refine lv_isub hx hb dX13_thrown_15 ?_
      refine lv_topi (fun y6 ey6 => ?_)
      obtain ⟨ty6, iy6⟩ := ti_sub (e := (-1)) (f := 19) iy5 ln_1 ey6 (by decide)
      have ty6 : y6.toInt = y5.toInt - 1 := ty6
      have iy6 : -1 ≤ y6.toInt ∧ y6.toInt ≤ 19 := iy6
      refine th_pi (va_runS (As := [.int a0, .int 0, .int y6]) (rest := []) ⟨hx, hb, hml, hown, hts⟩ (q_isIn l a0 (0 : Int32) y6) (va_cwS 3 hts (gi_S (in_24 _ (zs16 (zs4 (zs4 (zs4 (zs0)))))) (in_24 _ (zs16 (zs4 (zs4 (zs4 (zs1 (zs0))))))) (in_24 _ (zs4 (zs4 (zs4 (zs1 (zs1 (zs1 (zs0)))))))) (in_24 _ (zs16 (zs4 (zs4 (zs4 (zs1 (zs1 (zs0))))))))) rfl rfl rfl hz_yX13_isIn_3 ⟨Nat.le_of_ble_eq_true rfl, Nat.le_of_ble_eq_true rfl⟩) ⟨fun _ _ _ _ q => q, fun _ _ _ => ⟨rfl, trivial⟩⟩ rfl rfl hl.1 rfl (lv_room (Nat.le_of_ble_eq_true rfl)) dX13_thrown_16 ⟨Nat.le_of_ble_eq_true rfl, Nat.le_of_ble_eq_true rfl⟩) hS (fun r7 H1 locs1 hw hk1 hS => ?_)
      have hP := ub_keep hP hk1
      generalize H1 = H at hP hS ⊢
      generalize locs1 = locs at hS ⊢
      rcases hw with hw | hw
      · -- isIn, case 0
        obtain ⟨rfl, f8⟩ := hw
        have t9 : (0 : Int) ≤ a0.toInt := f8.1
        have t10 : a0.toInt ≤ y6.toInt := f8.2
        have i11 : 0 ≤ a0.toInt ∧ a0.toInt ≤ 2147483647 := iv_le_r t9 (il_ 0) (iv_all _) (by decide)
        have i12 : 0 ≤ a0.toInt ∧ a0.toInt ≤ 19 := iv_le_l t10 i11 iy6 (by decide)
        have i13 : 0 ≤ y6.toInt ∧ y6.toInt ≤ 19 := iv_le_r t10 i11 iy6 (by decide)
        refine lv_if_eq (tgt := 39) hx hb dX13_thrown_19 (by decide) (fun c14 => ?_) (fun c14 => ?_)
        · --19 taken
          exact absurd c14 (by decide)
        · --19 not
          refine lv_aload_n hx hb dX13_thrown_22 rfl (lv_at hl 0 rfl) ?_
          refine lv_iload_n hx hb dX13_thrown_23 rfl (lv_at hl 2 rfl) ?_
          refine th_ri (va_runV (As := [.int a1]) (rest := []) ⟨hx, hb, hml, hown, hts⟩ (q_isBoat l dC dI cT ad E2 H.size a1 hI) (cwV 1 hts (gi_V (in_24 _ (zs16 (zs1 (zs1 (zs0))))) (in_24 _ (zs16 (zs1 (zs1 (zs1 (zs0)))))) (in_24 _ (zs16 (zs4 (zs0)))) (in_24 _ (zs4 (zs4 (zs4 (zs1 (zs1 (zs1 (zs0)))))))) (in_24 _ (zs16 (zs4 (zs1 (zs0)))))) rfl rfl rfl ⟨rfl, hz_yX13_isBoat_1⟩ ⟨Nat.le_of_ble_eq_true rfl, Nat.le_of_ble_eq_true rfl⟩) ⟨HW_bl, va_recv hK hP (ci := 14) (q0 := 0) rfl (hI.ob 0 (Nat.le_of_ble_eq_true rfl) rfl), (HW_wi hP hK (WX_D hD) hS hA hEV)⟩ rfl rfl hl.1 rfl (lv_room (Nat.le_of_ble_eq_true rfl)) dX13_thrown_24 ⟨Nat.le_of_ble_eq_true rfl, Nat.le_of_ble_eq_true rfl⟩) hS hP (fun r15 H locs hw hP hS => ?_)
          rcases hw with hw | hw
          · -- isBoat, case 0
            obtain ⟨rfl, f16, f17⟩ := hw
            have i18 : 0 ≤ (xi (E 0) 8).toInt ∧ (xi (E 0) 8).toInt ≤ 16 := (show 0 ≤ (xi (E 0) 8).toInt ∧ (xi (E 0) 8).toInt ≤ 16 from hI0.iv 0 (Nat.le_of_ble_eq_true rfl) rfl (Nat.le_of_ble_eq_true rfl) rfl)
            try rw [hKp.ei 0 8 rfl] at f16
            refine lv_if_eq (tgt := 39) hx hb dX13_thrown_27 (by decide) (fun c19 => ?_) (fun c19 => ?_)
            · --27 taken
              exact absurd c19 (by decide)
            · --27 not
              refine lv_aload_n hx hb dX13_thrown_30 rfl (lv_at hl 0 rfl) ?_
              refine th_get (ci := 14) (C := RX13) (T := TX13) (N := 97) (v := .ref (ad 37)) hx hb hts hinX13 hown hK hP hI 0 (Nat.le_of_ble_eq_true rfl) rfl rfl 54 (Nat.le_of_ble_eq_true rfl) (hts _ (vA_in _ _ (in_32 _ (zs4 (zs4 (zs4 (zs1 (zs1 (zs0))))))))) (fun _ h9 => h9) (hI.fr 0 (Nat.le_of_ble_eq_true rfl) rfl (Nat.le_of_ble_eq_true rfl) 37 rfl) dX13_thrown_31 ?_
              refine lv_iload_n hx hb dX13_thrown_34 rfl (lv_at hl 2 rfl) ?_
              have n21 : vp_in a1 16 := (iv_in (n := 16) f17 (by decide))
              refine th_zald hx hb hK hP hI 37 (Nat.le_of_ble_eq_true rfl) rfl rfl n21 dX13_thrown_35 (fun y20 ey20 => ?_)
              have iy20 : 0 ≤ y20.toInt ∧ y20.toInt ≤ 1 := hI.el 37 (Nat.le_of_ble_eq_true rfl) rfl n21 (fun _ => rfl) ey20
              refine lv_if_ne (tgt := 41) hx hb dX13_thrown_36 (by decide) (fun c22 => ?_) (fun c22 => ?_)
              · --36 taken
                have t23 : ¬ y20.toInt = 0 := ti_ne c22
                have i24 : 1 ≤ y20.toInt ∧ y20.toInt ≤ 1 := iv_ne_l t23 iy20 (il_ 0)
                refine lv_aload_n hx hb dX13_thrown_41 rfl (lv_at hl 0 rfl) ?_
                refine th_get (ci := 14) (C := RX13) (T := TX13) (N := 97) (v := .ref (ad 36)) hx hb hts hinX13 hown hK hP hI 0 (Nat.le_of_ble_eq_true rfl) rfl rfl 53 (Nat.le_of_ble_eq_true rfl) (hts _ (vA_in _ _ (in_32 _ (zs4 (zs4 (zs4 (zs1 (zs0)))))))) (fun _ h9 => h9) (hI.fr 0 (Nat.le_of_ble_eq_true rfl) rfl (Nat.le_of_ble_eq_true rfl) 36 rfl) dX13_thrown_42 ?_
                refine lv_bipush (v := 16) hx hb dX13_thrown_45 (by decide) ?_
                refine lv_iload_n hx hb dX13_thrown_47 rfl (lv_at hl 1 rfl) ?_
                refine lv_imul hx hb dX13_thrown_48 ?_
                refine lv_topi (fun y25 ey25 => ?_)
                obtain ⟨ty25, iy25⟩ := ti_mul (e := 0) (f := 304) ln_16 i12 ey25 (by decide)
                have ty25 : y25.toInt = 16 * a0.toInt := ty25
                have iy25 : 0 ≤ y25.toInt ∧ y25.toInt ≤ 304 := iy25
                refine lv_iload_n hx hb dX13_thrown_49 rfl (lv_at hl 2 rfl) ?_
                refine lv_iadd hx hb dX13_thrown_50 ?_
                refine lv_topi (fun y26 ey26 => ?_)
                obtain ⟨ty26, iy26⟩ := ti_add (e := 0) (f := 319) iy25 f17 ey26 (by decide)
                have ty26 : y26.toInt = y25.toInt + a1.toInt := ty26
                have iy26 : 0 ≤ y26.toInt ∧ y26.toInt ≤ 319 := iy26
                have n28 : vp_in y26 320 := (iv_in (n := 320) iy26 (by decide))
                refine th_zald hx hb hK hP hI 36 (Nat.le_of_ble_eq_true rfl) rfl rfl n28 dX13_thrown_51 (fun y27 ey27 => ?_)
                have iy27 : 0 ≤ y27.toInt ∧ y27.toInt ≤ 1 := hI.el 36 (Nat.le_of_ble_eq_true rfl) rfl n28 (fun _ => rfl) ey27
                refine lv_if_eq (tgt := 59) hx hb dX13_thrown_52 (by decide) (fun c29 => ?_) (fun c29 => ?_)
                · --52 taken
                  have t30 : y27.toInt = 0 := ti_eq c29
                  have i31 : 0 ≤ y27.toInt ∧ y27.toInt ≤ 0 := iv_eqi t30 iy27 (il_ 0) (by decide)
                  refine lv_iconst (v := 0) hx hb dX13_thrown_59 (by decide) ?_
                  rw [hQ]
                  exact W.iret (v := 0) hx hb hr (fun t ht hW => ⟨⟨0, E2, rfl, ⟨hI, hKp, trivial⟩, by show va_P (dC, dI) vwCl (WX 72 ad E2) t.heap; rw [ht]; exact hP⟩, hS.F ht⟩) hS.2.2 dX13_thrown_60
                · --52 not
                  have t32 : ¬ y27.toInt = 0 := ti_ne c29
                  have i33 : 1 ≤ y27.toInt ∧ y27.toInt ≤ 1 := iv_ne_l t32 iy27 (il_ 0)
                  refine lv_iconst (v := 1) hx hb dX13_thrown_55 (by decide) ?_
                  refine lv_goto (tgt := 60) hx hb dX13_thrown_56 (by decide) ?_
                  rw [hQ]
                  exact W.iret (v := 1) hx hb hr (fun t ht hW => ⟨⟨1, E2, rfl, ⟨hI, hKp, trivial⟩, by show va_P (dC, dI) vwCl (WX 72 ad E2) t.heap; rw [ht]; exact hP⟩, hS.F ht⟩) hS.2.2 dX13_thrown_60
              · --36 not
                have t34 : y20.toInt = 0 := ti_eq c22
                have i35 : 0 ≤ y20.toInt ∧ y20.toInt ≤ 0 := iv_eqi t34 iy20 (il_ 0) (by decide)
                refine lv_iconst (v := -1) hx hb dX13_thrown_39 (by decide) ?_
                rw [hQ]
                exact W.iret (v := (-1)) hx hb hr (fun t ht hW => ⟨⟨(-1), E2, rfl, ⟨hI, hKp, trivial⟩, by show va_P (dC, dI) vwCl (WX 72 ad E2) t.heap; rw [ht]; exact hP⟩, hS.F ht⟩) hS.2.2 dX13_thrown_40
          · -- isBoat, case 1
            obtain ⟨rfl, f36⟩ := hw
            have i37 : 0 ≤ (xi (E 0) 8).toInt ∧ (xi (E 0) 8).toInt ≤ 16 := (show 0 ≤ (xi (E 0) 8).toInt ∧ (xi (E 0) 8).toInt ≤ 16 from hI0.iv 0 (Nat.le_of_ble_eq_true rfl) rfl (Nat.le_of_ble_eq_true rfl) rfl)
            try rw [hKp.ei 0 8 rfl] at f36
            refine lv_if_eq (tgt := 39) hx hb dX13_thrown_27 (by decide) (fun c38 => ?_) (fun c38 => ?_)
            · --27 taken
              refine lv_iconst (v := -1) hx hb dX13_thrown_39 (by decide) ?_
              rw [hQ]
              exact W.iret (v := (-1)) hx hb hr (fun t ht hW => ⟨⟨(-1), E2, rfl, ⟨hI, hKp, trivial⟩, by show va_P (dC, dI) vwCl (WX 72 ad E2) t.heap; rw [ht]; exact hP⟩, hS.F ht⟩) hS.2.2 dX13_thrown_40
            · --27 not
              exact absurd c38 (by decide)
      · -- isIn, case 1
        obtain ⟨rfl, f39⟩ := hw
        have t40 : ¬ ((0 : Int) ≤ a0.toInt ∧ a0.toInt ≤ y6.toInt) := f39
        refine lv_if_eq (tgt := 39) hx hb dX13_thrown_19 (by decide) (fun c41 => ?_) (fun c41 => ?_)
        · --19 taken
          refine lv_iconst (v := -1) hx hb dX13_thrown_39 (by decide) ?_
          rw [hQ]
          exact W.iret (v := (-1)) hx hb hr (fun t ht hW => ⟨⟨(-1), E2, rfl, ⟨hI, hKp, trivial⟩, by show va_P (dC, dI) vwCl (WX 72 ad E2) t.heap; rw [ht]; exact hP⟩, hS.F ht⟩) hS.2.2 dX13_thrown_40
        · --19 not
          exact absurd c41 (by decide)
  · -- score, case 1
    obtain rfl := hw
    refine lv_if_eq (tgt := 39) hx hb dX13_thrown_5 (by decide) (fun c42 => ?_) (fun c42 => ?_)
    · --5 taken
      refine lv_iconst (v := -1) hx hb dX13_thrown_39 (by decide) ?_
      rw [hQ]
      exact W.iret (v := (-1)) hx hb hr (fun t ht hW => ⟨⟨(-1), E2, rfl, ⟨hI, hKp, trivial⟩, by show va_P (dC, dI) vwCl (WX 72 ad E2) t.heap; rw [ht]; exact hP⟩, hS.F ht⟩) hS.2.2 dX13_thrown_40
    · --5 not
      exact absurd c42 (by decide)
def v_total : List Cond := .code yX13_total cX13_total 3 (some .int) :: vA
abbrev rm_total : Room := { frames := 77, cells := 0, slots := 0, locals := 3080 }
def w_total : Nat → Nat → Bool := wl [12, 32, 33, 36, 37] [(0, 0), (0, 18), (0, 19), (0, 20), (0, 21), (0, 22), (0, 23), (0, 24), (0, 25), (0, 26), (0, 55)]
set_option maxHeartbeats 4000000 in
set_option maxRecDepth 100000 in
theorem q_total (l : Launch) (dC : Nat → ClassId) (dI : Nat → Nat → Nat) (cT : Nat → ClassId) (ad : Nat → Nat) (E : Nat → va_E) (sz : Nat) (a0 : Int32) (a1 : Int32) (hI0 : IX cT shM spM 72 ad E)  : Met l yX13_total v_total rm_total (va_Pc [.ref (ad 0), .int a0, .int a1] (HW dC dI (TYM cT) 72 ad E sz)) (va_Qi (S := Nat → va_E) (fun r u => IX cT shM spM 72 ad u ∧ Kp w_total E u ∧ (True)) (HB dC dI 72 ad) (va_A (WX 72 ad E) sz)) 0 0 (va_A (WX 72 ad E) sz) := by
  refine Met.ofW (cc := cX13_total) (maxL := 3) (ret := (some .int)) (by decide) rfl ?_
  intro p e s m args below meth c s₁ B hml hv
  obtain ⟨hargs, hsz, hP, hK, hD0, hEV⟩ := hv
  subst hsz
  have hx := B.exec
  have hb := B.bytes
  have hr := B.returns
  have hts := atoms_spec (ws := v_total) B.pre
  have hown : s.vm.findClass RX13 = some m.cls := findClass_of_methodNamed B.named
  have hlocks := B.notSynchronized
  have hinX13 : ∀ w ∈ u_ws RX13 TX13 97, w ∈ v_total := fun w h => vA_in _ w (in_X13 w h)
  generalize hAe : va_A (WX 72 ad E) s.heap.size = A at hEV ⊢
  have hA : ∀ q : Nat, s.heap.size ≤ q → A q := fun q h => by rw [← hAe]; exact Or.inr h
  have hD : va_D A (WX 72 ad E) := by rw [← hAe]; exact hD0.self
  have hS : va_S A s.heap s.heap [] := va_S.rf
  have hI := hI0
  have hKp : Kp w_total E E := Kp.rf
  have hl := lv_entry ([.ref (ad 0), .int a0, .int a1]) (n := 3) (Nat.le_of_ble_eq_true rfl)
  obtain ⟨Q, hQ⟩ : ∃ Q, Q = MQ below (va_Qi (S := Nat → va_E) (fun r u => IX cT shM spM 72 ad u ∧ Kp w_total E u ∧ (True)) (HB dC dI 72 ad) (A)) args s 0 0 (A) := ⟨_, rfl⟩
  rw [← hQ, show entryFrame m args 3 = _ from (congrArg (fun z => entryFrame m z 3) hargs).trans (lg_entry_eq _ _ _)]
  generalize (lg_sl ([.ref (ad 0), .int a0, .int a1]) ++ List.replicate (3 - (lg_sl ([.ref (ad 0), .int a0, .int a1])).length) Slot.unset).toArray = ls at hl ⊢
  have hl : lv_has ls 3 [(0, .ref (ad 0)), (1, .int a0), (2, .int a1)] := hl
  refine lv_aload_n hx hb dX13_total_0 rfl (lv_at hl 0 rfl) ?_
  refine lv_iload_n hx hb dX13_total_1 rfl (lv_at hl 2 rfl) ?_
  refine th_i (va_runV (As := [.int a1]) (rest := []) ⟨hx, hb, hml, hown, hts⟩ (q_score l dC dI cT ad E s.heap.size a1 hI) (cwV 1 hts (gi_V (in_33 _ (zs4 (zs4 (zs4 (zs1 (zs0)))))) (in_33 _ (zs4 (zs4 (zs4 (zs1 (zs1 (zs0))))))) (in_33 _ (zs4 (zs4 (zs4 (zs1 (zs1 (zs1 (zs0)))))))) (in_24 _ (zs4 (zs4 (zs4 (zs1 (zs1 (zs1 (zs0)))))))) (in_33 _ (zs16 (zs0)))) rfl rfl rfl ⟨rfl, hz_yX13_score_1⟩ ⟨Nat.le_of_ble_eq_true rfl, Nat.le_of_ble_eq_true rfl⟩) ⟨HW_bl, va_recv hK hP (ci := 14) (q0 := 0) rfl (hI.ob 0 (Nat.le_of_ble_eq_true rfl) rfl), (HW_wi hP hK (WX_D hD) hS hA hEV)⟩ rfl rfl hl.1 rfl (lv_room (Nat.le_of_ble_eq_true rfl)) dX13_total_2 ⟨Nat.le_of_ble_eq_true rfl, Nat.le_of_ble_eq_true rfl⟩) (WX_D hD) hS hA (fun r1 E2 H locs hw hP hS => ?_)
  obtain ⟨hI, kq3, hw⟩ := hw
  have hKb := hKp
  have hKp := hKp.tr kq3 (wl_sub rfl rfl)
  rcases hw with hw | hw
  · -- score, case 0
    obtain rfl := hw
    refine lv_if_eq (tgt := 34) hx hb dX13_total_5 (by decide) (fun c4 => ?_) (fun c4 => ?_)
    · --5 taken
      exact absurd c4 (by decide)
    · --5 not
      refine lv_aload_n hx hb dX13_total_8 rfl (lv_at hl 0 rfl) ?_
      refine lv_iload_n hx hb dX13_total_9 rfl (lv_at hl 1 rfl) ?_
      refine th_ri (va_runV (As := [.int a0]) (rest := []) ⟨hx, hb, hml, hown, hts⟩ (q_isBoat l dC dI cT ad E2 H.size a0 hI) (cwV 1 hts (gi_V (in_24 _ (zs16 (zs1 (zs1 (zs0))))) (in_24 _ (zs16 (zs1 (zs1 (zs1 (zs0)))))) (in_24 _ (zs16 (zs4 (zs0)))) (in_24 _ (zs4 (zs4 (zs4 (zs1 (zs1 (zs1 (zs0)))))))) (in_24 _ (zs16 (zs4 (zs1 (zs0)))))) rfl rfl rfl ⟨rfl, hz_yX13_isBoat_1⟩ ⟨Nat.le_of_ble_eq_true rfl, Nat.le_of_ble_eq_true rfl⟩) ⟨HW_bl, va_recv hK hP (ci := 14) (q0 := 0) rfl (hI.ob 0 (Nat.le_of_ble_eq_true rfl) rfl), (HW_wi hP hK (WX_D hD) hS hA hEV)⟩ rfl rfl hl.1 rfl (lv_room (Nat.le_of_ble_eq_true rfl)) dX13_total_10 ⟨Nat.le_of_ble_eq_true rfl, Nat.le_of_ble_eq_true rfl⟩) hS hP (fun r5 H locs hw hP hS => ?_)
      rcases hw with hw | hw
      · -- isBoat, case 0
        obtain ⟨rfl, f6, f7⟩ := hw
        have i8 : 0 ≤ (xi (E 0) 8).toInt ∧ (xi (E 0) 8).toInt ≤ 16 := (show 0 ≤ (xi (E 0) 8).toInt ∧ (xi (E 0) 8).toInt ≤ 16 from hI0.iv 0 (Nat.le_of_ble_eq_true rfl) rfl (Nat.le_of_ble_eq_true rfl) rfl)
        try rw [hKp.ei 0 8 rfl] at f6
        refine lv_if_eq (tgt := 34) hx hb dX13_total_13 (by decide) (fun c9 => ?_) (fun c9 => ?_)
        · --13 taken
          exact absurd c9 (by decide)
        · --13 not
          refine lv_aload_n hx hb dX13_total_16 rfl (lv_at hl 0 rfl) ?_
          refine th_get (ci := 14) (C := RX13) (T := TX13) (N := 97) (v := .ref (ad 37)) hx hb hts hinX13 hown hK hP hI 0 (Nat.le_of_ble_eq_true rfl) rfl rfl 54 (Nat.le_of_ble_eq_true rfl) (hts _ (vA_in _ _ (in_32 _ (zs4 (zs4 (zs4 (zs1 (zs1 (zs0))))))))) (fun _ h9 => h9) (hI.fr 0 (Nat.le_of_ble_eq_true rfl) rfl (Nat.le_of_ble_eq_true rfl) 37 rfl) dX13_total_17 ?_
          refine lv_iload_n hx hb dX13_total_20 rfl (lv_at hl 1 rfl) ?_
          have n11 : vp_in a0 16 := (iv_in (n := 16) f7 (by decide))
          refine th_zald hx hb hK hP hI 37 (Nat.le_of_ble_eq_true rfl) rfl rfl n11 dX13_total_21 (fun y10 ey10 => ?_)
          have iy10 : 0 ≤ y10.toInt ∧ y10.toInt ≤ 1 := hI.el 37 (Nat.le_of_ble_eq_true rfl) rfl n11 (fun _ => rfl) ey10
          refine lv_if_eq (tgt := 34) hx hb dX13_total_22 (by decide) (fun c12 => ?_) (fun c12 => ?_)
          · --22 taken
            have t13 : y10.toInt = 0 := ti_eq c12
            have i14 : 0 ≤ y10.toInt ∧ y10.toInt ≤ 0 := iv_eqi t13 iy10 (il_ 0) (by decide)
            refine lv_iconst (v := -1) hx hb dX13_total_34 (by decide) ?_
            rw [hQ]
            exact W.iret (v := (-1)) hx hb hr (fun t ht hW => ⟨⟨(-1), E2, rfl, ⟨hI, hKp, trivial⟩, by show va_P (dC, dI) vwCl (WX 72 ad E2) t.heap; rw [ht]; exact hP⟩, hS.F ht⟩) hS.2.2 dX13_total_35
          · --22 not
            have t15 : ¬ y10.toInt = 0 := ti_ne c12
            have i16 : 1 ≤ y10.toInt ∧ y10.toInt ≤ 1 := iv_ne_l t15 iy10 (il_ 0)
            refine lv_aload_n hx hb dX13_total_25 rfl (lv_at hl 0 rfl) ?_
            refine th_get (ci := 14) (C := RX13) (T := TX13) (N := 97) (v := .ref (ad 33)) hx hb hts hinX13 hown hK hP hI 0 (Nat.le_of_ble_eq_true rfl) rfl rfl 50 (Nat.le_of_ble_eq_true rfl) (hts _ (vA_in _ _ (in_32 _ (zs4 (zs4 (zs1 (zs1 (zs0)))))))) (fun _ h9 => h9) (hI.fr 0 (Nat.le_of_ble_eq_true rfl) rfl (Nat.le_of_ble_eq_true rfl) 33 rfl) dX13_total_26 ?_
            refine lv_iload_n hx hb dX13_total_29 rfl (lv_at hl 1 rfl) ?_
            have n18 : vp_in a0 16 := (iv_in (n := 16) f7 (by decide))
            refine th_iald hx hb hK hP hI 33 (Nat.le_of_ble_eq_true rfl) rfl rfl n18 dX13_total_30 (fun y17 ey17 => ?_)
            refine lv_goto (tgt := 35) hx hb dX13_total_31 (by decide) ?_
            rw [hQ]
            exact W.iret (v := y17) hx hb hr (fun t ht hW => ⟨⟨y17, E2, rfl, ⟨hI, hKp, trivial⟩, by show va_P (dC, dI) vwCl (WX 72 ad E2) t.heap; rw [ht]; exact hP⟩, hS.F ht⟩) hS.2.2 dX13_total_35
      · -- isBoat, case 1
        obtain ⟨rfl, f19⟩ := hw
        have i20 : 0 ≤ (xi (E 0) 8).toInt ∧ (xi (E 0) 8).toInt ≤ 16 := (show 0 ≤ (xi (E 0) 8).toInt ∧ (xi (E 0) 8).toInt ≤ 16 from hI0.iv 0 (Nat.le_of_ble_eq_true rfl) rfl (Nat.le_of_ble_eq_true rfl) rfl)
        try rw [hKp.ei 0 8 rfl] at f19
        refine lv_if_eq (tgt := 34) hx hb dX13_total_13 (by decide) (fun c21 => ?_) (fun c21 => ?_)
        · --13 taken
          refine lv_iconst (v := -1) hx hb dX13_total_34 (by decide) ?_
          rw [hQ]
          exact W.iret (v := (-1)) hx hb hr (fun t ht hW => ⟨⟨(-1), E2, rfl, ⟨hI, hKp, trivial⟩, by show va_P (dC, dI) vwCl (WX 72 ad E2) t.heap; rw [ht]; exact hP⟩, hS.F ht⟩) hS.2.2 dX13_total_35
        · --13 not
          exact absurd c21 (by decide)
  · -- score, case 1
    obtain rfl := hw
    refine lv_if_eq (tgt := 34) hx hb dX13_total_5 (by decide) (fun c22 => ?_) (fun c22 => ?_)
    · --5 taken
      refine lv_iconst (v := -1) hx hb dX13_total_34 (by decide) ?_
      rw [hQ]
      exact W.iret (v := (-1)) hx hb hr (fun t ht hW => ⟨⟨(-1), E2, rfl, ⟨hI, hKp, trivial⟩, by show va_P (dC, dI) vwCl (WX 72 ad E2) t.heap; rw [ht]; exact hP⟩, hS.F ht⟩) hS.2.2 dX13_total_35
    · --5 not
      exact absurd c22 (by decide)
def v_sortedL : List Cond := .code yX13_sorted cX13_sorted 6 (some .int) :: vA
abbrev rm_sortedL : Room := { frames := 0, cells := 0, slots := 0, locals := 0 }
def w_sortedL : Nat → Nat → Bool := wl [34] []
set_option maxHeartbeats 4000000 in
set_option maxRecDepth 100000 in
theorem q_sortedL (l : Launch) (dC : Nat → ClassId) (dI : Nat → Nat → Nat) (cT : Nat → ClassId) (ad : Nat → Nat) (E : Nat → va_E) (sz : Nat) (a0 : Int32) (hI0 : IX cT shM spM 72 ad E) (hh0 : 0 ≤ a0.toInt ∧ a0.toInt ≤ 15) : Met l yX13_sorted v_sortedL rm_sortedL (va_Pc [.ref (ad 0), .int a0, .ref (ad 34)] (HW dC dI (TYM cT) 72 ad E sz)) (va_Qi (S := Nat → va_E) (fun r u => IX cT shM spM 72 ad u ∧ Kp w_sortedL E u ∧ ((0 ≤ r.toInt ∧ r.toInt ≤ 20))) (HB dC dI 72 ad) (va_A (WX 72 ad E) sz)) 0 0 (va_A (WX 72 ad E) sz) := by
  refine Met.ofW (cc := cX13_sorted) (maxL := 6) (ret := (some .int)) (by decide) rfl ?_
  intro p e s m args below meth c s₁ B hml hv
  obtain ⟨hargs, hsz, hP, hK, hD0, hEV⟩ := hv
  subst hsz
  have hx := B.exec
  have hb := B.bytes
  have hr := B.returns
  have hts := atoms_spec (ws := v_sortedL) B.pre
  have hown : s.vm.findClass RX13 = some m.cls := findClass_of_methodNamed B.named
  have hlocks := B.notSynchronized
  have hinX13 : ∀ w ∈ u_ws RX13 TX13 97, w ∈ v_sortedL := fun w h => vA_in _ w (in_X13 w h)
  generalize hAe : va_A (WX 72 ad E) s.heap.size = A at hEV ⊢
  have hA : ∀ q : Nat, s.heap.size ≤ q → A q := fun q h => by rw [← hAe]; exact Or.inr h
  have hD : va_D A (WX 72 ad E) := by rw [← hAe]; exact hD0.self
  have hS : va_S A s.heap s.heap [] := va_S.rf
  have hI := hI0
  have hKp : Kp w_sortedL E E := Kp.rf
  have hl := lv_entry ([.ref (ad 0), .int a0, .ref (ad 34)]) (n := 6) (Nat.le_of_ble_eq_true rfl)
  obtain ⟨Q, hQ⟩ : ∃ Q, Q = MQ below (va_Qi (S := Nat → va_E) (fun r u => IX cT shM spM 72 ad u ∧ Kp w_sortedL E u ∧ ((0 ≤ r.toInt ∧ r.toInt ≤ 20))) (HB dC dI 72 ad) (A)) args s 0 0 (A) := ⟨_, rfl⟩
  rw [← hQ, show entryFrame m args 6 = _ from (congrArg (fun z => entryFrame m z 6) hargs).trans (lg_entry_eq _ _ _)]
  generalize (lg_sl ([.ref (ad 0), .int a0, .ref (ad 34)]) ++ List.replicate (6 - (lg_sl ([.ref (ad 0), .int a0, .ref (ad 34)])).length) Slot.unset).toArray = ls at hl ⊢
  have hl : lv_has ls 6 [(0, .ref (ad 0)), (1, .int a0), (2, .ref (ad 34))] := hl
  refine lv_iconst (v := 0) hx hb dX13_sorted_0 (by decide) ?_
  refine lv_istore_n (lv' := [(3, .int 0), (0, .ref (ad 0)), (1, .int a0), (2, .ref (ad 34))]) hx hb dX13_sorted_1 rfl hl (by decide) rfl (fun ls hl => ?_)
  refine lv_iconst (v := 0) hx hb dX13_sorted_2 (by decide) ?_
  refine lv_istore (lv' := [(4, .int 0), (3, .int 0), (0, .ref (ad 0)), (1, .int a0), (2, .ref (ad 34))]) hx hb dX13_sorted_3 hl (by decide) rfl (fun ls hl => ?_)
  have hL5 : ∀ d : Nat, ∀ (v5_4 : Int32) (v5_3 : Int32) (E5_ : Nat → va_E) (H : Heap) (locs : List Loc) (ls : Array Slot), 0 ≤ v5_4.toInt ∧ v5_4.toInt ≤ 20 → 0 ≤ v5_3.toInt ∧ v5_3.toInt ≤ 20 → v5_3.toInt ≤ v5_4.toInt → 20 - v5_4.toInt < (d : Int) → IX cT shM spM 72 ad E5_ → Kp w_sortedL E E5_ → va_P (dC, dI) vwCl (WX 72 ad E5_) H → va_S A s.heap H locs → lv_has ls 6 [(4, .int v5_4), (3, .int v5_3), (0, .ref (ad 0)), (1, .int a0), (2, .ref (ad 34))] → W p l e (headSpec v_sortedL rm_sortedL).room s m args below meth c H locs 0 0 Q (F0 m 5 ls []) := by
    intro d
    induction d with
    | zero =>
      intro v5_4 v5_3 E5_ H locs ls hv5_4 hv5_3 hx5_0 hx5_1 hI hKp hP hS hl
      exact absurd hx5_1 (by first | exact ms_zu hv5_4.2 | omega)
    | succ d ih5 =>
      intro v5_4 v5_3 E5_ H locs ls hv5_4 hv5_3 hx5_0 hx5_1 hI hKp hP hS hl
      refine lv_iload hx hb dX13_sorted_5 (lv_at hl 0 rfl) ?_
      refine lv_aload_n hx hb dX13_sorted_7 rfl (lv_at hl 2 rfl) ?_
      have i1 : 0 ≤ (xi (E 0) 55).toInt ∧ (xi (E 0) 55).toInt ≤ 20 := hI0.iv 0 (Nat.le_of_ble_eq_true rfl) rfl (Nat.le_of_ble_eq_true rfl) rfl
      refine th_get (ci := 14) (C := RX13) (T := TX13) (N := 97) (v := .int (xi (E 0) 55)) hx hb hts hinX13 hown hK hP hI 0 (Nat.le_of_ble_eq_true rfl) rfl rfl 55 (Nat.le_of_ble_eq_true rfl) (hts _ (vA_in _ _ (in_32 _ (zs16 (zs1 (zs1 (zs1 (zs0)))))))) (fun _ h9 => h9) (th_v0 hKp hI0 0 (Nat.le_of_ble_eq_true rfl) rfl (Nat.le_of_ble_eq_true rfl) rfl rfl) dX13_sorted_8 ?_
      refine lv_icmp_ge (tgt := 102) hx hb dX13_sorted_11 (by decide) (fun c2 => ?_) (fun c2 => ?_)
      · --11 taken
        have t3 : (xi (E 0) 55).toInt ≤ v5_4.toInt := ti_le c2
        refine lv_iload_n hx hb dX13_sorted_102 rfl (lv_at hl 1 rfl) ?_
        rw [hQ]
        exact W.iret (v := v5_3) hx hb hr (fun t ht hW => ⟨⟨v5_3, E5_, rfl, ⟨hI, hKp, hv5_3⟩, by show va_P (dC, dI) vwCl (WX 72 ad E5_) t.heap; rw [ht]; exact hP⟩, hS.F ht⟩) hS.2.2 dX13_sorted_103
      · --11 not
        have t4 : v5_4.toInt < (xi (E 0) 55).toInt := ti_nle c2
        have i5 : 0 ≤ v5_4.toInt ∧ v5_4.toInt ≤ 19 := iv_lt_l t4 hv5_4 i1 (by decide)
        have i6 : 1 ≤ (xi (E 0) 55).toInt ∧ (xi (E 0) 55).toInt ≤ 20 := iv_lt_r t4 hv5_4 i1 (by decide)
        refine lv_aload_n hx hb dX13_sorted_14 rfl (lv_at hl 2 rfl) ?_
        refine th_get (ci := 14) (C := RX13) (T := TX13) (N := 97) (v := .ref (ad 36)) hx hb hts hinX13 hown hK hP hI 0 (Nat.le_of_ble_eq_true rfl) rfl rfl 53 (Nat.le_of_ble_eq_true rfl) (hts _ (vA_in _ _ (in_32 _ (zs4 (zs4 (zs4 (zs1 (zs0)))))))) (fun _ h9 => h9) (hI.fr 0 (Nat.le_of_ble_eq_true rfl) rfl (Nat.le_of_ble_eq_true rfl) 36 rfl) dX13_sorted_15 ?_
        refine lv_bipush (v := 16) hx hb dX13_sorted_18 (by decide) ?_
        refine lv_iload hx hb dX13_sorted_20 (lv_at hl 0 rfl) ?_
        refine lv_imul hx hb dX13_sorted_22 ?_
        refine lv_topi (fun y7 ey7 => ?_)
        obtain ⟨ty7, iy7⟩ := ti_mul (e := 0) (f := 304) ln_16 i5 ey7 (by decide)
        have ty7 : y7.toInt = 16 * v5_4.toInt := ty7
        have iy7 : 0 ≤ y7.toInt ∧ y7.toInt ≤ 304 := iy7
        refine lv_iload_n hx hb dX13_sorted_23 rfl (lv_at hl 3 rfl) ?_
        refine lv_iadd hx hb dX13_sorted_24 ?_
        refine lv_topi (fun y8 ey8 => ?_)
        obtain ⟨ty8, iy8⟩ := ti_add (e := 0) (f := 319) iy7 hh0 ey8 (by decide)
        have ty8 : y8.toInt = y7.toInt + a0.toInt := ty8
        have iy8 : 0 ≤ y8.toInt ∧ y8.toInt ≤ 319 := iy8
        have n10 : vp_in y8 320 := (iv_in (n := 320) iy8 (by decide))
        refine th_zald hx hb hK hP hI 36 (Nat.le_of_ble_eq_true rfl) rfl rfl n10 dX13_sorted_25 (fun y9 ey9 => ?_)
        have iy9 : 0 ≤ y9.toInt ∧ y9.toInt ≤ 1 := hI.el 36 (Nat.le_of_ble_eq_true rfl) rfl n10 (fun _ => rfl) ey9
        have ey9 := ey9.trans (hKp.ei 36 _ rfl)
        refine lv_if_eq (tgt := 32) hx hb dX13_sorted_26 (by decide) (fun c11 => ?_) (fun c11 => ?_)
        · --26 taken
          have t12 : y9.toInt = 0 := ti_eq c11
          have i13 : 0 ≤ y9.toInt ∧ y9.toInt ≤ 0 := iv_eqi t12 iy9 (il_ 0) (by decide)
          have i14 : 0 ≤ v5_3.toInt ∧ v5_3.toInt ≤ 19 := by omega
          refine lv_iload_n hx hb dX13_sorted_32 rfl (lv_at hl 1 rfl) ?_
          refine lv_istore (lv' := [(5, .int v5_3), (4, .int v5_4), (3, .int v5_3), (0, .ref (ad 0)), (1, .int a0), (2, .ref (ad 34))]) hx hb dX13_sorted_33 hl (by decide) rfl (fun ls hl => ?_)
          have hL35 : ∀ d : Nat, ∀ (v35_5 : Int32) (E35_ : Nat → va_E) (H : Heap) (locs : List Loc) (ls : Array Slot), 0 ≤ v35_5.toInt ∧ v35_5.toInt ≤ 19 → v35_5.toInt - 0 < (d : Int) → IX cT shM spM 72 ad E35_ → Kp w_sortedL E E35_ → va_P (dC, dI) vwCl (WX 72 ad E35_) H → va_S A s.heap H locs → lv_has ls 6 [(5, .int v35_5), (4, .int v5_4), (3, .int v5_3), (0, .ref (ad 0)), (1, .int a0), (2, .ref (ad 34))] → W p l e (headSpec v_sortedL rm_sortedL).room s m args below meth c H locs 0 0 Q (F0 m 35 ls []) := by
            intro d
            induction d with
            | zero =>
              intro v35_5 E35_ H locs ls hv35_5 hx35_0 hI hKp hP hS hl
              exact absurd hx35_0 (by first | exact ms_zd hv35_5.1 | omega)
            | succ d ih35 =>
              intro v35_5 E35_ H locs ls hv35_5 hx35_0 hI hKp hP hS hl
              refine lv_iload hx hb dX13_sorted_35 (lv_at hl 0 rfl) ?_
              have hJ77 : ∀ (H : Heap) (locs : List Loc) (ls : Array Slot), va_P (dC, dI) vwCl (WX 72 ad E35_) H → va_S A s.heap H locs → lv_has ls 6 [(5, .int v35_5), (4, .int v5_4), (3, .int v5_3), (0, .ref (ad 0)), (1, .int a0), (2, .ref (ad 34))] → W p l e (headSpec v_sortedL rm_sortedL).room s m args below meth c H locs 0 0 Q (F0 m 77 ls []) := by
                intro H locs ls hP hS hl
                refine lv_aload_n hx hb dX13_sorted_77 rfl (lv_at hl 5 rfl) ?_
                refine lv_iload hx hb dX13_sorted_78 (lv_at hl 0 rfl) ?_
                refine lv_aload_n hx hb dX13_sorted_80 rfl (lv_at hl 3 rfl) ?_
                refine th_get (ci := 14) (C := RX13) (T := TX13) (N := 97) (v := .ref (ad 32)) hx hb hts hinX13 hown hK hP hI 0 (Nat.le_of_ble_eq_true rfl) rfl rfl 49 (Nat.le_of_ble_eq_true rfl) (hts _ (vA_in _ _ (in_32 _ (zs4 (zs4 (zs1 (zs0))))))) (fun _ h9 => h9) (hI.fr 0 (Nat.le_of_ble_eq_true rfl) rfl (Nat.le_of_ble_eq_true rfl) 32 rfl) dX13_sorted_81 ?_
                refine lv_bipush (v := 16) hx hb dX13_sorted_84 (by decide) ?_
                refine lv_iload hx hb dX13_sorted_86 (lv_at hl 1 rfl) ?_
                refine lv_imul hx hb dX13_sorted_88 ?_
                refine lv_topi (fun y15 ey15 => ?_)
                obtain ⟨ty15, iy15⟩ := ti_mul (e := 0) (f := 304) ln_16 i5 ey15 (by decide)
                have ty15 : y15.toInt = 16 * v5_4.toInt := ty15
                have iy15 : 0 ≤ y15.toInt ∧ y15.toInt ≤ 304 := iy15
                refine lv_iload_n hx hb dX13_sorted_89 rfl (lv_at hl 4 rfl) ?_
                refine lv_iadd hx hb dX13_sorted_90 ?_
                refine lv_topi (fun y16 ey16 => ?_)
                obtain ⟨ty16, iy16⟩ := ti_add (e := 0) (f := 319) iy15 hh0 ey16 (by decide)
                have ty16 : y16.toInt = y15.toInt + a0.toInt := ty16
                have iy16 : 0 ≤ y16.toInt ∧ y16.toInt ≤ 319 := iy16
                have n18 : vp_in y16 320 := (iv_in (n := 320) iy16 (by decide))
                refine th_iald hx hb hK hP hI 32 (Nat.le_of_ble_eq_true rfl) rfl rfl n18 dX13_sorted_91 (fun y17 ey17 => ?_)
                have ey17 := ey17.trans (hKp.ei 32 _ rfl)
                have n19 : vp_in v35_5 20 := (iv_in (n := 20) hv35_5 (by decide))
                refine th_iast hx hb hK hP (WX_D hD) hS hI 34 (Nat.le_of_ble_eq_true rfl) rfl rfl n19 (okI rfl (iv_all _)) dX13_sorted_92 (fun H locs E20 pw21 hI hP hS => ?_)
                have hKp := hKp.pw pw21 rfl
                obtain ⟨y22, ey22⟩ : ∃ y : Int32, y = v5_3 + (1 : Int32) := ⟨_, rfl⟩
                obtain ⟨ty22, iy22⟩ := ti_add (e := 1) (f := 20) i14 ln_1 ey22 (by decide)
                have ty22 : y22.toInt = v5_3.toInt + 1 := ty22
                have iy22 : 1 ≤ y22.toInt ∧ y22.toInt ≤ 20 := iy22
                refine lv_iinc (v := y22) (lv' := [(3, .int y22), (5, .int v35_5), (4, .int v5_4), (0, .ref (ad 0)), (1, .int a0), (2, .ref (ad 34))]) hx hb dX13_sorted_93 hl (k := 2) rfl (by rw [ey22]; rfl) (by decide) rfl (fun ls hl => ?_)
                obtain ⟨y23, ey23⟩ : ∃ y : Int32, y = v5_4 + (1 : Int32) := ⟨_, rfl⟩
                obtain ⟨ty23, iy23⟩ := ti_add (e := 1) (f := 20) i5 ln_1 ey23 (by decide)
                have ty23 : y23.toInt = v5_4.toInt + 1 := ty23
                have iy23 : 1 ≤ y23.toInt ∧ y23.toInt ≤ 20 := iy23
                refine lv_iinc (v := y23) (lv' := [(4, .int y23), (3, .int y22), (5, .int v35_5), (0, .ref (ad 0)), (1, .int a0), (2, .ref (ad 34))]) hx hb dX13_sorted_96 hl (k := 2) rfl (by rw [ey23]; rfl) (by decide) rfl (fun ls hl => ?_)
                refine lv_goto (tgt := 5) hx hb dX13_sorted_99 (by decide) ?_
                exact ih5 y23 y22 E20 _ _ _ (iv_w iy23 (by decide)) (iv_w iy22 (by decide)) (by have h9 := iy22; have h8 := iy23; omega) (by first | exact ms_su hx5_1 ty23 (by decide) | omega) hI hKp hP hS (lv_sub hl [0, 1, 3, 4, 5] rfl)
              refine lv_if_le (tgt := 77) hx hb dX13_sorted_37 (by decide) (fun c24 => ?_) (fun c24 => ?_)
              · --37 taken
                have t25 : v35_5.toInt ≤ 0 := ti_le c24
                have i26 : 0 ≤ v35_5.toInt ∧ v35_5.toInt ≤ 0 := iv_le_l t25 hv35_5 (il_ 0) (by decide)
                exact hJ77 _ _ _ hP hS (lv_sub hl [0, 1, 2, 3, 4, 5] rfl)
              · --37 not
                have t27 : (0 : Int) < v35_5.toInt := ti_nle c24
                have i28 : 1 ≤ v35_5.toInt ∧ v35_5.toInt ≤ 19 := iv_lt_r t27 (il_ 0) hv35_5 (by decide)
                refine lv_aload_n hx hb dX13_sorted_40 rfl (lv_at hl 5 rfl) ?_
                refine lv_iload hx hb dX13_sorted_41 (lv_at hl 0 rfl) ?_
                refine lv_iconst (v := 1) hx hb dX13_sorted_43 (by decide) ?_
                refine lv_isub hx hb dX13_sorted_44 ?_
                refine lv_topi (fun y29 ey29 => ?_)
                obtain ⟨ty29, iy29⟩ := ti_sub (e := 0) (f := 18) i28 ln_1 ey29 (by decide)
                have ty29 : y29.toInt = v35_5.toInt - 1 := ty29
                have iy29 : 0 ≤ y29.toInt ∧ y29.toInt ≤ 18 := iy29
                have n31 : vp_in y29 20 := (iv_in (n := 20) iy29 (by decide))
                refine th_iald hx hb hK hP hI 34 (Nat.le_of_ble_eq_true rfl) rfl rfl n31 dX13_sorted_45 (fun y30 ey30 => ?_)
                refine lv_aload_n hx hb dX13_sorted_46 rfl (lv_at hl 3 rfl) ?_
                refine th_get (ci := 14) (C := RX13) (T := TX13) (N := 97) (v := .ref (ad 32)) hx hb hts hinX13 hown hK hP hI 0 (Nat.le_of_ble_eq_true rfl) rfl rfl 49 (Nat.le_of_ble_eq_true rfl) (hts _ (vA_in _ _ (in_32 _ (zs4 (zs4 (zs1 (zs0))))))) (fun _ h9 => h9) (hI.fr 0 (Nat.le_of_ble_eq_true rfl) rfl (Nat.le_of_ble_eq_true rfl) 32 rfl) dX13_sorted_47 ?_
                refine lv_bipush (v := 16) hx hb dX13_sorted_50 (by decide) ?_
                refine lv_iload hx hb dX13_sorted_52 (lv_at hl 1 rfl) ?_
                refine lv_imul hx hb dX13_sorted_54 ?_
                refine lv_topi (fun y32 ey32 => ?_)
                obtain ⟨ty32, iy32⟩ := ti_mul (e := 0) (f := 304) ln_16 i5 ey32 (by decide)
                have ty32 : y32.toInt = 16 * v5_4.toInt := ty32
                have iy32 : 0 ≤ y32.toInt ∧ y32.toInt ≤ 304 := iy32
                refine lv_iload_n hx hb dX13_sorted_55 rfl (lv_at hl 4 rfl) ?_
                refine lv_iadd hx hb dX13_sorted_56 ?_
                refine lv_topi (fun y33 ey33 => ?_)
                obtain ⟨ty33, iy33⟩ := ti_add (e := 0) (f := 319) iy32 hh0 ey33 (by decide)
                have ty33 : y33.toInt = y32.toInt + a0.toInt := ty33
                have iy33 : 0 ≤ y33.toInt ∧ y33.toInt ≤ 319 := iy33
                have n35 : vp_in y33 320 := (iv_in (n := 320) iy33 (by decide))
                refine th_iald hx hb hK hP hI 32 (Nat.le_of_ble_eq_true rfl) rfl rfl n35 dX13_sorted_57 (fun y34 ey34 => ?_)
                have ey34 := ey34.trans (hKp.ei 32 _ rfl)
                refine lv_icmp_le (tgt := 77) hx hb dX13_sorted_58 (by decide) (fun c36 => ?_) (fun c36 => ?_)
                · --58 taken
                  have t37 : y30.toInt ≤ y34.toInt := ti_le c36
                  exact hJ77 _ _ _ hP hS (lv_sub hl [0, 1, 2, 3, 4, 5] rfl)
                · --58 not
                  have t38 : y34.toInt < y30.toInt := ti_nle c36
                  have i39 : -2147483648 ≤ y34.toInt ∧ y34.toInt ≤ 2147483646 := iv_lt_l t38 (iv_all _) (iv_all _) (by decide)
                  have i40 : -2147483647 ≤ y30.toInt ∧ y30.toInt ≤ 2147483647 := iv_lt_r t38 (iv_all _) (iv_all _) (by decide)
                  refine lv_aload_n hx hb dX13_sorted_61 rfl (lv_at hl 5 rfl) ?_
                  refine lv_iload hx hb dX13_sorted_62 (lv_at hl 0 rfl) ?_
                  refine lv_aload_n hx hb dX13_sorted_64 rfl (lv_at hl 5 rfl) ?_
                  refine lv_iload hx hb dX13_sorted_65 (lv_at hl 0 rfl) ?_
                  refine lv_iconst (v := 1) hx hb dX13_sorted_67 (by decide) ?_
                  refine lv_isub hx hb dX13_sorted_68 ?_
                  refine lv_topi (fun y41 ey41 => ?_)
                  obtain ⟨ty41, iy41⟩ := ti_sub (e := 0) (f := 18) i28 ln_1 ey41 (by decide)
                  have ty41 : y41.toInt = v35_5.toInt - 1 := ty41
                  have iy41 : 0 ≤ y41.toInt ∧ y41.toInt ≤ 18 := iy41
                  have n43 : vp_in y41 20 := (iv_in (n := 20) iy41 (by decide))
                  refine th_iald hx hb hK hP hI 34 (Nat.le_of_ble_eq_true rfl) rfl rfl n43 dX13_sorted_69 (fun y42 ey42 => ?_)
                  have n44 : vp_in v35_5 20 := (iv_in (n := 20) i28 (by decide))
                  refine th_iast hx hb hK hP (WX_D hD) hS hI 34 (Nat.le_of_ble_eq_true rfl) rfl rfl n44 (okI rfl (iv_all _)) dX13_sorted_70 (fun H locs E45 pw46 hI hP hS => ?_)
                  have hKp := hKp.pw pw46 rfl
                  obtain ⟨y47, ey47⟩ : ∃ y : Int32, y = v35_5 + (-1 : Int32) := ⟨_, rfl⟩
                  obtain ⟨ty47, iy47⟩ := ti_add (e := 0) (f := 18) i28 ln_m1 ey47 (by decide)
                  have ty47 : y47.toInt = v35_5.toInt + (-1) := ty47
                  have iy47 : 0 ≤ y47.toInt ∧ y47.toInt ≤ 18 := iy47
                  refine lv_iinc (v := y47) (lv' := [(5, .int y47), (4, .int v5_4), (3, .int v5_3), (0, .ref (ad 0)), (1, .int a0), (2, .ref (ad 34))]) hx hb dX13_sorted_71 hl (k := 0) rfl (by rw [ey47]; rfl) (by decide) rfl (fun ls hl => ?_)
                  refine lv_goto (tgt := 35) hx hb dX13_sorted_74 (by decide) ?_
                  exact ih35 y47 E45 _ _ _ (iv_w iy47 (by decide)) (by first | exact ms_sd hx35_0 ty47 (by decide) | exact ms_sd2 hx35_0 ty47 | omega) hI hKp hP hS (lv_sub hl [0, 1, 2, 3, 4, 5] rfl)
          exact hL35 (20) v5_3 E5_ _ _ _ i14 (by have h9 := i14; first | exact ms_bd h9.2 (by decide) | omega) hI hKp hP hS (lv_sub hl [0, 1, 2, 3, 4, 5] rfl)
        · --26 not
          have t48 : ¬ y9.toInt = 0 := ti_ne c11
          have i49 : 1 ≤ y9.toInt ∧ y9.toInt ≤ 1 := iv_ne_l t48 iy9 (il_ 0)
          refine lv_goto (tgt := 96) hx hb dX13_sorted_29 (by decide) ?_
          obtain ⟨y50, ey50⟩ : ∃ y : Int32, y = v5_4 + (1 : Int32) := ⟨_, rfl⟩
          obtain ⟨ty50, iy50⟩ := ti_add (e := 1) (f := 20) i5 ln_1 ey50 (by decide)
          have ty50 : y50.toInt = v5_4.toInt + 1 := ty50
          have iy50 : 1 ≤ y50.toInt ∧ y50.toInt ≤ 20 := iy50
          refine lv_iinc (v := y50) (lv' := [(4, .int y50), (3, .int v5_3), (0, .ref (ad 0)), (1, .int a0), (2, .ref (ad 34))]) hx hb dX13_sorted_96 hl (k := 0) rfl (by rw [ey50]; rfl) (by decide) rfl (fun ls hl => ?_)
          refine lv_goto (tgt := 5) hx hb dX13_sorted_99 (by decide) ?_
          exact ih5 y50 v5_3 E5_ _ _ _ (iv_w iy50 (by decide)) hv5_3 (by have h9 := hv5_3; have h8 := iy50; omega) (by first | exact ms_su hx5_1 ty50 (by decide) | omega) hI hKp hP hS (lv_sub hl [0, 1, 2, 3, 4] rfl)
  exact hL5 (21) (0 : Int32) (0 : Int32) E _ _ _ (iv_w ln_0 (by decide)) (iv_w ln_0 (by decide)) (by have h9 := ln_0; have h8 := ln_0; omega) (by have h9 := ln_0; first | exact ms_bu h9.1 (by decide) | omega) hI hKp hP hS (lv_sub hl [0, 1, 2, 3, 4] rfl)
def v_sortedO : List Cond := .code yX13_sorted cX13_sorted 6 (some .int) :: vA
abbrev rm_sortedO : Room := { frames := 0, cells := 0, slots := 0, locals := 0 }
def w_sortedO : Nat → Nat → Bool := wl [35] []
set_option maxHeartbeats 4000000 in
set_option maxRecDepth 100000 in
theorem q_sortedO (l : Launch) (dC : Nat → ClassId) (dI : Nat → Nat → Nat) (cT : Nat → ClassId) (ad : Nat → Nat) (E : Nat → va_E) (sz : Nat) (a0 : Int32) (hI0 : IX cT shM spM 72 ad E) (hh0 : 0 ≤ a0.toInt ∧ a0.toInt ≤ 15) : Met l yX13_sorted v_sortedO rm_sortedO (va_Pc [.ref (ad 0), .int a0, .ref (ad 35)] (HW dC dI (TYM cT) 72 ad E sz)) (va_Qi (S := Nat → va_E) (fun r u => IX cT shM spM 72 ad u ∧ Kp w_sortedO E u ∧ ((0 ≤ r.toInt ∧ r.toInt ≤ 20))) (HB dC dI 72 ad) (va_A (WX 72 ad E) sz)) 0 0 (va_A (WX 72 ad E) sz) := by
  refine Met.ofW (cc := cX13_sorted) (maxL := 6) (ret := (some .int)) (by decide) rfl ?_
  intro p e s m args below meth c s₁ B hml hv
  obtain ⟨hargs, hsz, hP, hK, hD0, hEV⟩ := hv
  subst hsz
  have hx := B.exec
  have hb := B.bytes
  have hr := B.returns
  have hts := atoms_spec (ws := v_sortedO) B.pre
  have hown : s.vm.findClass RX13 = some m.cls := findClass_of_methodNamed B.named
  have hlocks := B.notSynchronized
  have hinX13 : ∀ w ∈ u_ws RX13 TX13 97, w ∈ v_sortedO := fun w h => vA_in _ w (in_X13 w h)
  generalize hAe : va_A (WX 72 ad E) s.heap.size = A at hEV ⊢
  have hA : ∀ q : Nat, s.heap.size ≤ q → A q := fun q h => by rw [← hAe]; exact Or.inr h
  have hD : va_D A (WX 72 ad E) := by rw [← hAe]; exact hD0.self
  have hS : va_S A s.heap s.heap [] := va_S.rf
  have hI := hI0
  have hKp : Kp w_sortedO E E := Kp.rf
  have hl := lv_entry ([.ref (ad 0), .int a0, .ref (ad 35)]) (n := 6) (Nat.le_of_ble_eq_true rfl)
  obtain ⟨Q, hQ⟩ : ∃ Q, Q = MQ below (va_Qi (S := Nat → va_E) (fun r u => IX cT shM spM 72 ad u ∧ Kp w_sortedO E u ∧ ((0 ≤ r.toInt ∧ r.toInt ≤ 20))) (HB dC dI 72 ad) (A)) args s 0 0 (A) := ⟨_, rfl⟩
  rw [← hQ, show entryFrame m args 6 = _ from (congrArg (fun z => entryFrame m z 6) hargs).trans (lg_entry_eq _ _ _)]
  generalize (lg_sl ([.ref (ad 0), .int a0, .ref (ad 35)]) ++ List.replicate (6 - (lg_sl ([.ref (ad 0), .int a0, .ref (ad 35)])).length) Slot.unset).toArray = ls at hl ⊢
  have hl : lv_has ls 6 [(0, .ref (ad 0)), (1, .int a0), (2, .ref (ad 35))] := hl
  refine lv_iconst (v := 0) hx hb dX13_sorted_0 (by decide) ?_
  refine lv_istore_n (lv' := [(3, .int 0), (0, .ref (ad 0)), (1, .int a0), (2, .ref (ad 35))]) hx hb dX13_sorted_1 rfl hl (by decide) rfl (fun ls hl => ?_)
  refine lv_iconst (v := 0) hx hb dX13_sorted_2 (by decide) ?_
  refine lv_istore (lv' := [(4, .int 0), (3, .int 0), (0, .ref (ad 0)), (1, .int a0), (2, .ref (ad 35))]) hx hb dX13_sorted_3 hl (by decide) rfl (fun ls hl => ?_)
  have hL5 : ∀ d : Nat, ∀ (v5_4 : Int32) (v5_3 : Int32) (E5_ : Nat → va_E) (H : Heap) (locs : List Loc) (ls : Array Slot), 0 ≤ v5_4.toInt ∧ v5_4.toInt ≤ 20 → 0 ≤ v5_3.toInt ∧ v5_3.toInt ≤ 20 → v5_3.toInt ≤ v5_4.toInt → 20 - v5_4.toInt < (d : Int) → IX cT shM spM 72 ad E5_ → Kp w_sortedO E E5_ → va_P (dC, dI) vwCl (WX 72 ad E5_) H → va_S A s.heap H locs → lv_has ls 6 [(4, .int v5_4), (3, .int v5_3), (0, .ref (ad 0)), (1, .int a0), (2, .ref (ad 35))] → W p l e (headSpec v_sortedO rm_sortedO).room s m args below meth c H locs 0 0 Q (F0 m 5 ls []) := by
    intro d
    induction d with
    | zero =>
      intro v5_4 v5_3 E5_ H locs ls hv5_4 hv5_3 hx5_0 hx5_1 hI hKp hP hS hl
      exact absurd hx5_1 (by first | exact ms_zu hv5_4.2 | omega)
    | succ d ih5 =>
      intro v5_4 v5_3 E5_ H locs ls hv5_4 hv5_3 hx5_0 hx5_1 hI hKp hP hS hl
      refine lv_iload hx hb dX13_sorted_5 (lv_at hl 0 rfl) ?_
      refine lv_aload_n hx hb dX13_sorted_7 rfl (lv_at hl 2 rfl) ?_
      have i1 : 0 ≤ (xi (E 0) 55).toInt ∧ (xi (E 0) 55).toInt ≤ 20 := hI0.iv 0 (Nat.le_of_ble_eq_true rfl) rfl (Nat.le_of_ble_eq_true rfl) rfl
      refine th_get (ci := 14) (C := RX13) (T := TX13) (N := 97) (v := .int (xi (E 0) 55)) hx hb hts hinX13 hown hK hP hI 0 (Nat.le_of_ble_eq_true rfl) rfl rfl 55 (Nat.le_of_ble_eq_true rfl) (hts _ (vA_in _ _ (in_32 _ (zs16 (zs1 (zs1 (zs1 (zs0)))))))) (fun _ h9 => h9) (th_v0 hKp hI0 0 (Nat.le_of_ble_eq_true rfl) rfl (Nat.le_of_ble_eq_true rfl) rfl rfl) dX13_sorted_8 ?_
      refine lv_icmp_ge (tgt := 102) hx hb dX13_sorted_11 (by decide) (fun c2 => ?_) (fun c2 => ?_)
      · --11 taken
        have t3 : (xi (E 0) 55).toInt ≤ v5_4.toInt := ti_le c2
        refine lv_iload_n hx hb dX13_sorted_102 rfl (lv_at hl 1 rfl) ?_
        rw [hQ]
        exact W.iret (v := v5_3) hx hb hr (fun t ht hW => ⟨⟨v5_3, E5_, rfl, ⟨hI, hKp, hv5_3⟩, by show va_P (dC, dI) vwCl (WX 72 ad E5_) t.heap; rw [ht]; exact hP⟩, hS.F ht⟩) hS.2.2 dX13_sorted_103
      · --11 not
        have t4 : v5_4.toInt < (xi (E 0) 55).toInt := ti_nle c2
        have i5 : 0 ≤ v5_4.toInt ∧ v5_4.toInt ≤ 19 := iv_lt_l t4 hv5_4 i1 (by decide)
        have i6 : 1 ≤ (xi (E 0) 55).toInt ∧ (xi (E 0) 55).toInt ≤ 20 := iv_lt_r t4 hv5_4 i1 (by decide)
        refine lv_aload_n hx hb dX13_sorted_14 rfl (lv_at hl 2 rfl) ?_
        refine th_get (ci := 14) (C := RX13) (T := TX13) (N := 97) (v := .ref (ad 36)) hx hb hts hinX13 hown hK hP hI 0 (Nat.le_of_ble_eq_true rfl) rfl rfl 53 (Nat.le_of_ble_eq_true rfl) (hts _ (vA_in _ _ (in_32 _ (zs4 (zs4 (zs4 (zs1 (zs0)))))))) (fun _ h9 => h9) (hI.fr 0 (Nat.le_of_ble_eq_true rfl) rfl (Nat.le_of_ble_eq_true rfl) 36 rfl) dX13_sorted_15 ?_
        refine lv_bipush (v := 16) hx hb dX13_sorted_18 (by decide) ?_
        refine lv_iload hx hb dX13_sorted_20 (lv_at hl 0 rfl) ?_
        refine lv_imul hx hb dX13_sorted_22 ?_
        refine lv_topi (fun y7 ey7 => ?_)
        obtain ⟨ty7, iy7⟩ := ti_mul (e := 0) (f := 304) ln_16 i5 ey7 (by decide)
        have ty7 : y7.toInt = 16 * v5_4.toInt := ty7
        have iy7 : 0 ≤ y7.toInt ∧ y7.toInt ≤ 304 := iy7
        refine lv_iload_n hx hb dX13_sorted_23 rfl (lv_at hl 3 rfl) ?_
        refine lv_iadd hx hb dX13_sorted_24 ?_
        refine lv_topi (fun y8 ey8 => ?_)
        obtain ⟨ty8, iy8⟩ := ti_add (e := 0) (f := 319) iy7 hh0 ey8 (by decide)
        have ty8 : y8.toInt = y7.toInt + a0.toInt := ty8
        have iy8 : 0 ≤ y8.toInt ∧ y8.toInt ≤ 319 := iy8
        have n10 : vp_in y8 320 := (iv_in (n := 320) iy8 (by decide))
        refine th_zald hx hb hK hP hI 36 (Nat.le_of_ble_eq_true rfl) rfl rfl n10 dX13_sorted_25 (fun y9 ey9 => ?_)
        have iy9 : 0 ≤ y9.toInt ∧ y9.toInt ≤ 1 := hI.el 36 (Nat.le_of_ble_eq_true rfl) rfl n10 (fun _ => rfl) ey9
        have ey9 := ey9.trans (hKp.ei 36 _ rfl)
        refine lv_if_eq (tgt := 32) hx hb dX13_sorted_26 (by decide) (fun c11 => ?_) (fun c11 => ?_)
        · --26 taken
          have t12 : y9.toInt = 0 := ti_eq c11
          have i13 : 0 ≤ y9.toInt ∧ y9.toInt ≤ 0 := iv_eqi t12 iy9 (il_ 0) (by decide)
          have i14 : 0 ≤ v5_3.toInt ∧ v5_3.toInt ≤ 19 := by omega
          refine lv_iload_n hx hb dX13_sorted_32 rfl (lv_at hl 1 rfl) ?_
          refine lv_istore (lv' := [(5, .int v5_3), (4, .int v5_4), (3, .int v5_3), (0, .ref (ad 0)), (1, .int a0), (2, .ref (ad 35))]) hx hb dX13_sorted_33 hl (by decide) rfl (fun ls hl => ?_)
          have hL35 : ∀ d : Nat, ∀ (v35_5 : Int32) (E35_ : Nat → va_E) (H : Heap) (locs : List Loc) (ls : Array Slot), 0 ≤ v35_5.toInt ∧ v35_5.toInt ≤ 19 → v35_5.toInt - 0 < (d : Int) → IX cT shM spM 72 ad E35_ → Kp w_sortedO E E35_ → va_P (dC, dI) vwCl (WX 72 ad E35_) H → va_S A s.heap H locs → lv_has ls 6 [(5, .int v35_5), (4, .int v5_4), (3, .int v5_3), (0, .ref (ad 0)), (1, .int a0), (2, .ref (ad 35))] → W p l e (headSpec v_sortedO rm_sortedO).room s m args below meth c H locs 0 0 Q (F0 m 35 ls []) := by
            intro d
            induction d with
            | zero =>
              intro v35_5 E35_ H locs ls hv35_5 hx35_0 hI hKp hP hS hl
              exact absurd hx35_0 (by first | exact ms_zd hv35_5.1 | omega)
            | succ d ih35 =>
              intro v35_5 E35_ H locs ls hv35_5 hx35_0 hI hKp hP hS hl
              refine lv_iload hx hb dX13_sorted_35 (lv_at hl 0 rfl) ?_
              have hJ77 : ∀ (H : Heap) (locs : List Loc) (ls : Array Slot), va_P (dC, dI) vwCl (WX 72 ad E35_) H → va_S A s.heap H locs → lv_has ls 6 [(5, .int v35_5), (4, .int v5_4), (3, .int v5_3), (0, .ref (ad 0)), (1, .int a0), (2, .ref (ad 35))] → W p l e (headSpec v_sortedO rm_sortedO).room s m args below meth c H locs 0 0 Q (F0 m 77 ls []) := by
                intro H locs ls hP hS hl
                refine lv_aload_n hx hb dX13_sorted_77 rfl (lv_at hl 5 rfl) ?_
                refine lv_iload hx hb dX13_sorted_78 (lv_at hl 0 rfl) ?_
                refine lv_aload_n hx hb dX13_sorted_80 rfl (lv_at hl 3 rfl) ?_
                refine th_get (ci := 14) (C := RX13) (T := TX13) (N := 97) (v := .ref (ad 32)) hx hb hts hinX13 hown hK hP hI 0 (Nat.le_of_ble_eq_true rfl) rfl rfl 49 (Nat.le_of_ble_eq_true rfl) (hts _ (vA_in _ _ (in_32 _ (zs4 (zs4 (zs1 (zs0))))))) (fun _ h9 => h9) (hI.fr 0 (Nat.le_of_ble_eq_true rfl) rfl (Nat.le_of_ble_eq_true rfl) 32 rfl) dX13_sorted_81 ?_
                refine lv_bipush (v := 16) hx hb dX13_sorted_84 (by decide) ?_
                refine lv_iload hx hb dX13_sorted_86 (lv_at hl 1 rfl) ?_
                refine lv_imul hx hb dX13_sorted_88 ?_
                refine lv_topi (fun y15 ey15 => ?_)
                obtain ⟨ty15, iy15⟩ := ti_mul (e := 0) (f := 304) ln_16 i5 ey15 (by decide)
                have ty15 : y15.toInt = 16 * v5_4.toInt := ty15
                have iy15 : 0 ≤ y15.toInt ∧ y15.toInt ≤ 304 := iy15
                refine lv_iload_n hx hb dX13_sorted_89 rfl (lv_at hl 4 rfl) ?_
                refine lv_iadd hx hb dX13_sorted_90 ?_
                refine lv_topi (fun y16 ey16 => ?_)
                obtain ⟨ty16, iy16⟩ := ti_add (e := 0) (f := 319) iy15 hh0 ey16 (by decide)
                have ty16 : y16.toInt = y15.toInt + a0.toInt := ty16
                have iy16 : 0 ≤ y16.toInt ∧ y16.toInt ≤ 319 := iy16
                have n18 : vp_in y16 320 := (iv_in (n := 320) iy16 (by decide))
                refine th_iald hx hb hK hP hI 32 (Nat.le_of_ble_eq_true rfl) rfl rfl n18 dX13_sorted_91 (fun y17 ey17 => ?_)
                have ey17 := ey17.trans (hKp.ei 32 _ rfl)
                have n19 : vp_in v35_5 20 := (iv_in (n := 20) hv35_5 (by decide))
                refine th_iast hx hb hK hP (WX_D hD) hS hI 35 (Nat.le_of_ble_eq_true rfl) rfl rfl n19 (okI rfl (iv_all _)) dX13_sorted_92 (fun H locs E20 pw21 hI hP hS => ?_)
                have hKp := hKp.pw pw21 rfl
                obtain ⟨y22, ey22⟩ : ∃ y : Int32, y = v5_3 + (1 : Int32) := ⟨_, rfl⟩
                obtain ⟨ty22, iy22⟩ := ti_add (e := 1) (f := 20) i14 ln_1 ey22 (by decide)
                have ty22 : y22.toInt = v5_3.toInt + 1 := ty22
                have iy22 : 1 ≤ y22.toInt ∧ y22.toInt ≤ 20 := iy22
                refine lv_iinc (v := y22) (lv' := [(3, .int y22), (5, .int v35_5), (4, .int v5_4), (0, .ref (ad 0)), (1, .int a0), (2, .ref (ad 35))]) hx hb dX13_sorted_93 hl (k := 2) rfl (by rw [ey22]; rfl) (by decide) rfl (fun ls hl => ?_)
                obtain ⟨y23, ey23⟩ : ∃ y : Int32, y = v5_4 + (1 : Int32) := ⟨_, rfl⟩
                obtain ⟨ty23, iy23⟩ := ti_add (e := 1) (f := 20) i5 ln_1 ey23 (by decide)
                have ty23 : y23.toInt = v5_4.toInt + 1 := ty23
                have iy23 : 1 ≤ y23.toInt ∧ y23.toInt ≤ 20 := iy23
                refine lv_iinc (v := y23) (lv' := [(4, .int y23), (3, .int y22), (5, .int v35_5), (0, .ref (ad 0)), (1, .int a0), (2, .ref (ad 35))]) hx hb dX13_sorted_96 hl (k := 2) rfl (by rw [ey23]; rfl) (by decide) rfl (fun ls hl => ?_)
                refine lv_goto (tgt := 5) hx hb dX13_sorted_99 (by decide) ?_
                exact ih5 y23 y22 E20 _ _ _ (iv_w iy23 (by decide)) (iv_w iy22 (by decide)) (by have h9 := iy22; have h8 := iy23; omega) (by first | exact ms_su hx5_1 ty23 (by decide) | omega) hI hKp hP hS (lv_sub hl [0, 1, 3, 4, 5] rfl)
              refine lv_if_le (tgt := 77) hx hb dX13_sorted_37 (by decide) (fun c24 => ?_) (fun c24 => ?_)
              · --37 taken
                have t25 : v35_5.toInt ≤ 0 := ti_le c24
                have i26 : 0 ≤ v35_5.toInt ∧ v35_5.toInt ≤ 0 := iv_le_l t25 hv35_5 (il_ 0) (by decide)
                exact hJ77 _ _ _ hP hS (lv_sub hl [0, 1, 2, 3, 4, 5] rfl)
              · --37 not
                have t27 : (0 : Int) < v35_5.toInt := ti_nle c24
                have i28 : 1 ≤ v35_5.toInt ∧ v35_5.toInt ≤ 19 := iv_lt_r t27 (il_ 0) hv35_5 (by decide)
                refine lv_aload_n hx hb dX13_sorted_40 rfl (lv_at hl 5 rfl) ?_
                refine lv_iload hx hb dX13_sorted_41 (lv_at hl 0 rfl) ?_
                refine lv_iconst (v := 1) hx hb dX13_sorted_43 (by decide) ?_
                refine lv_isub hx hb dX13_sorted_44 ?_
                refine lv_topi (fun y29 ey29 => ?_)
                obtain ⟨ty29, iy29⟩ := ti_sub (e := 0) (f := 18) i28 ln_1 ey29 (by decide)
                have ty29 : y29.toInt = v35_5.toInt - 1 := ty29
                have iy29 : 0 ≤ y29.toInt ∧ y29.toInt ≤ 18 := iy29
                have n31 : vp_in y29 20 := (iv_in (n := 20) iy29 (by decide))
                refine th_iald hx hb hK hP hI 35 (Nat.le_of_ble_eq_true rfl) rfl rfl n31 dX13_sorted_45 (fun y30 ey30 => ?_)
                refine lv_aload_n hx hb dX13_sorted_46 rfl (lv_at hl 3 rfl) ?_
                refine th_get (ci := 14) (C := RX13) (T := TX13) (N := 97) (v := .ref (ad 32)) hx hb hts hinX13 hown hK hP hI 0 (Nat.le_of_ble_eq_true rfl) rfl rfl 49 (Nat.le_of_ble_eq_true rfl) (hts _ (vA_in _ _ (in_32 _ (zs4 (zs4 (zs1 (zs0))))))) (fun _ h9 => h9) (hI.fr 0 (Nat.le_of_ble_eq_true rfl) rfl (Nat.le_of_ble_eq_true rfl) 32 rfl) dX13_sorted_47 ?_
                refine lv_bipush (v := 16) hx hb dX13_sorted_50 (by decide) ?_
                refine lv_iload hx hb dX13_sorted_52 (lv_at hl 1 rfl) ?_
                refine lv_imul hx hb dX13_sorted_54 ?_
                refine lv_topi (fun y32 ey32 => ?_)
                obtain ⟨ty32, iy32⟩ := ti_mul (e := 0) (f := 304) ln_16 i5 ey32 (by decide)
                have ty32 : y32.toInt = 16 * v5_4.toInt := ty32
                have iy32 : 0 ≤ y32.toInt ∧ y32.toInt ≤ 304 := iy32
                refine lv_iload_n hx hb dX13_sorted_55 rfl (lv_at hl 4 rfl) ?_
                refine lv_iadd hx hb dX13_sorted_56 ?_
                refine lv_topi (fun y33 ey33 => ?_)
                obtain ⟨ty33, iy33⟩ := ti_add (e := 0) (f := 319) iy32 hh0 ey33 (by decide)
                have ty33 : y33.toInt = y32.toInt + a0.toInt := ty33
                have iy33 : 0 ≤ y33.toInt ∧ y33.toInt ≤ 319 := iy33
                have n35 : vp_in y33 320 := (iv_in (n := 320) iy33 (by decide))
                refine th_iald hx hb hK hP hI 32 (Nat.le_of_ble_eq_true rfl) rfl rfl n35 dX13_sorted_57 (fun y34 ey34 => ?_)
                have ey34 := ey34.trans (hKp.ei 32 _ rfl)
                refine lv_icmp_le (tgt := 77) hx hb dX13_sorted_58 (by decide) (fun c36 => ?_) (fun c36 => ?_)
                · --58 taken
                  have t37 : y30.toInt ≤ y34.toInt := ti_le c36
                  exact hJ77 _ _ _ hP hS (lv_sub hl [0, 1, 2, 3, 4, 5] rfl)
                · --58 not
                  have t38 : y34.toInt < y30.toInt := ti_nle c36
                  have i39 : -2147483648 ≤ y34.toInt ∧ y34.toInt ≤ 2147483646 := iv_lt_l t38 (iv_all _) (iv_all _) (by decide)
                  have i40 : -2147483647 ≤ y30.toInt ∧ y30.toInt ≤ 2147483647 := iv_lt_r t38 (iv_all _) (iv_all _) (by decide)
                  refine lv_aload_n hx hb dX13_sorted_61 rfl (lv_at hl 5 rfl) ?_
                  refine lv_iload hx hb dX13_sorted_62 (lv_at hl 0 rfl) ?_
                  refine lv_aload_n hx hb dX13_sorted_64 rfl (lv_at hl 5 rfl) ?_
                  refine lv_iload hx hb dX13_sorted_65 (lv_at hl 0 rfl) ?_
                  refine lv_iconst (v := 1) hx hb dX13_sorted_67 (by decide) ?_
                  refine lv_isub hx hb dX13_sorted_68 ?_
                  refine lv_topi (fun y41 ey41 => ?_)
                  obtain ⟨ty41, iy41⟩ := ti_sub (e := 0) (f := 18) i28 ln_1 ey41 (by decide)
                  have ty41 : y41.toInt = v35_5.toInt - 1 := ty41
                  have iy41 : 0 ≤ y41.toInt ∧ y41.toInt ≤ 18 := iy41
                  have n43 : vp_in y41 20 := (iv_in (n := 20) iy41 (by decide))
                  refine th_iald hx hb hK hP hI 35 (Nat.le_of_ble_eq_true rfl) rfl rfl n43 dX13_sorted_69 (fun y42 ey42 => ?_)
                  have n44 : vp_in v35_5 20 := (iv_in (n := 20) i28 (by decide))
                  refine th_iast hx hb hK hP (WX_D hD) hS hI 35 (Nat.le_of_ble_eq_true rfl) rfl rfl n44 (okI rfl (iv_all _)) dX13_sorted_70 (fun H locs E45 pw46 hI hP hS => ?_)
                  have hKp := hKp.pw pw46 rfl
                  obtain ⟨y47, ey47⟩ : ∃ y : Int32, y = v35_5 + (-1 : Int32) := ⟨_, rfl⟩
                  obtain ⟨ty47, iy47⟩ := ti_add (e := 0) (f := 18) i28 ln_m1 ey47 (by decide)
                  have ty47 : y47.toInt = v35_5.toInt + (-1) := ty47
                  have iy47 : 0 ≤ y47.toInt ∧ y47.toInt ≤ 18 := iy47
                  refine lv_iinc (v := y47) (lv' := [(5, .int y47), (4, .int v5_4), (3, .int v5_3), (0, .ref (ad 0)), (1, .int a0), (2, .ref (ad 35))]) hx hb dX13_sorted_71 hl (k := 0) rfl (by rw [ey47]; rfl) (by decide) rfl (fun ls hl => ?_)
                  refine lv_goto (tgt := 35) hx hb dX13_sorted_74 (by decide) ?_
                  exact ih35 y47 E45 _ _ _ (iv_w iy47 (by decide)) (by first | exact ms_sd hx35_0 ty47 (by decide) | exact ms_sd2 hx35_0 ty47 | omega) hI hKp hP hS (lv_sub hl [0, 1, 2, 3, 4, 5] rfl)
          exact hL35 (20) v5_3 E5_ _ _ _ i14 (by have h9 := i14; first | exact ms_bd h9.2 (by decide) | omega) hI hKp hP hS (lv_sub hl [0, 1, 2, 3, 4, 5] rfl)
        · --26 not
          have t48 : ¬ y9.toInt = 0 := ti_ne c11
          have i49 : 1 ≤ y9.toInt ∧ y9.toInt ≤ 1 := iv_ne_l t48 iy9 (il_ 0)
          refine lv_goto (tgt := 96) hx hb dX13_sorted_29 (by decide) ?_
          obtain ⟨y50, ey50⟩ : ∃ y : Int32, y = v5_4 + (1 : Int32) := ⟨_, rfl⟩
          obtain ⟨ty50, iy50⟩ := ti_add (e := 1) (f := 20) i5 ln_1 ey50 (by decide)
          have ty50 : y50.toInt = v5_4.toInt + 1 := ty50
          have iy50 : 1 ≤ y50.toInt ∧ y50.toInt ≤ 20 := iy50
          refine lv_iinc (v := y50) (lv' := [(4, .int y50), (3, .int v5_3), (0, .ref (ad 0)), (1, .int a0), (2, .ref (ad 35))]) hx hb dX13_sorted_96 hl (k := 0) rfl (by rw [ey50]; rfl) (by decide) rfl (fun ls hl => ?_)
          refine lv_goto (tgt := 5) hx hb dX13_sorted_99 (by decide) ?_
          exact ih5 y50 v5_3 E5_ _ _ _ (iv_w iy50 (by decide)) hv5_3 (by have h9 := hv5_3; have h8 := iy50; omega) (by first | exact ms_su hx5_1 ty50 (by decide) | omega) hI hKp hP hS (lv_sub hl [0, 1, 2, 3, 4] rfl)
  exact hL5 (21) (0 : Int32) (0 : Int32) E _ _ _ (iv_w ln_0 (by decide)) (iv_w ln_0 (by decide)) (by have h9 := ln_0; have h8 := ln_0; omega) (by have h9 := ln_0; first | exact ms_bu h9.1 (by decide) | omega) hI hKp hP hS (lv_sub hl [0, 1, 2, 3, 4] rfl)
def v_isBetter : List Cond := .code yX13_isBetter cX13_isBetter 6 (some .boolean) :: vA
abbrev rm_isBetter : Room := { frames := 1, cells := 0, slots := 0, locals := 40 }
def w_isBetter : Nat → Nat → Bool := wl [34, 35] []
set_option maxHeartbeats 4000000 in
set_option maxRecDepth 100000 in
theorem q_isBetter (l : Launch) (dC : Nat → ClassId) (dI : Nat → Nat → Nat) (cT : Nat → ClassId) (ad : Nat → Nat) (E : Nat → va_E) (sz : Nat) (a0 : Int32) (a1 : Int32) (hI0 : IX cT shM spM 72 ad E) (hh0 : 0 ≤ a0.toInt ∧ a0.toInt ≤ 15) (hh1 : 0 ≤ a1.toInt ∧ a1.toInt ≤ 15) : Met l yX13_isBetter v_isBetter rm_isBetter (va_Pc [.ref (ad 0), .int a0, .int a1] (HW dC dI (TYM cT) 72 ad E sz)) (va_Qi (S := Nat → va_E) (fun r u => IX cT shM spM 72 ad u ∧ Kp w_isBetter E u ∧ ((0 ≤ r.toInt ∧ r.toInt ≤ 1))) (HB dC dI 72 ad) (va_A (WX 72 ad E) sz)) 0 0 (va_A (WX 72 ad E) sz) := by
  refine Met.ofW (cc := cX13_isBetter) (maxL := 6) (ret := (some .boolean)) (by decide) rfl ?_
  intro p e s m args below meth c s₁ B hml hv
  obtain ⟨hargs, hsz, hP, hK, hD0, hEV⟩ := hv
  subst hsz
  have hx := B.exec
  have hb := B.bytes
  have hr := B.returns
  have hts := atoms_spec (ws := v_isBetter) B.pre
  have hown : s.vm.findClass RX13 = some m.cls := findClass_of_methodNamed B.named
  have hlocks := B.notSynchronized
  have hinX13 : ∀ w ∈ u_ws RX13 TX13 97, w ∈ v_isBetter := fun w h => vA_in _ w (in_X13 w h)
  generalize hAe : va_A (WX 72 ad E) s.heap.size = A at hEV ⊢
  have hA : ∀ q : Nat, s.heap.size ≤ q → A q := fun q h => by rw [← hAe]; exact Or.inr h
  have hD : va_D A (WX 72 ad E) := by rw [← hAe]; exact hD0.self
  have hS : va_S A s.heap s.heap [] := va_S.rf
  have hI := hI0
  have hKp : Kp w_isBetter E E := Kp.rf
  have hl := lv_entry ([.ref (ad 0), .int a0, .int a1]) (n := 6) (Nat.le_of_ble_eq_true rfl)
  obtain ⟨Q, hQ⟩ : ∃ Q, Q = MQ below (va_Qi (S := Nat → va_E) (fun r u => IX cT shM spM 72 ad u ∧ Kp w_isBetter E u ∧ ((0 ≤ r.toInt ∧ r.toInt ≤ 1))) (HB dC dI 72 ad) (A)) args s 0 0 (A) := ⟨_, rfl⟩
  rw [← hQ, show entryFrame m args 6 = _ from (congrArg (fun z => entryFrame m z 6) hargs).trans (lg_entry_eq _ _ _)]
  generalize (lg_sl ([.ref (ad 0), .int a0, .int a1]) ++ List.replicate (6 - (lg_sl ([.ref (ad 0), .int a0, .int a1])).length) Slot.unset).toArray = ls at hl ⊢
  have hl : lv_has ls 6 [(0, .ref (ad 0)), (1, .int a0), (2, .int a1)] := hl
  refine lv_aload_n hx hb dX13_isBetter_0 rfl (lv_at hl 0 rfl) ?_
  refine th_get (ci := 14) (C := RX13) (T := TX13) (N := 97) (v := .ref (ad 33)) hx hb hts hinX13 hown hK hP hI 0 (Nat.le_of_ble_eq_true rfl) rfl rfl 50 (Nat.le_of_ble_eq_true rfl) (hts _ (vA_in _ _ (in_32 _ (zs4 (zs4 (zs1 (zs1 (zs0)))))))) (fun _ h9 => h9) (hI.fr 0 (Nat.le_of_ble_eq_true rfl) rfl (Nat.le_of_ble_eq_true rfl) 33 rfl) dX13_isBetter_1 ?_
  refine lv_iload_n hx hb dX13_isBetter_4 rfl (lv_at hl 1 rfl) ?_
  have n2 : vp_in a0 16 := (iv_in (n := 16) hh0 (by decide))
  refine th_iald hx hb hK hP hI 33 (Nat.le_of_ble_eq_true rfl) rfl rfl n2 dX13_isBetter_5 (fun y1 ey1 => ?_)
  have ey1 := ey1.trans (hKp.ei 33 _ rfl)
  refine lv_aload_n hx hb dX13_isBetter_6 rfl (lv_at hl 0 rfl) ?_
  refine th_get (ci := 14) (C := RX13) (T := TX13) (N := 97) (v := .ref (ad 33)) hx hb hts hinX13 hown hK hP hI 0 (Nat.le_of_ble_eq_true rfl) rfl rfl 50 (Nat.le_of_ble_eq_true rfl) (hts _ (vA_in _ _ (in_32 _ (zs4 (zs4 (zs1 (zs1 (zs0)))))))) (fun _ h9 => h9) (hI.fr 0 (Nat.le_of_ble_eq_true rfl) rfl (Nat.le_of_ble_eq_true rfl) 33 rfl) dX13_isBetter_7 ?_
  refine lv_iload_n hx hb dX13_isBetter_10 rfl (lv_at hl 2 rfl) ?_
  have n4 : vp_in a1 16 := (iv_in (n := 16) hh1 (by decide))
  refine th_iald hx hb hK hP hI 33 (Nat.le_of_ble_eq_true rfl) rfl rfl n4 dX13_isBetter_11 (fun y3 ey3 => ?_)
  have ey3 := ey3.trans (hKp.ei 33 _ rfl)
  refine lv_icmp_eq (tgt := 36) hx hb dX13_isBetter_12 (by decide) (fun c5 => ?_) (fun c5 => ?_)
  · --12 taken
    have t6 : y1.toInt = y3.toInt := ti_eq c5
    refine lv_aload_n hx hb dX13_isBetter_36 rfl (lv_at hl 0 rfl) ?_
    refine lv_iload_n hx hb dX13_isBetter_37 rfl (lv_at hl 1 rfl) ?_
    refine lv_aload_n hx hb dX13_isBetter_38 rfl (lv_at hl 0 rfl) ?_
    refine th_get (ci := 14) (C := RX13) (T := TX13) (N := 97) (v := .ref (ad 34)) hx hb hts hinX13 hown hK hP hI 0 (Nat.le_of_ble_eq_true rfl) rfl rfl 51 (Nat.le_of_ble_eq_true rfl) (hts _ (vA_in _ _ (in_32 _ (zs4 (zs4 (zs1 (zs1 (zs1 (zs0))))))))) (fun _ h9 => h9) (hI.fr 0 (Nat.le_of_ble_eq_true rfl) rfl (Nat.le_of_ble_eq_true rfl) 34 rfl) dX13_isBetter_39 ?_
    refine th_i (va_runV (As := [.int a0, .ref (ad 34)]) (rest := []) ⟨hx, hb, hml, hown, hts⟩ (q_sortedL l dC dI cT ad E s.heap.size a0 hI hh0) (cwV 2 hts (gi_V (in_32 _ (zs16 (zs4 (zs0)))) (in_32 _ (zs16 (zs4 (zs1 (zs0))))) (in_32 _ (zs16 (zs4 (zs1 (zs1 (zs0)))))) (in_24 _ (zs4 (zs4 (zs4 (zs1 (zs1 (zs1 (zs0)))))))) (in_32 _ (zs16 (zs4 (zs1 (zs1 (zs1 (zs0)))))))) rfl rfl rfl ⟨rfl, hz_yX13_sorted_2⟩ ⟨Nat.le_of_ble_eq_true rfl, Nat.le_of_ble_eq_true rfl⟩) ⟨HW_bl, va_recv hK hP (ci := 14) (q0 := 0) rfl (hI.ob 0 (Nat.le_of_ble_eq_true rfl) rfl), (HW_wi hP hK (WX_D hD) hS hA hEV)⟩ rfl rfl hl.1 rfl (lv_room (Nat.le_of_ble_eq_true rfl)) dX13_isBetter_42 ⟨Nat.le_of_ble_eq_true rfl, Nat.le_of_ble_eq_true rfl⟩) (WX_D hD) hS hA (fun r7 E8 H locs hw hP hS => ?_)
    obtain ⟨hI, kq9, hw⟩ := hw
    have hKb := hKp
    have hKp := hKp.tr kq9 (wl_sub rfl rfl)
    have f10 := hw
    refine lv_istore_n (lv' := [(3, .int r7), (0, .ref (ad 0)), (1, .int a0), (2, .int a1)]) hx hb dX13_isBetter_45 rfl hl (by decide) rfl (fun ls hl => ?_)
    refine lv_aload_n hx hb dX13_isBetter_46 rfl (lv_at hl 1 rfl) ?_
    refine lv_iload_n hx hb dX13_isBetter_47 rfl (lv_at hl 3 rfl) ?_
    refine lv_aload_n hx hb dX13_isBetter_48 rfl (lv_at hl 1 rfl) ?_
    refine th_get (ci := 14) (C := RX13) (T := TX13) (N := 97) (v := .ref (ad 35)) hx hb hts hinX13 hown hK hP hI 0 (Nat.le_of_ble_eq_true rfl) rfl rfl 52 (Nat.le_of_ble_eq_true rfl) (hts _ (vA_in _ _ (in_32 _ (zs4 (zs4 (zs4 (zs0))))))) (fun _ h9 => h9) (hI.fr 0 (Nat.le_of_ble_eq_true rfl) rfl (Nat.le_of_ble_eq_true rfl) 35 rfl) dX13_isBetter_49 ?_
    refine th_i (va_runV (As := [.int a1, .ref (ad 35)]) (rest := []) ⟨hx, hb, hml, hown, hts⟩ (q_sortedO l dC dI cT ad E8 H.size a1 hI hh1) (cwV 2 hts (gi_V (in_32 _ (zs16 (zs4 (zs0)))) (in_32 _ (zs16 (zs4 (zs1 (zs0))))) (in_32 _ (zs16 (zs4 (zs1 (zs1 (zs0)))))) (in_24 _ (zs4 (zs4 (zs4 (zs1 (zs1 (zs1 (zs0)))))))) (in_32 _ (zs16 (zs4 (zs1 (zs1 (zs1 (zs0)))))))) rfl rfl rfl ⟨rfl, hz_yX13_sorted_2⟩ ⟨Nat.le_of_ble_eq_true rfl, Nat.le_of_ble_eq_true rfl⟩) ⟨HW_bl, va_recv hK hP (ci := 14) (q0 := 0) rfl (hI.ob 0 (Nat.le_of_ble_eq_true rfl) rfl), (HW_wi hP hK (WX_D hD) hS hA hEV)⟩ rfl rfl hl.1 rfl (lv_room (Nat.le_of_ble_eq_true rfl)) dX13_isBetter_52 ⟨Nat.le_of_ble_eq_true rfl, Nat.le_of_ble_eq_true rfl⟩) (WX_D hD) hS hA (fun r11 E12 H locs hw hP hS => ?_)
    obtain ⟨hI, kq13, hw⟩ := hw
    have hKb := hKp
    have hKp := hKp.tr kq13 (wl_sub rfl rfl)
    have f14 := hw
    refine lv_istore (lv' := [(4, .int r11), (3, .int r7), (0, .ref (ad 0)), (1, .int a0), (2, .int a1)]) hx hb dX13_isBetter_55 hl (by decide) rfl (fun ls hl => ?_)
    refine lv_iconst (v := 0) hx hb dX13_isBetter_57 (by decide) ?_
    refine lv_istore (lv' := [(5, .int 0), (4, .int r11), (3, .int r7), (0, .ref (ad 0)), (1, .int a0), (2, .int a1)]) hx hb dX13_isBetter_58 hl (by decide) rfl (fun ls hl => ?_)
    have hL60 : ∀ d : Nat, ∀ (v60_5 : Int32) (H : Heap) (locs : List Loc) (ls : Array Slot), 0 ≤ v60_5.toInt ∧ v60_5.toInt ≤ 20 → 20 - v60_5.toInt < (d : Int) → va_P (dC, dI) vwCl (WX 72 ad E12) H → va_S A s.heap H locs → lv_has ls 6 [(5, .int v60_5), (4, .int r11), (3, .int r7), (0, .ref (ad 0)), (1, .int a0), (2, .int a1)] → W p l e (headSpec v_isBetter rm_isBetter).room s m args below meth c H locs 0 0 Q (F0 m 60 ls []) := by
      intro d
      induction d with
      | zero =>
        intro v60_5 H locs ls hv60_5 hx60_0 hP hS hl
        exact absurd hx60_0 (by first | exact ms_zu hv60_5.2 | omega)
      | succ d ih60 =>
        intro v60_5 H locs ls hv60_5 hx60_0 hP hS hl
        refine lv_iload hx hb dX13_isBetter_60 (lv_at hl 0 rfl) ?_
        refine lv_iload_n hx hb dX13_isBetter_62 rfl (lv_at hl 2 rfl) ?_
        refine lv_icmp_ge (tgt := 119) hx hb dX13_isBetter_63 (by decide) (fun c15 => ?_) (fun c15 => ?_)
        · --63 taken
          have t16 : r7.toInt ≤ v60_5.toInt := ti_le c15
          refine lv_aload_n hx hb dX13_isBetter_119 rfl (lv_at hl 3 rfl) ?_
          have i17 : 0 ≤ (xi (E 0) 55).toInt ∧ (xi (E 0) 55).toInt ≤ 20 := hI0.iv 0 (Nat.le_of_ble_eq_true rfl) rfl (Nat.le_of_ble_eq_true rfl) rfl
          refine th_get (ci := 14) (C := RX13) (T := TX13) (N := 97) (v := .int (xi (E 0) 55)) hx hb hts hinX13 hown hK hP hI 0 (Nat.le_of_ble_eq_true rfl) rfl rfl 55 (Nat.le_of_ble_eq_true rfl) (hts _ (vA_in _ _ (in_32 _ (zs16 (zs1 (zs1 (zs1 (zs0)))))))) (fun _ h9 => h9) (th_v0 hKp hI0 0 (Nat.le_of_ble_eq_true rfl) rfl (Nat.le_of_ble_eq_true rfl) rfl rfl) dX13_isBetter_120 ?_
          refine lv_iconst (v := 1) hx hb dX13_isBetter_123 (by decide) ?_
          refine lv_isub hx hb dX13_isBetter_124 ?_
          refine lv_topi (fun y18 ey18 => ?_)
          obtain ⟨ty18, iy18⟩ := ti_sub (e := (-1)) (f := 19) i17 ln_1 ey18 (by decide)
          have ty18 : y18.toInt = (xi (E 0) 55).toInt - 1 := ty18
          have iy18 : -1 ≤ y18.toInt ∧ y18.toInt ≤ 19 := iy18
          refine lv_istore (lv' := [(5, .int y18), (4, .int r11), (3, .int r7), (0, .ref (ad 0)), (1, .int a0), (2, .int a1)]) hx hb dX13_isBetter_125 hl (by decide) rfl (fun ls hl => ?_)
          have hL127 : ∀ d : Nat, ∀ (v127_5 : Int32) (H : Heap) (locs : List Loc) (ls : Array Slot), -1 ≤ v127_5.toInt ∧ v127_5.toInt ≤ 19 → v127_5.toInt - (-1) < (d : Int) → va_P (dC, dI) vwCl (WX 72 ad E12) H → va_S A s.heap H locs → lv_has ls 6 [(5, .int v127_5), (4, .int r11), (3, .int r7), (0, .ref (ad 0)), (1, .int a0), (2, .int a1)] → W p l e (headSpec v_isBetter rm_isBetter).room s m args below meth c H locs 0 0 Q (F0 m 127 ls []) := by
            intro d
            induction d with
            | zero =>
              intro v127_5 H locs ls hv127_5 hx127_0 hP hS hl
              exact absurd hx127_0 (by first | exact ms_zd hv127_5.1 | omega)
            | succ d ih127 =>
              intro v127_5 H locs ls hv127_5 hx127_0 hP hS hl
              refine lv_iload hx hb dX13_isBetter_127 (lv_at hl 0 rfl) ?_
              refine lv_if_lt (tgt := 198) hx hb dX13_isBetter_129 (by decide) (fun c19 => ?_) (fun c19 => ?_)
              · --129 taken
                have t20 : v127_5.toInt < 0 := ti_lt c19
                have i21 : -1 ≤ v127_5.toInt ∧ v127_5.toInt ≤ -1 := iv_lt_l t20 hv127_5 (il_ 0) (by decide)
                refine lv_iload_n hx hb dX13_isBetter_198 rfl (lv_at hl 4 rfl) ?_
                refine lv_iload_n hx hb dX13_isBetter_199 rfl (lv_at hl 5 rfl) ?_
                refine lv_icmp_ge (tgt := 207) hx hb dX13_isBetter_200 (by decide) (fun c22 => ?_) (fun c22 => ?_)
                · --200 taken
                  have t23 : a1.toInt ≤ a0.toInt := ti_le c22
                  refine lv_iconst (v := 0) hx hb dX13_isBetter_207 (by decide) ?_
                  rw [hQ]
                  exact W.zret (v := 0) hx hb hr rfl (fun t ht hW => ⟨⟨0, E12, rfl, ⟨hI, hKp, (iv_w ln_0 (by decide))⟩, by show va_P (dC, dI) vwCl (WX 72 ad E12) t.heap; rw [ht]; exact hP⟩, hS.F ht⟩) hS.2.2 dX13_isBetter_208
                · --200 not
                  have t24 : a0.toInt < a1.toInt := ti_nle c22
                  have i25 : 0 ≤ a0.toInt ∧ a0.toInt ≤ 14 := iv_lt_l t24 hh0 hh1 (by decide)
                  have i26 : 1 ≤ a1.toInt ∧ a1.toInt ≤ 15 := iv_lt_r t24 hh0 hh1 (by decide)
                  refine lv_iconst (v := 1) hx hb dX13_isBetter_203 (by decide) ?_
                  refine lv_goto (tgt := 208) hx hb dX13_isBetter_204 (by decide) ?_
                  rw [hQ]
                  exact W.zret (v := 1) hx hb hr rfl (fun t ht hW => ⟨⟨1, E12, rfl, ⟨hI, hKp, (iv_w ln_1 (by decide))⟩, by show va_P (dC, dI) vwCl (WX 72 ad E12) t.heap; rw [ht]; exact hP⟩, hS.F ht⟩) hS.2.2 dX13_isBetter_208
              · --129 not
                have t27 : (0 : Int) ≤ v127_5.toInt := ti_nlt c19
                have i28 : 0 ≤ v127_5.toInt ∧ v127_5.toInt ≤ 19 := iv_le_r t27 (il_ 0) hv127_5 (by decide)
                refine lv_aload_n hx hb dX13_isBetter_132 rfl (lv_at hl 3 rfl) ?_
                refine th_get (ci := 14) (C := RX13) (T := TX13) (N := 97) (v := .ref (ad 32)) hx hb hts hinX13 hown hK hP hI 0 (Nat.le_of_ble_eq_true rfl) rfl rfl 49 (Nat.le_of_ble_eq_true rfl) (hts _ (vA_in _ _ (in_32 _ (zs4 (zs4 (zs1 (zs0))))))) (fun _ h9 => h9) (hI.fr 0 (Nat.le_of_ble_eq_true rfl) rfl (Nat.le_of_ble_eq_true rfl) 32 rfl) dX13_isBetter_133 ?_
                refine lv_bipush (v := 16) hx hb dX13_isBetter_136 (by decide) ?_
                refine lv_iload hx hb dX13_isBetter_138 (lv_at hl 0 rfl) ?_
                refine lv_imul hx hb dX13_isBetter_140 ?_
                refine lv_topi (fun y29 ey29 => ?_)
                obtain ⟨ty29, iy29⟩ := ti_mul (e := 0) (f := 304) ln_16 i28 ey29 (by decide)
                have ty29 : y29.toInt = 16 * v127_5.toInt := ty29
                have iy29 : 0 ≤ y29.toInt ∧ y29.toInt ≤ 304 := iy29
                refine lv_iload_n hx hb dX13_isBetter_141 rfl (lv_at hl 4 rfl) ?_
                refine lv_iadd hx hb dX13_isBetter_142 ?_
                refine lv_topi (fun y30 ey30 => ?_)
                obtain ⟨ty30, iy30⟩ := ti_add (e := 0) (f := 319) iy29 hh0 ey30 (by decide)
                have ty30 : y30.toInt = y29.toInt + a0.toInt := ty30
                have iy30 : 0 ≤ y30.toInt ∧ y30.toInt ≤ 319 := iy30
                have n32 : vp_in y30 320 := (iv_in (n := 320) iy30 (by decide))
                refine th_iald hx hb hK hP hI 32 (Nat.le_of_ble_eq_true rfl) rfl rfl n32 dX13_isBetter_143 (fun y31 ey31 => ?_)
                have ey31 := ey31.trans (hKp.ei 32 _ rfl)
                refine lv_aload_n hx hb dX13_isBetter_144 rfl (lv_at hl 3 rfl) ?_
                refine th_get (ci := 14) (C := RX13) (T := TX13) (N := 97) (v := .ref (ad 32)) hx hb hts hinX13 hown hK hP hI 0 (Nat.le_of_ble_eq_true rfl) rfl rfl 49 (Nat.le_of_ble_eq_true rfl) (hts _ (vA_in _ _ (in_32 _ (zs4 (zs4 (zs1 (zs0))))))) (fun _ h9 => h9) (hI.fr 0 (Nat.le_of_ble_eq_true rfl) rfl (Nat.le_of_ble_eq_true rfl) 32 rfl) dX13_isBetter_145 ?_
                refine lv_bipush (v := 16) hx hb dX13_isBetter_148 (by decide) ?_
                refine lv_iload hx hb dX13_isBetter_150 (lv_at hl 0 rfl) ?_
                refine lv_imul hx hb dX13_isBetter_152 ?_
                refine lv_topi (fun y33 ey33 => ?_)
                obtain ⟨ty33, iy33⟩ := ti_mul (e := 0) (f := 304) ln_16 i28 ey33 (by decide)
                have ty33 : y33.toInt = 16 * v127_5.toInt := ty33
                have iy33 : 0 ≤ y33.toInt ∧ y33.toInt ≤ 304 := iy33
                refine lv_iload_n hx hb dX13_isBetter_153 rfl (lv_at hl 5 rfl) ?_
                refine lv_iadd hx hb dX13_isBetter_154 ?_
                refine lv_topi (fun y34 ey34 => ?_)
                obtain ⟨ty34, iy34⟩ := ti_add (e := 0) (f := 319) iy33 hh1 ey34 (by decide)
                have ty34 : y34.toInt = y33.toInt + a1.toInt := ty34
                have iy34 : 0 ≤ y34.toInt ∧ y34.toInt ≤ 319 := iy34
                have n36 : vp_in y34 320 := (iv_in (n := 320) iy34 (by decide))
                refine th_iald hx hb hK hP hI 32 (Nat.le_of_ble_eq_true rfl) rfl rfl n36 dX13_isBetter_155 (fun y35 ey35 => ?_)
                have ey35 := ey35.trans (hKp.ei 32 _ rfl)
                refine lv_icmp_eq (tgt := 192) hx hb dX13_isBetter_156 (by decide) (fun c37 => ?_) (fun c37 => ?_)
                · --156 taken
                  have t38 : y31.toInt = y35.toInt := ti_eq c37
                  obtain ⟨y39, ey39⟩ : ∃ y : Int32, y = v127_5 + (-1 : Int32) := ⟨_, rfl⟩
                  obtain ⟨ty39, iy39⟩ := ti_add (e := (-1)) (f := 18) i28 ln_m1 ey39 (by decide)
                  have ty39 : y39.toInt = v127_5.toInt + (-1) := ty39
                  have iy39 : -1 ≤ y39.toInt ∧ y39.toInt ≤ 18 := iy39
                  refine lv_iinc (v := y39) (lv' := [(5, .int y39), (4, .int r11), (3, .int r7), (0, .ref (ad 0)), (1, .int a0), (2, .int a1)]) hx hb dX13_isBetter_192 hl (k := 0) rfl (by rw [ey39]; rfl) (by decide) rfl (fun ls hl => ?_)
                  refine lv_goto (tgt := 127) hx hb dX13_isBetter_195 (by decide) ?_
                  exact ih127 y39 _ _ _ (iv_w iy39 (by decide)) (by first | exact ms_sd hx127_0 ty39 (by decide) | exact ms_sd2 hx127_0 ty39 | omega) hP hS (lv_sub hl [0, 1, 2, 3, 4, 5] rfl)
                · --156 not
                  have t40 : ¬ y31.toInt = y35.toInt := ti_ne c37
                  refine lv_aload_n hx hb dX13_isBetter_159 rfl (lv_at hl 3 rfl) ?_
                  refine th_get (ci := 14) (C := RX13) (T := TX13) (N := 97) (v := .ref (ad 32)) hx hb hts hinX13 hown hK hP hI 0 (Nat.le_of_ble_eq_true rfl) rfl rfl 49 (Nat.le_of_ble_eq_true rfl) (hts _ (vA_in _ _ (in_32 _ (zs4 (zs4 (zs1 (zs0))))))) (fun _ h9 => h9) (hI.fr 0 (Nat.le_of_ble_eq_true rfl) rfl (Nat.le_of_ble_eq_true rfl) 32 rfl) dX13_isBetter_160 ?_
                  refine lv_bipush (v := 16) hx hb dX13_isBetter_163 (by decide) ?_
                  refine lv_iload hx hb dX13_isBetter_165 (lv_at hl 0 rfl) ?_
                  refine lv_imul hx hb dX13_isBetter_167 ?_
                  refine lv_topi (fun y41 ey41 => ?_)
                  obtain ⟨ty41, iy41⟩ := ti_mul (e := 0) (f := 304) ln_16 i28 ey41 (by decide)
                  have ty41 : y41.toInt = 16 * v127_5.toInt := ty41
                  have iy41 : 0 ≤ y41.toInt ∧ y41.toInt ≤ 304 := iy41
                  refine lv_iload_n hx hb dX13_isBetter_168 rfl (lv_at hl 4 rfl) ?_
                  refine lv_iadd hx hb dX13_isBetter_169 ?_
                  refine lv_topi (fun y42 ey42 => ?_)
                  obtain ⟨ty42, iy42⟩ := ti_add (e := 0) (f := 319) iy41 hh0 ey42 (by decide)
                  have ty42 : y42.toInt = y41.toInt + a0.toInt := ty42
                  have iy42 : 0 ≤ y42.toInt ∧ y42.toInt ≤ 319 := iy42
                  have n44 : vp_in y42 320 := (iv_in (n := 320) iy42 (by decide))
                  refine th_iald hx hb hK hP hI 32 (Nat.le_of_ble_eq_true rfl) rfl rfl n44 dX13_isBetter_170 (fun y43 ey43 => ?_)
                  have ey43 := ey43.trans (hKp.ei 32 _ rfl)
                  refine lv_aload_n hx hb dX13_isBetter_171 rfl (lv_at hl 3 rfl) ?_
                  refine th_get (ci := 14) (C := RX13) (T := TX13) (N := 97) (v := .ref (ad 32)) hx hb hts hinX13 hown hK hP hI 0 (Nat.le_of_ble_eq_true rfl) rfl rfl 49 (Nat.le_of_ble_eq_true rfl) (hts _ (vA_in _ _ (in_32 _ (zs4 (zs4 (zs1 (zs0))))))) (fun _ h9 => h9) (hI.fr 0 (Nat.le_of_ble_eq_true rfl) rfl (Nat.le_of_ble_eq_true rfl) 32 rfl) dX13_isBetter_172 ?_
                  refine lv_bipush (v := 16) hx hb dX13_isBetter_175 (by decide) ?_
                  refine lv_iload hx hb dX13_isBetter_177 (lv_at hl 0 rfl) ?_
                  refine lv_imul hx hb dX13_isBetter_179 ?_
                  refine lv_topi (fun y45 ey45 => ?_)
                  obtain ⟨ty45, iy45⟩ := ti_mul (e := 0) (f := 304) ln_16 i28 ey45 (by decide)
                  have ty45 : y45.toInt = 16 * v127_5.toInt := ty45
                  have iy45 : 0 ≤ y45.toInt ∧ y45.toInt ≤ 304 := iy45
                  refine lv_iload_n hx hb dX13_isBetter_180 rfl (lv_at hl 5 rfl) ?_
                  refine lv_iadd hx hb dX13_isBetter_181 ?_
                  refine lv_topi (fun y46 ey46 => ?_)
                  obtain ⟨ty46, iy46⟩ := ti_add (e := 0) (f := 319) iy45 hh1 ey46 (by decide)
                  have ty46 : y46.toInt = y45.toInt + a1.toInt := ty46
                  have iy46 : 0 ≤ y46.toInt ∧ y46.toInt ≤ 319 := iy46
                  have n48 : vp_in y46 320 := (iv_in (n := 320) iy46 (by decide))
                  refine th_iald hx hb hK hP hI 32 (Nat.le_of_ble_eq_true rfl) rfl rfl n48 dX13_isBetter_182 (fun y47 ey47 => ?_)
                  have ey47 := ey47.trans (hKp.ei 32 _ rfl)
                  refine lv_icmp_ge (tgt := 190) hx hb dX13_isBetter_183 (by decide) (fun c49 => ?_) (fun c49 => ?_)
                  · --183 taken
                    have t50 : y47.toInt ≤ y43.toInt := ti_le c49
                    refine lv_iconst (v := 0) hx hb dX13_isBetter_190 (by decide) ?_
                    rw [hQ]
                    exact W.zret (v := 0) hx hb hr rfl (fun t ht hW => ⟨⟨0, E12, rfl, ⟨hI, hKp, (iv_w ln_0 (by decide))⟩, by show va_P (dC, dI) vwCl (WX 72 ad E12) t.heap; rw [ht]; exact hP⟩, hS.F ht⟩) hS.2.2 dX13_isBetter_191
                  · --183 not
                    have t51 : y43.toInt < y47.toInt := ti_nle c49
                    have i52 : -2147483648 ≤ y43.toInt ∧ y43.toInt ≤ 2147483646 := iv_lt_l t51 (iv_all _) (iv_all _) (by decide)
                    have i53 : -2147483647 ≤ y47.toInt ∧ y47.toInt ≤ 2147483647 := iv_lt_r t51 (iv_all _) (iv_all _) (by decide)
                    refine lv_iconst (v := 1) hx hb dX13_isBetter_186 (by decide) ?_
                    refine lv_goto (tgt := 191) hx hb dX13_isBetter_187 (by decide) ?_
                    rw [hQ]
                    exact W.zret (v := 1) hx hb hr rfl (fun t ht hW => ⟨⟨1, E12, rfl, ⟨hI, hKp, (iv_w ln_1 (by decide))⟩, by show va_P (dC, dI) vwCl (WX 72 ad E12) t.heap; rw [ht]; exact hP⟩, hS.F ht⟩) hS.2.2 dX13_isBetter_191
          exact hL127 (21) y18 _ _ _ iy18 (by have h9 := iy18; first | exact ms_bd h9.2 (by decide) | omega) hP hS (lv_sub hl [0, 1, 2, 3, 4, 5] rfl)
        · --63 not
          have t54 : v60_5.toInt < r7.toInt := ti_nle c15
          have i55 : 0 ≤ v60_5.toInt ∧ v60_5.toInt ≤ 19 := iv_lt_l t54 hv60_5 f10 (by decide)
          have i56 : 1 ≤ r7.toInt ∧ r7.toInt ≤ 20 := iv_lt_r t54 hv60_5 f10 (by decide)
          refine lv_iload hx hb dX13_isBetter_66 (lv_at hl 0 rfl) ?_
          refine lv_iload hx hb dX13_isBetter_68 (lv_at hl 1 rfl) ?_
          refine lv_icmp_ge (tgt := 119) hx hb dX13_isBetter_70 (by decide) (fun c57 => ?_) (fun c57 => ?_)
          · --70 taken
            have t58 : r11.toInt ≤ v60_5.toInt := ti_le c57
            have i59 : 0 ≤ r11.toInt ∧ r11.toInt ≤ 19 := iv_le_l t58 f14 i55 (by decide)
            refine lv_aload_n hx hb dX13_isBetter_119 rfl (lv_at hl 3 rfl) ?_
            have i60 : 0 ≤ (xi (E 0) 55).toInt ∧ (xi (E 0) 55).toInt ≤ 20 := hI0.iv 0 (Nat.le_of_ble_eq_true rfl) rfl (Nat.le_of_ble_eq_true rfl) rfl
            refine th_get (ci := 14) (C := RX13) (T := TX13) (N := 97) (v := .int (xi (E 0) 55)) hx hb hts hinX13 hown hK hP hI 0 (Nat.le_of_ble_eq_true rfl) rfl rfl 55 (Nat.le_of_ble_eq_true rfl) (hts _ (vA_in _ _ (in_32 _ (zs16 (zs1 (zs1 (zs1 (zs0)))))))) (fun _ h9 => h9) (th_v0 hKp hI0 0 (Nat.le_of_ble_eq_true rfl) rfl (Nat.le_of_ble_eq_true rfl) rfl rfl) dX13_isBetter_120 ?_
            refine lv_iconst (v := 1) hx hb dX13_isBetter_123 (by decide) ?_
            refine lv_isub hx hb dX13_isBetter_124 ?_
            refine lv_topi (fun y61 ey61 => ?_)
            obtain ⟨ty61, iy61⟩ := ti_sub (e := (-1)) (f := 19) i60 ln_1 ey61 (by decide)
            have ty61 : y61.toInt = (xi (E 0) 55).toInt - 1 := ty61
            have iy61 : -1 ≤ y61.toInt ∧ y61.toInt ≤ 19 := iy61
            refine lv_istore (lv' := [(5, .int y61), (4, .int r11), (3, .int r7), (0, .ref (ad 0)), (1, .int a0), (2, .int a1)]) hx hb dX13_isBetter_125 hl (by decide) rfl (fun ls hl => ?_)
            have hL127 : ∀ d : Nat, ∀ (v127_5 : Int32) (H : Heap) (locs : List Loc) (ls : Array Slot), -1 ≤ v127_5.toInt ∧ v127_5.toInt ≤ 19 → v127_5.toInt - (-1) < (d : Int) → va_P (dC, dI) vwCl (WX 72 ad E12) H → va_S A s.heap H locs → lv_has ls 6 [(5, .int v127_5), (4, .int r11), (3, .int r7), (0, .ref (ad 0)), (1, .int a0), (2, .int a1)] → W p l e (headSpec v_isBetter rm_isBetter).room s m args below meth c H locs 0 0 Q (F0 m 127 ls []) := by
              intro d
              induction d with
              | zero =>
                intro v127_5 H locs ls hv127_5 hx127_0 hP hS hl
                exact absurd hx127_0 (by first | exact ms_zd hv127_5.1 | omega)
              | succ d ih127 =>
                intro v127_5 H locs ls hv127_5 hx127_0 hP hS hl
                refine lv_iload hx hb dX13_isBetter_127 (lv_at hl 0 rfl) ?_
                refine lv_if_lt (tgt := 198) hx hb dX13_isBetter_129 (by decide) (fun c62 => ?_) (fun c62 => ?_)
                · --129 taken
                  have t63 : v127_5.toInt < 0 := ti_lt c62
                  have i64 : -1 ≤ v127_5.toInt ∧ v127_5.toInt ≤ -1 := iv_lt_l t63 hv127_5 (il_ 0) (by decide)
                  refine lv_iload_n hx hb dX13_isBetter_198 rfl (lv_at hl 4 rfl) ?_
                  refine lv_iload_n hx hb dX13_isBetter_199 rfl (lv_at hl 5 rfl) ?_
                  refine lv_icmp_ge (tgt := 207) hx hb dX13_isBetter_200 (by decide) (fun c65 => ?_) (fun c65 => ?_)
                  · --200 taken
                    have t66 : a1.toInt ≤ a0.toInt := ti_le c65
                    refine lv_iconst (v := 0) hx hb dX13_isBetter_207 (by decide) ?_
                    rw [hQ]
                    exact W.zret (v := 0) hx hb hr rfl (fun t ht hW => ⟨⟨0, E12, rfl, ⟨hI, hKp, (iv_w ln_0 (by decide))⟩, by show va_P (dC, dI) vwCl (WX 72 ad E12) t.heap; rw [ht]; exact hP⟩, hS.F ht⟩) hS.2.2 dX13_isBetter_208
                  · --200 not
                    have t67 : a0.toInt < a1.toInt := ti_nle c65
                    have i68 : 0 ≤ a0.toInt ∧ a0.toInt ≤ 14 := iv_lt_l t67 hh0 hh1 (by decide)
                    have i69 : 1 ≤ a1.toInt ∧ a1.toInt ≤ 15 := iv_lt_r t67 hh0 hh1 (by decide)
                    refine lv_iconst (v := 1) hx hb dX13_isBetter_203 (by decide) ?_
                    refine lv_goto (tgt := 208) hx hb dX13_isBetter_204 (by decide) ?_
                    rw [hQ]
                    exact W.zret (v := 1) hx hb hr rfl (fun t ht hW => ⟨⟨1, E12, rfl, ⟨hI, hKp, (iv_w ln_1 (by decide))⟩, by show va_P (dC, dI) vwCl (WX 72 ad E12) t.heap; rw [ht]; exact hP⟩, hS.F ht⟩) hS.2.2 dX13_isBetter_208
                · --129 not
                  have t70 : (0 : Int) ≤ v127_5.toInt := ti_nlt c62
                  have i71 : 0 ≤ v127_5.toInt ∧ v127_5.toInt ≤ 19 := iv_le_r t70 (il_ 0) hv127_5 (by decide)
                  refine lv_aload_n hx hb dX13_isBetter_132 rfl (lv_at hl 3 rfl) ?_
                  refine th_get (ci := 14) (C := RX13) (T := TX13) (N := 97) (v := .ref (ad 32)) hx hb hts hinX13 hown hK hP hI 0 (Nat.le_of_ble_eq_true rfl) rfl rfl 49 (Nat.le_of_ble_eq_true rfl) (hts _ (vA_in _ _ (in_32 _ (zs4 (zs4 (zs1 (zs0))))))) (fun _ h9 => h9) (hI.fr 0 (Nat.le_of_ble_eq_true rfl) rfl (Nat.le_of_ble_eq_true rfl) 32 rfl) dX13_isBetter_133 ?_
                  refine lv_bipush (v := 16) hx hb dX13_isBetter_136 (by decide) ?_
                  refine lv_iload hx hb dX13_isBetter_138 (lv_at hl 0 rfl) ?_
                  refine lv_imul hx hb dX13_isBetter_140 ?_
                  refine lv_topi (fun y72 ey72 => ?_)
                  obtain ⟨ty72, iy72⟩ := ti_mul (e := 0) (f := 304) ln_16 i71 ey72 (by decide)
                  have ty72 : y72.toInt = 16 * v127_5.toInt := ty72
                  have iy72 : 0 ≤ y72.toInt ∧ y72.toInt ≤ 304 := iy72
                  refine lv_iload_n hx hb dX13_isBetter_141 rfl (lv_at hl 4 rfl) ?_
                  refine lv_iadd hx hb dX13_isBetter_142 ?_
                  refine lv_topi (fun y73 ey73 => ?_)
                  obtain ⟨ty73, iy73⟩ := ti_add (e := 0) (f := 319) iy72 hh0 ey73 (by decide)
                  have ty73 : y73.toInt = y72.toInt + a0.toInt := ty73
                  have iy73 : 0 ≤ y73.toInt ∧ y73.toInt ≤ 319 := iy73
                  have n75 : vp_in y73 320 := (iv_in (n := 320) iy73 (by decide))
                  refine th_iald hx hb hK hP hI 32 (Nat.le_of_ble_eq_true rfl) rfl rfl n75 dX13_isBetter_143 (fun y74 ey74 => ?_)
                  have ey74 := ey74.trans (hKp.ei 32 _ rfl)
                  refine lv_aload_n hx hb dX13_isBetter_144 rfl (lv_at hl 3 rfl) ?_
                  refine th_get (ci := 14) (C := RX13) (T := TX13) (N := 97) (v := .ref (ad 32)) hx hb hts hinX13 hown hK hP hI 0 (Nat.le_of_ble_eq_true rfl) rfl rfl 49 (Nat.le_of_ble_eq_true rfl) (hts _ (vA_in _ _ (in_32 _ (zs4 (zs4 (zs1 (zs0))))))) (fun _ h9 => h9) (hI.fr 0 (Nat.le_of_ble_eq_true rfl) rfl (Nat.le_of_ble_eq_true rfl) 32 rfl) dX13_isBetter_145 ?_
                  refine lv_bipush (v := 16) hx hb dX13_isBetter_148 (by decide) ?_
                  refine lv_iload hx hb dX13_isBetter_150 (lv_at hl 0 rfl) ?_
                  refine lv_imul hx hb dX13_isBetter_152 ?_
                  refine lv_topi (fun y76 ey76 => ?_)
                  obtain ⟨ty76, iy76⟩ := ti_mul (e := 0) (f := 304) ln_16 i71 ey76 (by decide)
                  have ty76 : y76.toInt = 16 * v127_5.toInt := ty76
                  have iy76 : 0 ≤ y76.toInt ∧ y76.toInt ≤ 304 := iy76
                  refine lv_iload_n hx hb dX13_isBetter_153 rfl (lv_at hl 5 rfl) ?_
                  refine lv_iadd hx hb dX13_isBetter_154 ?_
                  refine lv_topi (fun y77 ey77 => ?_)
                  obtain ⟨ty77, iy77⟩ := ti_add (e := 0) (f := 319) iy76 hh1 ey77 (by decide)
                  have ty77 : y77.toInt = y76.toInt + a1.toInt := ty77
                  have iy77 : 0 ≤ y77.toInt ∧ y77.toInt ≤ 319 := iy77
                  have n79 : vp_in y77 320 := (iv_in (n := 320) iy77 (by decide))
                  refine th_iald hx hb hK hP hI 32 (Nat.le_of_ble_eq_true rfl) rfl rfl n79 dX13_isBetter_155 (fun y78 ey78 => ?_)
                  have ey78 := ey78.trans (hKp.ei 32 _ rfl)
                  refine lv_icmp_eq (tgt := 192) hx hb dX13_isBetter_156 (by decide) (fun c80 => ?_) (fun c80 => ?_)
                  · --156 taken
                    have t81 : y74.toInt = y78.toInt := ti_eq c80
                    obtain ⟨y82, ey82⟩ : ∃ y : Int32, y = v127_5 + (-1 : Int32) := ⟨_, rfl⟩
                    obtain ⟨ty82, iy82⟩ := ti_add (e := (-1)) (f := 18) i71 ln_m1 ey82 (by decide)
                    have ty82 : y82.toInt = v127_5.toInt + (-1) := ty82
                    have iy82 : -1 ≤ y82.toInt ∧ y82.toInt ≤ 18 := iy82
                    refine lv_iinc (v := y82) (lv' := [(5, .int y82), (4, .int r11), (3, .int r7), (0, .ref (ad 0)), (1, .int a0), (2, .int a1)]) hx hb dX13_isBetter_192 hl (k := 0) rfl (by rw [ey82]; rfl) (by decide) rfl (fun ls hl => ?_)
                    refine lv_goto (tgt := 127) hx hb dX13_isBetter_195 (by decide) ?_
                    exact ih127 y82 _ _ _ (iv_w iy82 (by decide)) (by first | exact ms_sd hx127_0 ty82 (by decide) | exact ms_sd2 hx127_0 ty82 | omega) hP hS (lv_sub hl [0, 1, 2, 3, 4, 5] rfl)
                  · --156 not
                    have t83 : ¬ y74.toInt = y78.toInt := ti_ne c80
                    refine lv_aload_n hx hb dX13_isBetter_159 rfl (lv_at hl 3 rfl) ?_
                    refine th_get (ci := 14) (C := RX13) (T := TX13) (N := 97) (v := .ref (ad 32)) hx hb hts hinX13 hown hK hP hI 0 (Nat.le_of_ble_eq_true rfl) rfl rfl 49 (Nat.le_of_ble_eq_true rfl) (hts _ (vA_in _ _ (in_32 _ (zs4 (zs4 (zs1 (zs0))))))) (fun _ h9 => h9) (hI.fr 0 (Nat.le_of_ble_eq_true rfl) rfl (Nat.le_of_ble_eq_true rfl) 32 rfl) dX13_isBetter_160 ?_
                    refine lv_bipush (v := 16) hx hb dX13_isBetter_163 (by decide) ?_
                    refine lv_iload hx hb dX13_isBetter_165 (lv_at hl 0 rfl) ?_
                    refine lv_imul hx hb dX13_isBetter_167 ?_
                    refine lv_topi (fun y84 ey84 => ?_)
                    obtain ⟨ty84, iy84⟩ := ti_mul (e := 0) (f := 304) ln_16 i71 ey84 (by decide)
                    have ty84 : y84.toInt = 16 * v127_5.toInt := ty84
                    have iy84 : 0 ≤ y84.toInt ∧ y84.toInt ≤ 304 := iy84
                    refine lv_iload_n hx hb dX13_isBetter_168 rfl (lv_at hl 4 rfl) ?_
                    refine lv_iadd hx hb dX13_isBetter_169 ?_
                    refine lv_topi (fun y85 ey85 => ?_)
                    obtain ⟨ty85, iy85⟩ := ti_add (e := 0) (f := 319) iy84 hh0 ey85 (by decide)
                    have ty85 : y85.toInt = y84.toInt + a0.toInt := ty85
                    have iy85 : 0 ≤ y85.toInt ∧ y85.toInt ≤ 319 := iy85
                    have n87 : vp_in y85 320 := (iv_in (n := 320) iy85 (by decide))
                    refine th_iald hx hb hK hP hI 32 (Nat.le_of_ble_eq_true rfl) rfl rfl n87 dX13_isBetter_170 (fun y86 ey86 => ?_)
                    have ey86 := ey86.trans (hKp.ei 32 _ rfl)
                    refine lv_aload_n hx hb dX13_isBetter_171 rfl (lv_at hl 3 rfl) ?_
                    refine th_get (ci := 14) (C := RX13) (T := TX13) (N := 97) (v := .ref (ad 32)) hx hb hts hinX13 hown hK hP hI 0 (Nat.le_of_ble_eq_true rfl) rfl rfl 49 (Nat.le_of_ble_eq_true rfl) (hts _ (vA_in _ _ (in_32 _ (zs4 (zs4 (zs1 (zs0))))))) (fun _ h9 => h9) (hI.fr 0 (Nat.le_of_ble_eq_true rfl) rfl (Nat.le_of_ble_eq_true rfl) 32 rfl) dX13_isBetter_172 ?_
                    refine lv_bipush (v := 16) hx hb dX13_isBetter_175 (by decide) ?_
                    refine lv_iload hx hb dX13_isBetter_177 (lv_at hl 0 rfl) ?_
                    refine lv_imul hx hb dX13_isBetter_179 ?_
                    refine lv_topi (fun y88 ey88 => ?_)
                    obtain ⟨ty88, iy88⟩ := ti_mul (e := 0) (f := 304) ln_16 i71 ey88 (by decide)
                    have ty88 : y88.toInt = 16 * v127_5.toInt := ty88
                    have iy88 : 0 ≤ y88.toInt ∧ y88.toInt ≤ 304 := iy88
                    refine lv_iload_n hx hb dX13_isBetter_180 rfl (lv_at hl 5 rfl) ?_
                    refine lv_iadd hx hb dX13_isBetter_181 ?_
                    refine lv_topi (fun y89 ey89 => ?_)
                    obtain ⟨ty89, iy89⟩ := ti_add (e := 0) (f := 319) iy88 hh1 ey89 (by decide)
                    have ty89 : y89.toInt = y88.toInt + a1.toInt := ty89
                    have iy89 : 0 ≤ y89.toInt ∧ y89.toInt ≤ 319 := iy89
                    have n91 : vp_in y89 320 := (iv_in (n := 320) iy89 (by decide))
                    refine th_iald hx hb hK hP hI 32 (Nat.le_of_ble_eq_true rfl) rfl rfl n91 dX13_isBetter_182 (fun y90 ey90 => ?_)
                    have ey90 := ey90.trans (hKp.ei 32 _ rfl)
                    refine lv_icmp_ge (tgt := 190) hx hb dX13_isBetter_183 (by decide) (fun c92 => ?_) (fun c92 => ?_)
                    · --183 taken
                      have t93 : y90.toInt ≤ y86.toInt := ti_le c92
                      refine lv_iconst (v := 0) hx hb dX13_isBetter_190 (by decide) ?_
                      rw [hQ]
                      exact W.zret (v := 0) hx hb hr rfl (fun t ht hW => ⟨⟨0, E12, rfl, ⟨hI, hKp, (iv_w ln_0 (by decide))⟩, by show va_P (dC, dI) vwCl (WX 72 ad E12) t.heap; rw [ht]; exact hP⟩, hS.F ht⟩) hS.2.2 dX13_isBetter_191
                    · --183 not
                      have t94 : y86.toInt < y90.toInt := ti_nle c92
                      have i95 : -2147483648 ≤ y86.toInt ∧ y86.toInt ≤ 2147483646 := iv_lt_l t94 (iv_all _) (iv_all _) (by decide)
                      have i96 : -2147483647 ≤ y90.toInt ∧ y90.toInt ≤ 2147483647 := iv_lt_r t94 (iv_all _) (iv_all _) (by decide)
                      refine lv_iconst (v := 1) hx hb dX13_isBetter_186 (by decide) ?_
                      refine lv_goto (tgt := 191) hx hb dX13_isBetter_187 (by decide) ?_
                      rw [hQ]
                      exact W.zret (v := 1) hx hb hr rfl (fun t ht hW => ⟨⟨1, E12, rfl, ⟨hI, hKp, (iv_w ln_1 (by decide))⟩, by show va_P (dC, dI) vwCl (WX 72 ad E12) t.heap; rw [ht]; exact hP⟩, hS.F ht⟩) hS.2.2 dX13_isBetter_191
            exact hL127 (21) y61 _ _ _ iy61 (by have h9 := iy61; first | exact ms_bd h9.2 (by decide) | omega) hP hS (lv_sub hl [0, 1, 2, 3, 4, 5] rfl)
          · --70 not
            have t97 : v60_5.toInt < r11.toInt := ti_nle c57
            have i98 : 1 ≤ r11.toInt ∧ r11.toInt ≤ 20 := iv_lt_r t97 i55 f14 (by decide)
            refine lv_aload_n hx hb dX13_isBetter_73 rfl (lv_at hl 3 rfl) ?_
            refine th_get (ci := 14) (C := RX13) (T := TX13) (N := 97) (v := .ref (ad 34)) hx hb hts hinX13 hown hK hP hI 0 (Nat.le_of_ble_eq_true rfl) rfl rfl 51 (Nat.le_of_ble_eq_true rfl) (hts _ (vA_in _ _ (in_32 _ (zs4 (zs4 (zs1 (zs1 (zs1 (zs0))))))))) (fun _ h9 => h9) (hI.fr 0 (Nat.le_of_ble_eq_true rfl) rfl (Nat.le_of_ble_eq_true rfl) 34 rfl) dX13_isBetter_74 ?_
            refine lv_iload hx hb dX13_isBetter_77 (lv_at hl 0 rfl) ?_
            have n100 : vp_in v60_5 20 := (iv_in (n := 20) i55 (by decide))
            refine th_iald hx hb hK hP hI 34 (Nat.le_of_ble_eq_true rfl) rfl rfl n100 dX13_isBetter_79 (fun y99 ey99 => ?_)
            refine lv_aload_n hx hb dX13_isBetter_80 rfl (lv_at hl 3 rfl) ?_
            refine th_get (ci := 14) (C := RX13) (T := TX13) (N := 97) (v := .ref (ad 35)) hx hb hts hinX13 hown hK hP hI 0 (Nat.le_of_ble_eq_true rfl) rfl rfl 52 (Nat.le_of_ble_eq_true rfl) (hts _ (vA_in _ _ (in_32 _ (zs4 (zs4 (zs4 (zs0))))))) (fun _ h9 => h9) (hI.fr 0 (Nat.le_of_ble_eq_true rfl) rfl (Nat.le_of_ble_eq_true rfl) 35 rfl) dX13_isBetter_81 ?_
            refine lv_iload hx hb dX13_isBetter_84 (lv_at hl 0 rfl) ?_
            have n102 : vp_in v60_5 20 := (iv_in (n := 20) i55 (by decide))
            refine th_iald hx hb hK hP hI 35 (Nat.le_of_ble_eq_true rfl) rfl rfl n102 dX13_isBetter_86 (fun y101 ey101 => ?_)
            refine lv_icmp_eq (tgt := 113) hx hb dX13_isBetter_87 (by decide) (fun c103 => ?_) (fun c103 => ?_)
            · --87 taken
              have t104 : y99.toInt = y101.toInt := ti_eq c103
              obtain ⟨y105, ey105⟩ : ∃ y : Int32, y = v60_5 + (1 : Int32) := ⟨_, rfl⟩
              obtain ⟨ty105, iy105⟩ := ti_add (e := 1) (f := 20) i55 ln_1 ey105 (by decide)
              have ty105 : y105.toInt = v60_5.toInt + 1 := ty105
              have iy105 : 1 ≤ y105.toInt ∧ y105.toInt ≤ 20 := iy105
              refine lv_iinc (v := y105) (lv' := [(5, .int y105), (4, .int r11), (3, .int r7), (0, .ref (ad 0)), (1, .int a0), (2, .int a1)]) hx hb dX13_isBetter_113 hl (k := 0) rfl (by rw [ey105]; rfl) (by decide) rfl (fun ls hl => ?_)
              refine lv_goto (tgt := 60) hx hb dX13_isBetter_116 (by decide) ?_
              exact ih60 y105 _ _ _ (iv_w iy105 (by decide)) (by first | exact ms_su hx60_0 ty105 (by decide) | omega) hP hS (lv_sub hl [0, 1, 2, 3, 4, 5] rfl)
            · --87 not
              have t106 : ¬ y99.toInt = y101.toInt := ti_ne c103
              refine lv_aload_n hx hb dX13_isBetter_90 rfl (lv_at hl 3 rfl) ?_
              refine th_get (ci := 14) (C := RX13) (T := TX13) (N := 97) (v := .ref (ad 34)) hx hb hts hinX13 hown hK hP hI 0 (Nat.le_of_ble_eq_true rfl) rfl rfl 51 (Nat.le_of_ble_eq_true rfl) (hts _ (vA_in _ _ (in_32 _ (zs4 (zs4 (zs1 (zs1 (zs1 (zs0))))))))) (fun _ h9 => h9) (hI.fr 0 (Nat.le_of_ble_eq_true rfl) rfl (Nat.le_of_ble_eq_true rfl) 34 rfl) dX13_isBetter_91 ?_
              refine lv_iload hx hb dX13_isBetter_94 (lv_at hl 0 rfl) ?_
              have n108 : vp_in v60_5 20 := (iv_in (n := 20) i55 (by decide))
              refine th_iald hx hb hK hP hI 34 (Nat.le_of_ble_eq_true rfl) rfl rfl n108 dX13_isBetter_96 (fun y107 ey107 => ?_)
              refine lv_aload_n hx hb dX13_isBetter_97 rfl (lv_at hl 3 rfl) ?_
              refine th_get (ci := 14) (C := RX13) (T := TX13) (N := 97) (v := .ref (ad 35)) hx hb hts hinX13 hown hK hP hI 0 (Nat.le_of_ble_eq_true rfl) rfl rfl 52 (Nat.le_of_ble_eq_true rfl) (hts _ (vA_in _ _ (in_32 _ (zs4 (zs4 (zs4 (zs0))))))) (fun _ h9 => h9) (hI.fr 0 (Nat.le_of_ble_eq_true rfl) rfl (Nat.le_of_ble_eq_true rfl) 35 rfl) dX13_isBetter_98 ?_
              refine lv_iload hx hb dX13_isBetter_101 (lv_at hl 0 rfl) ?_
              have n110 : vp_in v60_5 20 := (iv_in (n := 20) i55 (by decide))
              refine th_iald hx hb hK hP hI 35 (Nat.le_of_ble_eq_true rfl) rfl rfl n110 dX13_isBetter_103 (fun y109 ey109 => ?_)
              refine lv_icmp_ge (tgt := 111) hx hb dX13_isBetter_104 (by decide) (fun c111 => ?_) (fun c111 => ?_)
              · --104 taken
                have t112 : y109.toInt ≤ y107.toInt := ti_le c111
                refine lv_iconst (v := 0) hx hb dX13_isBetter_111 (by decide) ?_
                rw [hQ]
                exact W.zret (v := 0) hx hb hr rfl (fun t ht hW => ⟨⟨0, E12, rfl, ⟨hI, hKp, (iv_w ln_0 (by decide))⟩, by show va_P (dC, dI) vwCl (WX 72 ad E12) t.heap; rw [ht]; exact hP⟩, hS.F ht⟩) hS.2.2 dX13_isBetter_112
              · --104 not
                have t113 : y107.toInt < y109.toInt := ti_nle c111
                have i114 : -2147483648 ≤ y107.toInt ∧ y107.toInt ≤ 2147483646 := iv_lt_l t113 (iv_all _) (iv_all _) (by decide)
                have i115 : -2147483647 ≤ y109.toInt ∧ y109.toInt ≤ 2147483647 := iv_lt_r t113 (iv_all _) (iv_all _) (by decide)
                refine lv_iconst (v := 1) hx hb dX13_isBetter_107 (by decide) ?_
                refine lv_goto (tgt := 112) hx hb dX13_isBetter_108 (by decide) ?_
                rw [hQ]
                exact W.zret (v := 1) hx hb hr rfl (fun t ht hW => ⟨⟨1, E12, rfl, ⟨hI, hKp, (iv_w ln_1 (by decide))⟩, by show va_P (dC, dI) vwCl (WX 72 ad E12) t.heap; rw [ht]; exact hP⟩, hS.F ht⟩) hS.2.2 dX13_isBetter_112
    exact hL60 (21) (0 : Int32) _ _ _ (iv_w ln_0 (by decide)) (by have h9 := ln_0; first | exact ms_bu h9.1 (by decide) | omega) hP hS (lv_sub hl [0, 1, 2, 3, 4, 5] rfl)
  · --12 not
    have t116 : ¬ y1.toInt = y3.toInt := ti_ne c5
    refine lv_aload_n hx hb dX13_isBetter_15 rfl (lv_at hl 0 rfl) ?_
    refine th_get (ci := 14) (C := RX13) (T := TX13) (N := 97) (v := .ref (ad 33)) hx hb hts hinX13 hown hK hP hI 0 (Nat.le_of_ble_eq_true rfl) rfl rfl 50 (Nat.le_of_ble_eq_true rfl) (hts _ (vA_in _ _ (in_32 _ (zs4 (zs4 (zs1 (zs1 (zs0)))))))) (fun _ h9 => h9) (hI.fr 0 (Nat.le_of_ble_eq_true rfl) rfl (Nat.le_of_ble_eq_true rfl) 33 rfl) dX13_isBetter_16 ?_
    refine lv_iload_n hx hb dX13_isBetter_19 rfl (lv_at hl 1 rfl) ?_
    have n118 : vp_in a0 16 := (iv_in (n := 16) hh0 (by decide))
    refine th_iald hx hb hK hP hI 33 (Nat.le_of_ble_eq_true rfl) rfl rfl n118 dX13_isBetter_20 (fun y117 ey117 => ?_)
    have ey117 := ey117.trans (hKp.ei 33 _ rfl)
    refine lv_aload_n hx hb dX13_isBetter_21 rfl (lv_at hl 0 rfl) ?_
    refine th_get (ci := 14) (C := RX13) (T := TX13) (N := 97) (v := .ref (ad 33)) hx hb hts hinX13 hown hK hP hI 0 (Nat.le_of_ble_eq_true rfl) rfl rfl 50 (Nat.le_of_ble_eq_true rfl) (hts _ (vA_in _ _ (in_32 _ (zs4 (zs4 (zs1 (zs1 (zs0)))))))) (fun _ h9 => h9) (hI.fr 0 (Nat.le_of_ble_eq_true rfl) rfl (Nat.le_of_ble_eq_true rfl) 33 rfl) dX13_isBetter_22 ?_
    refine lv_iload_n hx hb dX13_isBetter_25 rfl (lv_at hl 2 rfl) ?_
    have n120 : vp_in a1 16 := (iv_in (n := 16) hh1 (by decide))
    refine th_iald hx hb hK hP hI 33 (Nat.le_of_ble_eq_true rfl) rfl rfl n120 dX13_isBetter_26 (fun y119 ey119 => ?_)
    have ey119 := ey119.trans (hKp.ei 33 _ rfl)
    refine lv_icmp_ge (tgt := 34) hx hb dX13_isBetter_27 (by decide) (fun c121 => ?_) (fun c121 => ?_)
    · --27 taken
      have t122 : y119.toInt ≤ y117.toInt := ti_le c121
      refine lv_iconst (v := 0) hx hb dX13_isBetter_34 (by decide) ?_
      rw [hQ]
      exact W.zret (v := 0) hx hb hr rfl (fun t ht hW => ⟨⟨0, E, rfl, ⟨hI, hKp, (iv_w ln_0 (by decide))⟩, by show va_P (dC, dI) vwCl (WX 72 ad E) t.heap; rw [ht]; exact hP⟩, hS.F ht⟩) hS.2.2 dX13_isBetter_35
    · --27 not
      have t123 : y117.toInt < y119.toInt := ti_nle c121
      have i124 : -2147483648 ≤ y117.toInt ∧ y117.toInt ≤ 2147483646 := iv_lt_l t123 (iv_all _) (iv_all _) (by decide)
      have i125 : -2147483647 ≤ y119.toInt ∧ y119.toInt ≤ 2147483647 := iv_lt_r t123 (iv_all _) (iv_all _) (by decide)
      refine lv_iconst (v := 1) hx hb dX13_isBetter_30 (by decide) ?_
      refine lv_goto (tgt := 35) hx hb dX13_isBetter_31 (by decide) ?_
      rw [hQ]
      exact W.zret (v := 1) hx hb hr rfl (fun t ht hW => ⟨⟨1, E, rfl, ⟨hI, hKp, (iv_w ln_1 (by decide))⟩, by show va_P (dC, dI) vwCl (WX 72 ad E) t.heap; rw [ht]; exact hP⟩, hS.F ht⟩) hS.2.2 dX13_isBetter_35
def v_ranked : List Cond := .code yX13_ranked cX13_ranked 6 (some .int) :: vA
abbrev rm_ranked : Room := { frames := 77, cells := 0, slots := 0, locals := 3080 }
def w_ranked : Nat → Nat → Bool := wl [12, 32, 33, 34, 35, 36, 37] [(0, 0), (0, 18), (0, 19), (0, 20), (0, 21), (0, 22), (0, 23), (0, 24), (0, 25), (0, 26), (0, 55)]
set_option maxHeartbeats 4000000 in
set_option maxRecDepth 100000 in
theorem q_ranked (l : Launch) (dC : Nat → ClassId) (dI : Nat → Nat → Nat) (cT : Nat → ClassId) (ad : Nat → Nat) (E : Nat → va_E) (sz : Nat) (a0 : Int32) (a1 : Int32) (hI0 : IX cT shM spM 72 ad E)  : Met l yX13_ranked v_ranked rm_ranked (va_Pc [.ref (ad 0), .int a0, .int a1] (HW dC dI (TYM cT) 72 ad E sz)) (va_Qi (S := Nat → va_E) (fun r u => IX cT shM spM 72 ad u ∧ Kp w_ranked E u ∧ (True)) (HB dC dI 72 ad) (va_A (WX 72 ad E) sz)) 0 0 (va_A (WX 72 ad E) sz) := by
  refine Met.ofW (cc := cX13_ranked) (maxL := 6) (ret := (some .int)) (by decide) rfl ?_
  intro p e s m args below meth c s₁ B hml hv
  obtain ⟨hargs, hsz, hP, hK, hD0, hEV⟩ := hv
  subst hsz
  have hx := B.exec
  have hb := B.bytes
  have hr := B.returns
  have hts := atoms_spec (ws := v_ranked) B.pre
  have hown : s.vm.findClass RX13 = some m.cls := findClass_of_methodNamed B.named
  have hlocks := B.notSynchronized
  have hinX13 : ∀ w ∈ u_ws RX13 TX13 97, w ∈ v_ranked := fun w h => vA_in _ w (in_X13 w h)
  generalize hAe : va_A (WX 72 ad E) s.heap.size = A at hEV ⊢
  have hA : ∀ q : Nat, s.heap.size ≤ q → A q := fun q h => by rw [← hAe]; exact Or.inr h
  have hD : va_D A (WX 72 ad E) := by rw [← hAe]; exact hD0.self
  have hS : va_S A s.heap s.heap [] := va_S.rf
  have hI := hI0
  have hKp : Kp w_ranked E E := Kp.rf
  have hl := lv_entry ([.ref (ad 0), .int a0, .int a1]) (n := 6) (Nat.le_of_ble_eq_true rfl)
  obtain ⟨Q, hQ⟩ : ∃ Q, Q = MQ below (va_Qi (S := Nat → va_E) (fun r u => IX cT shM spM 72 ad u ∧ Kp w_ranked E u ∧ (True)) (HB dC dI 72 ad) (A)) args s 0 0 (A) := ⟨_, rfl⟩
  rw [← hQ, show entryFrame m args 6 = _ from (congrArg (fun z => entryFrame m z 6) hargs).trans (lg_entry_eq _ _ _)]
  generalize (lg_sl ([.ref (ad 0), .int a0, .int a1]) ++ List.replicate (6 - (lg_sl ([.ref (ad 0), .int a0, .int a1])).length) Slot.unset).toArray = ls at hl ⊢
  have hl : lv_has ls 6 [(0, .ref (ad 0)), (1, .int a0), (2, .int a1)] := hl
  refine lv_aload_n hx hb dX13_ranked_0 rfl (lv_at hl 0 rfl) ?_
  refine lv_iload_n hx hb dX13_ranked_1 rfl (lv_at hl 2 rfl) ?_
  refine th_i (va_runV (As := [.int a1]) (rest := []) ⟨hx, hb, hml, hown, hts⟩ (q_score l dC dI cT ad E s.heap.size a1 hI) (cwV 1 hts (gi_V (in_33 _ (zs4 (zs4 (zs4 (zs1 (zs0)))))) (in_33 _ (zs4 (zs4 (zs4 (zs1 (zs1 (zs0))))))) (in_33 _ (zs4 (zs4 (zs4 (zs1 (zs1 (zs1 (zs0)))))))) (in_24 _ (zs4 (zs4 (zs4 (zs1 (zs1 (zs1 (zs0)))))))) (in_33 _ (zs16 (zs0)))) rfl rfl rfl ⟨rfl, hz_yX13_score_1⟩ ⟨Nat.le_of_ble_eq_true rfl, Nat.le_of_ble_eq_true rfl⟩) ⟨HW_bl, va_recv hK hP (ci := 14) (q0 := 0) rfl (hI.ob 0 (Nat.le_of_ble_eq_true rfl) rfl), (HW_wi hP hK (WX_D hD) hS hA hEV)⟩ rfl rfl hl.1 rfl (lv_room (Nat.le_of_ble_eq_true rfl)) dX13_ranked_2 ⟨Nat.le_of_ble_eq_true rfl, Nat.le_of_ble_eq_true rfl⟩) (WX_D hD) hS hA (fun r1 E2 H locs hw hP hS => ?_)
  obtain ⟨hI, kq3, hw⟩ := hw
  have hKb := hKp
  have hKp := hKp.tr kq3 (wl_sub rfl rfl)
  rcases hw with hw | hw
  · -- score, case 0
    obtain rfl := hw
    refine lv_if_ne (tgt := 10) hx hb dX13_ranked_5 (by decide) (fun c4 => ?_) (fun c4 => ?_)
    · --5 taken
      refine lv_iconst (v := 0) hx hb dX13_ranked_10 (by decide) ?_
      refine lv_istore_n (lv' := [(3, .int 0), (0, .ref (ad 0)), (1, .int a0), (2, .int a1)]) hx hb dX13_ranked_11 rfl hl (by decide) rfl (fun ls hl => ?_)
      have hL12 : ∀ d : Nat, ∀ (v12_3 : Int32) (E12_ : Nat → va_E) (H : Heap) (locs : List Loc) (ls : Array Slot), 0 ≤ v12_3.toInt ∧ v12_3.toInt ≤ 16 → 16 - v12_3.toInt < (d : Int) → IX cT shM spM 72 ad E12_ → Kp w_ranked E E12_ → va_P (dC, dI) vwCl (WX 72 ad E12_) H → va_S A s.heap H locs → lv_has ls 6 [(3, .int v12_3), (0, .ref (ad 0)), (1, .int a0), (2, .int a1)] → W p l e (headSpec v_ranked rm_ranked).room s m args below meth c H locs 0 0 Q (F0 m 12 ls []) := by
        intro d
        induction d with
        | zero =>
          intro v12_3 E12_ H locs ls hv12_3 hx12_0 hI hKp hP hS hl
          exact absurd hx12_0 (by first | exact ms_zu hv12_3.2 | omega)
        | succ d ih12 =>
          intro v12_3 E12_ H locs ls hv12_3 hx12_0 hI hKp hP hS hl
          refine lv_iload_n hx hb dX13_ranked_12 rfl (lv_at hl 0 rfl) ?_
          refine lv_aload_n hx hb dX13_ranked_13 rfl (lv_at hl 1 rfl) ?_
          have i5 : 0 ≤ (xi (E 0) 8).toInt ∧ (xi (E 0) 8).toInt ≤ 16 := hI0.iv 0 (Nat.le_of_ble_eq_true rfl) rfl (Nat.le_of_ble_eq_true rfl) rfl
          refine th_get (ci := 14) (C := RX13) (T := TX13) (N := 97) (v := .int (xi (E 0) 8)) hx hb hts hinX13 hown hK hP hI 0 (Nat.le_of_ble_eq_true rfl) rfl rfl 8 (Nat.le_of_ble_eq_true rfl) (hts _ (vA_in _ _ (in_24 _ (zs16 (zs4 (zs1 (zs1 (zs0)))))))) (fun _ h9 => h9) (th_v0 hKp hI0 0 (Nat.le_of_ble_eq_true rfl) rfl (Nat.le_of_ble_eq_true rfl) rfl rfl) dX13_ranked_14 ?_
          refine lv_icmp_ge (tgt := 103) hx hb dX13_ranked_17 (by decide) (fun c6 => ?_) (fun c6 => ?_)
          · --17 taken
            have t7 : (xi (E 0) 8).toInt ≤ v12_3.toInt := ti_le c6
            refine lv_iconst (v := -1) hx hb dX13_ranked_103 (by decide) ?_
            rw [hQ]
            exact W.iret (v := (-1)) hx hb hr (fun t ht hW => ⟨⟨(-1), E12_, rfl, ⟨hI, hKp, trivial⟩, by show va_P (dC, dI) vwCl (WX 72 ad E12_) t.heap; rw [ht]; exact hP⟩, hS.F ht⟩) hS.2.2 dX13_ranked_104
          · --17 not
            have t8 : v12_3.toInt < (xi (E 0) 8).toInt := ti_nle c6
            have i9 : 0 ≤ v12_3.toInt ∧ v12_3.toInt ≤ 15 := iv_lt_l t8 hv12_3 i5 (by decide)
            have i10 : 1 ≤ (xi (E 0) 8).toInt ∧ (xi (E 0) 8).toInt ≤ 16 := iv_lt_r t8 hv12_3 i5 (by decide)
            refine lv_aload_n hx hb dX13_ranked_20 rfl (lv_at hl 1 rfl) ?_
            refine th_get (ci := 14) (C := RX13) (T := TX13) (N := 97) (v := .ref (ad 37)) hx hb hts hinX13 hown hK hP hI 0 (Nat.le_of_ble_eq_true rfl) rfl rfl 54 (Nat.le_of_ble_eq_true rfl) (hts _ (vA_in _ _ (in_32 _ (zs4 (zs4 (zs4 (zs1 (zs1 (zs0))))))))) (fun _ h9 => h9) (hI.fr 0 (Nat.le_of_ble_eq_true rfl) rfl (Nat.le_of_ble_eq_true rfl) 37 rfl) dX13_ranked_21 ?_
            refine lv_iload_n hx hb dX13_ranked_24 rfl (lv_at hl 0 rfl) ?_
            have n12 : vp_in v12_3 16 := (iv_in (n := 16) i9 (by decide))
            refine th_zald hx hb hK hP hI 37 (Nat.le_of_ble_eq_true rfl) rfl rfl n12 dX13_ranked_25 (fun y11 ey11 => ?_)
            have iy11 : 0 ≤ y11.toInt ∧ y11.toInt ≤ 1 := hI.el 37 (Nat.le_of_ble_eq_true rfl) rfl n12 (fun _ => rfl) ey11
            refine lv_if_ne (tgt := 32) hx hb dX13_ranked_26 (by decide) (fun c13 => ?_) (fun c13 => ?_)
            · --26 taken
              have t14 : ¬ y11.toInt = 0 := ti_ne c13
              have i15 : 1 ≤ y11.toInt ∧ y11.toInt ≤ 1 := iv_ne_l t14 iy11 (il_ 0)
              refine lv_iconst (v := 0) hx hb dX13_ranked_32 (by decide) ?_
              refine lv_istore (lv' := [(4, .int 0), (3, .int v12_3), (0, .ref (ad 0)), (1, .int a0), (2, .int a1)]) hx hb dX13_ranked_33 hl (by decide) rfl (fun ls hl => ?_)
              refine lv_iconst (v := 0) hx hb dX13_ranked_35 (by decide) ?_
              refine lv_istore (lv' := [(5, .int 0), (4, .int 0), (3, .int v12_3), (0, .ref (ad 0)), (1, .int a0), (2, .int a1)]) hx hb dX13_ranked_36 hl (by decide) rfl (fun ls hl => ?_)
              have hL38 : ∀ d : Nat, ∀ (v38_5 : Int32) (v38_4 : Int32) (E38_ : Nat → va_E) (H : Heap) (locs : List Loc) (ls : Array Slot), 0 ≤ v38_5.toInt ∧ v38_5.toInt ≤ 16 → 16 - v38_5.toInt < (d : Int) → IX cT shM spM 72 ad E38_ → Kp w_ranked E E38_ → va_P (dC, dI) vwCl (WX 72 ad E38_) H → va_S A s.heap H locs → lv_has ls 6 [(5, .int v38_5), (4, .int v38_4), (3, .int v12_3), (0, .ref (ad 0)), (1, .int a0), (2, .int a1)] → W p l e (headSpec v_ranked rm_ranked).room s m args below meth c H locs 0 0 Q (F0 m 38 ls []) := by
                intro d
                induction d with
                | zero =>
                  intro v38_5 v38_4 E38_ H locs ls hv38_5 hx38_0 hI hKp hP hS hl
                  exact absurd hx38_0 (by first | exact ms_zu hv38_5.2 | omega)
                | succ d ih38 =>
                  intro v38_5 v38_4 E38_ H locs ls hv38_5 hx38_0 hI hKp hP hS hl
                  refine lv_iload hx hb dX13_ranked_38 (lv_at hl 0 rfl) ?_
                  refine lv_aload_n hx hb dX13_ranked_40 rfl (lv_at hl 3 rfl) ?_
                  refine th_get (ci := 14) (C := RX13) (T := TX13) (N := 97) (v := .int (xi (E 0) 8)) hx hb hts hinX13 hown hK hP hI 0 (Nat.le_of_ble_eq_true rfl) rfl rfl 8 (Nat.le_of_ble_eq_true rfl) (hts _ (vA_in _ _ (in_24 _ (zs16 (zs4 (zs1 (zs1 (zs0)))))))) (fun _ h9 => h9) (th_v0 hKp hI0 0 (Nat.le_of_ble_eq_true rfl) rfl (Nat.le_of_ble_eq_true rfl) rfl rfl) dX13_ranked_41 ?_
                  refine lv_icmp_ge (tgt := 89) hx hb dX13_ranked_44 (by decide) (fun c16 => ?_) (fun c16 => ?_)
                  · --44 taken
                    have t17 : (xi (E 0) 8).toInt ≤ v38_5.toInt := ti_le c16
                    have i18 : 1 ≤ v38_5.toInt ∧ v38_5.toInt ≤ 16 := iv_le_r t17 i10 hv38_5 (by decide)
                    refine lv_iload hx hb dX13_ranked_89 (lv_at hl 1 rfl) ?_
                    refine lv_iload_n hx hb dX13_ranked_91 rfl (lv_at hl 4 rfl) ?_
                    refine lv_icmp_ne (tgt := 97) hx hb dX13_ranked_92 (by decide) (fun c19 => ?_) (fun c19 => ?_)
                    · --92 taken
                      have t20 : ¬ v38_4.toInt = a0.toInt := ti_ne c19
                      obtain ⟨y21, ey21⟩ : ∃ y : Int32, y = v12_3 + (1 : Int32) := ⟨_, rfl⟩
                      obtain ⟨ty21, iy21⟩ := ti_add (e := 1) (f := 16) i9 ln_1 ey21 (by decide)
                      have ty21 : y21.toInt = v12_3.toInt + 1 := ty21
                      have iy21 : 1 ≤ y21.toInt ∧ y21.toInt ≤ 16 := iy21
                      refine lv_iinc (v := y21) (lv' := [(3, .int y21), (5, .int v38_5), (4, .int v38_4), (0, .ref (ad 0)), (1, .int a0), (2, .int a1)]) hx hb dX13_ranked_97 hl (k := 2) rfl (by rw [ey21]; rfl) (by decide) rfl (fun ls hl => ?_)
                      refine lv_goto (tgt := 12) hx hb dX13_ranked_100 (by decide) ?_
                      exact ih12 y21 E38_ _ _ _ (iv_w iy21 (by decide)) (by first | exact ms_su hx12_0 ty21 (by decide) | omega) hI hKp hP hS (lv_sub hl [0, 3, 4, 5] rfl)
                    · --92 not
                      have t22 : v38_4.toInt = a0.toInt := ti_eq c19
                      refine lv_iload_n hx hb dX13_ranked_95 rfl (lv_at hl 2 rfl) ?_
                      rw [hQ]
                      exact W.iret (v := v12_3) hx hb hr (fun t ht hW => ⟨⟨v12_3, E38_, rfl, ⟨hI, hKp, trivial⟩, by show va_P (dC, dI) vwCl (WX 72 ad E38_) t.heap; rw [ht]; exact hP⟩, hS.F ht⟩) hS.2.2 dX13_ranked_96
                  · --44 not
                    have t23 : v38_5.toInt < (xi (E 0) 8).toInt := ti_nle c16
                    have i24 : 0 ≤ v38_5.toInt ∧ v38_5.toInt ≤ 15 := iv_lt_l t23 hv38_5 i10 (by decide)
                    refine lv_iload hx hb dX13_ranked_47 (lv_at hl 1 rfl) ?_
                    refine lv_iload hx hb dX13_ranked_49 (lv_at hl 0 rfl) ?_
                    refine lv_iload_n hx hb dX13_ranked_51 rfl (lv_at hl 2 rfl) ?_
                    refine lv_icmp_eq (tgt := 79) hx hb dX13_ranked_52 (by decide) (fun c25 => ?_) (fun c25 => ?_)
                    · --52 taken
                      have t26 : v38_5.toInt = v12_3.toInt := ti_eq c25
                      refine lv_iconst (v := 0) hx hb dX13_ranked_79 (by decide) ?_
                      refine lv_iadd hx hb dX13_ranked_80 ?_
                      refine lv_topi (fun y27 ey27 => ?_)
                      obtain ⟨ty27, iy27⟩ := ti_add (e := (-2147483648)) (f := 2147483647) (iv_all _) ln_0 ey27 (by decide)
                      have ty27 : y27.toInt = v38_4.toInt + 0 := ty27
                      have iy27 : -2147483648 ≤ y27.toInt ∧ y27.toInt ≤ 2147483647 := iy27
                      refine lv_istore (lv' := [(4, .int y27), (5, .int v38_5), (3, .int v12_3), (0, .ref (ad 0)), (1, .int a0), (2, .int a1)]) hx hb dX13_ranked_81 hl (by decide) rfl (fun ls hl => ?_)
                      obtain ⟨y28, ey28⟩ : ∃ y : Int32, y = v38_5 + (1 : Int32) := ⟨_, rfl⟩
                      obtain ⟨ty28, iy28⟩ := ti_add (e := 1) (f := 16) i24 ln_1 ey28 (by decide)
                      have ty28 : y28.toInt = v38_5.toInt + 1 := ty28
                      have iy28 : 1 ≤ y28.toInt ∧ y28.toInt ≤ 16 := iy28
                      refine lv_iinc (v := y28) (lv' := [(5, .int y28), (4, .int y27), (3, .int v12_3), (0, .ref (ad 0)), (1, .int a0), (2, .int a1)]) hx hb dX13_ranked_83 hl (k := 1) rfl (by rw [ey28]; rfl) (by decide) rfl (fun ls hl => ?_)
                      refine lv_goto (tgt := 38) hx hb dX13_ranked_86 (by decide) ?_
                      exact ih38 y28 y27 E38_ _ _ _ (iv_w iy28 (by decide)) (by first | exact ms_su hx38_0 ty28 (by decide) | omega) hI hKp hP hS (lv_sub hl [0, 1, 2, 3, 4, 5] rfl)
                    · --52 not
                      have t29 : ¬ v38_5.toInt = v12_3.toInt := ti_ne c25
                      refine lv_aload_n hx hb dX13_ranked_55 rfl (lv_at hl 3 rfl) ?_
                      refine th_get (ci := 14) (C := RX13) (T := TX13) (N := 97) (v := .ref (ad 37)) hx hb hts hinX13 hown hK hP hI 0 (Nat.le_of_ble_eq_true rfl) rfl rfl 54 (Nat.le_of_ble_eq_true rfl) (hts _ (vA_in _ _ (in_32 _ (zs4 (zs4 (zs4 (zs1 (zs1 (zs0))))))))) (fun _ h9 => h9) (hI.fr 0 (Nat.le_of_ble_eq_true rfl) rfl (Nat.le_of_ble_eq_true rfl) 37 rfl) dX13_ranked_56 ?_
                      refine lv_iload hx hb dX13_ranked_59 (lv_at hl 0 rfl) ?_
                      have n31 : vp_in v38_5 16 := (iv_in (n := 16) i24 (by decide))
                      refine th_zald hx hb hK hP hI 37 (Nat.le_of_ble_eq_true rfl) rfl rfl n31 dX13_ranked_61 (fun y30 ey30 => ?_)
                      have iy30 : 0 ≤ y30.toInt ∧ y30.toInt ≤ 1 := hI.el 37 (Nat.le_of_ble_eq_true rfl) rfl n31 (fun _ => rfl) ey30
                      refine lv_if_eq (tgt := 79) hx hb dX13_ranked_62 (by decide) (fun c32 => ?_) (fun c32 => ?_)
                      · --62 taken
                        have t33 : y30.toInt = 0 := ti_eq c32
                        have i34 : 0 ≤ y30.toInt ∧ y30.toInt ≤ 0 := iv_eqi t33 iy30 (il_ 0) (by decide)
                        refine lv_iconst (v := 0) hx hb dX13_ranked_79 (by decide) ?_
                        refine lv_iadd hx hb dX13_ranked_80 ?_
                        refine lv_topi (fun y35 ey35 => ?_)
                        obtain ⟨ty35, iy35⟩ := ti_add (e := (-2147483648)) (f := 2147483647) (iv_all _) ln_0 ey35 (by decide)
                        have ty35 : y35.toInt = v38_4.toInt + 0 := ty35
                        have iy35 : -2147483648 ≤ y35.toInt ∧ y35.toInt ≤ 2147483647 := iy35
                        refine lv_istore (lv' := [(4, .int y35), (5, .int v38_5), (3, .int v12_3), (0, .ref (ad 0)), (1, .int a0), (2, .int a1)]) hx hb dX13_ranked_81 hl (by decide) rfl (fun ls hl => ?_)
                        obtain ⟨y36, ey36⟩ : ∃ y : Int32, y = v38_5 + (1 : Int32) := ⟨_, rfl⟩
                        obtain ⟨ty36, iy36⟩ := ti_add (e := 1) (f := 16) i24 ln_1 ey36 (by decide)
                        have ty36 : y36.toInt = v38_5.toInt + 1 := ty36
                        have iy36 : 1 ≤ y36.toInt ∧ y36.toInt ≤ 16 := iy36
                        refine lv_iinc (v := y36) (lv' := [(5, .int y36), (4, .int y35), (3, .int v12_3), (0, .ref (ad 0)), (1, .int a0), (2, .int a1)]) hx hb dX13_ranked_83 hl (k := 1) rfl (by rw [ey36]; rfl) (by decide) rfl (fun ls hl => ?_)
                        refine lv_goto (tgt := 38) hx hb dX13_ranked_86 (by decide) ?_
                        exact ih38 y36 y35 E38_ _ _ _ (iv_w iy36 (by decide)) (by first | exact ms_su hx38_0 ty36 (by decide) | omega) hI hKp hP hS (lv_sub hl [0, 1, 2, 3, 4, 5] rfl)
                      · --62 not
                        have t37 : ¬ y30.toInt = 0 := ti_ne c32
                        have i38 : 1 ≤ y30.toInt ∧ y30.toInt ≤ 1 := iv_ne_l t37 iy30 (il_ 0)
                        refine lv_aload_n hx hb dX13_ranked_65 rfl (lv_at hl 3 rfl) ?_
                        refine lv_iload hx hb dX13_ranked_66 (lv_at hl 0 rfl) ?_
                        refine lv_iload_n hx hb dX13_ranked_68 rfl (lv_at hl 2 rfl) ?_
                        refine th_i (va_runV (As := [.int v38_5, .int v12_3]) (rest := [.int v38_4]) ⟨hx, hb, hml, hown, hts⟩ (q_isBetter l dC dI cT ad E38_ H.size v38_5 v12_3 hI i24 i9) (cwV 2 hts (gi_V (in_33 _ (zs16 (zs1 (zs0)))) (in_33 _ (zs16 (zs1 (zs1 (zs0))))) (in_33 _ (zs16 (zs1 (zs1 (zs1 (zs0)))))) (in_24 _ (zs4 (zs4 (zs4 (zs1 (zs1 (zs1 (zs0)))))))) (in_32 _ (zs16 (zs1 (zs1 (zs0)))))) rfl rfl rfl ⟨rfl, hz_yX13_isBetter_2⟩ ⟨Nat.le_of_ble_eq_true rfl, Nat.le_of_ble_eq_true rfl⟩) ⟨HW_bl, va_recv hK hP (ci := 14) (q0 := 0) rfl (hI.ob 0 (Nat.le_of_ble_eq_true rfl) rfl), (HW_wi hP hK (WX_D hD) hS hA hEV)⟩ rfl rfl hl.1 rfl (lv_room (Nat.le_of_ble_eq_true rfl)) dX13_ranked_69 ⟨Nat.le_of_ble_eq_true rfl, Nat.le_of_ble_eq_true rfl⟩) (WX_D hD) hS hA (fun r39 E40 H locs hw hP hS => ?_)
                        obtain ⟨hI, kq41, hw⟩ := hw
                        have hKb := hKp
                        have hKp := hKp.tr kq41 (wl_sub rfl rfl)
                        have f42 := hw
                        refine lv_if_eq (tgt := 79) hx hb dX13_ranked_72 (by decide) (fun c43 => ?_) (fun c43 => ?_)
                        · --72 taken
                          have t44 : r39.toInt = 0 := ti_eq c43
                          have i45 : 0 ≤ r39.toInt ∧ r39.toInt ≤ 0 := iv_eqi t44 f42 (il_ 0) (by decide)
                          refine lv_iconst (v := 0) hx hb dX13_ranked_79 (by decide) ?_
                          refine lv_iadd hx hb dX13_ranked_80 ?_
                          refine lv_topi (fun y46 ey46 => ?_)
                          obtain ⟨ty46, iy46⟩ := ti_add (e := (-2147483648)) (f := 2147483647) (iv_all _) ln_0 ey46 (by decide)
                          have ty46 : y46.toInt = v38_4.toInt + 0 := ty46
                          have iy46 : -2147483648 ≤ y46.toInt ∧ y46.toInt ≤ 2147483647 := iy46
                          refine lv_istore (lv' := [(4, .int y46), (5, .int v38_5), (3, .int v12_3), (0, .ref (ad 0)), (1, .int a0), (2, .int a1)]) hx hb dX13_ranked_81 hl (by decide) rfl (fun ls hl => ?_)
                          obtain ⟨y47, ey47⟩ : ∃ y : Int32, y = v38_5 + (1 : Int32) := ⟨_, rfl⟩
                          obtain ⟨ty47, iy47⟩ := ti_add (e := 1) (f := 16) i24 ln_1 ey47 (by decide)
                          have ty47 : y47.toInt = v38_5.toInt + 1 := ty47
                          have iy47 : 1 ≤ y47.toInt ∧ y47.toInt ≤ 16 := iy47
                          refine lv_iinc (v := y47) (lv' := [(5, .int y47), (4, .int y46), (3, .int v12_3), (0, .ref (ad 0)), (1, .int a0), (2, .int a1)]) hx hb dX13_ranked_83 hl (k := 1) rfl (by rw [ey47]; rfl) (by decide) rfl (fun ls hl => ?_)
                          refine lv_goto (tgt := 38) hx hb dX13_ranked_86 (by decide) ?_
                          exact ih38 y47 y46 E40 _ _ _ (iv_w iy47 (by decide)) (by first | exact ms_su hx38_0 ty47 (by decide) | omega) hI hKp hP hS (lv_sub hl [0, 1, 2, 3, 4, 5] rfl)
                        · --72 not
                          have t48 : ¬ r39.toInt = 0 := ti_ne c43
                          have i49 : 1 ≤ r39.toInt ∧ r39.toInt ≤ 1 := iv_ne_l t48 f42 (il_ 0)
                          refine lv_iconst (v := 1) hx hb dX13_ranked_75 (by decide) ?_
                          refine lv_goto (tgt := 80) hx hb dX13_ranked_76 (by decide) ?_
                          refine lv_iadd hx hb dX13_ranked_80 ?_
                          refine lv_topi (fun y50 ey50 => ?_)
                          refine lv_istore (lv' := [(4, .int y50), (5, .int v38_5), (3, .int v12_3), (0, .ref (ad 0)), (1, .int a0), (2, .int a1)]) hx hb dX13_ranked_81 hl (by decide) rfl (fun ls hl => ?_)
                          obtain ⟨y51, ey51⟩ : ∃ y : Int32, y = v38_5 + (1 : Int32) := ⟨_, rfl⟩
                          obtain ⟨ty51, iy51⟩ := ti_add (e := 1) (f := 16) i24 ln_1 ey51 (by decide)
                          have ty51 : y51.toInt = v38_5.toInt + 1 := ty51
                          have iy51 : 1 ≤ y51.toInt ∧ y51.toInt ≤ 16 := iy51
                          refine lv_iinc (v := y51) (lv' := [(5, .int y51), (4, .int y50), (3, .int v12_3), (0, .ref (ad 0)), (1, .int a0), (2, .int a1)]) hx hb dX13_ranked_83 hl (k := 1) rfl (by rw [ey51]; rfl) (by decide) rfl (fun ls hl => ?_)
                          refine lv_goto (tgt := 38) hx hb dX13_ranked_86 (by decide) ?_
                          exact ih38 y51 y50 E40 _ _ _ (iv_w iy51 (by decide)) (by first | exact ms_su hx38_0 ty51 (by decide) | omega) hI hKp hP hS (lv_sub hl [0, 1, 2, 3, 4, 5] rfl)
              exact hL38 (17) (0 : Int32) (0 : Int32) E12_ _ _ _ (iv_w ln_0 (by decide)) (by have h9 := ln_0; first | exact ms_bu h9.1 (by decide) | omega) hI hKp hP hS (lv_sub hl [0, 1, 2, 3, 4, 5] rfl)
            · --26 not
              have t52 : y11.toInt = 0 := ti_eq c13
              have i53 : 0 ≤ y11.toInt ∧ y11.toInt ≤ 0 := iv_eqi t52 iy11 (il_ 0) (by decide)
              refine lv_goto (tgt := 97) hx hb dX13_ranked_29 (by decide) ?_
              obtain ⟨y54, ey54⟩ : ∃ y : Int32, y = v12_3 + (1 : Int32) := ⟨_, rfl⟩
              obtain ⟨ty54, iy54⟩ := ti_add (e := 1) (f := 16) i9 ln_1 ey54 (by decide)
              have ty54 : y54.toInt = v12_3.toInt + 1 := ty54
              have iy54 : 1 ≤ y54.toInt ∧ y54.toInt ≤ 16 := iy54
              refine lv_iinc (v := y54) (lv' := [(3, .int y54), (0, .ref (ad 0)), (1, .int a0), (2, .int a1)]) hx hb dX13_ranked_97 hl (k := 0) rfl (by rw [ey54]; rfl) (by decide) rfl (fun ls hl => ?_)
              refine lv_goto (tgt := 12) hx hb dX13_ranked_100 (by decide) ?_
              exact ih12 y54 E12_ _ _ _ (iv_w iy54 (by decide)) (by first | exact ms_su hx12_0 ty54 (by decide) | omega) hI hKp hP hS (lv_sub hl [0, 1, 2, 3] rfl)
      exact hL12 (17) (0 : Int32) E2 _ _ _ (iv_w ln_0 (by decide)) (by have h9 := ln_0; first | exact ms_bu h9.1 (by decide) | omega) hI hKp hP hS (lv_sub hl [0, 1, 2, 3] rfl)
    · --5 not
      exact absurd c4 (by decide)
  · -- score, case 1
    obtain rfl := hw
    refine lv_if_ne (tgt := 10) hx hb dX13_ranked_5 (by decide) (fun c55 => ?_) (fun c55 => ?_)
    · --5 taken
      exact absurd c55 (by decide)
    · --5 not
      refine lv_iconst (v := -1) hx hb dX13_ranked_8 (by decide) ?_
      rw [hQ]
      exact W.iret (v := (-1)) hx hb hr (fun t ht hW => ⟨⟨(-1), E2, rfl, ⟨hI, hKp, trivial⟩, by show va_P (dC, dI) vwCl (WX 72 ad E2) t.heap; rw [ht]; exact hP⟩, hS.F ht⟩) hS.2.2 dX13_ranked_9
def v_onStarboard : List Cond := .code yX13_onStarboard cX13_onStarboard 2 (some .int) :: vA
abbrev rm_onStarboard : Room := { frames := 1, cells := 0, slots := 0, locals := 40 }
set_option maxHeartbeats 4000000 in
set_option maxRecDepth 100000 in
theorem q_onStarboard (l : Launch) (a0 : Int32) (a1 : Int32)  : Met l yX13_onStarboard v_onStarboard rm_onStarboard (va_Pc [.int a0, .int a1] (fun _ => True)) (va_Qi (S := Unit) (fun r _ => (0 ≤ r.toInt ∧ r.toInt ≤ 1)) (fun _ _ => True) (fun _ => False)) 0 0 (fun _ => False) := by
  refine Met.ofW (cc := cX13_onStarboard) (maxL := 2) (ret := (some .int)) (by decide) rfl ?_
  intro p e s m args below meth c s₁ B hml hv
  obtain ⟨hargs, -⟩ := hv
  have hx := B.exec
  have hb := B.bytes
  have hr := B.returns
  have hts := atoms_spec (ws := v_onStarboard) B.pre
  have hown : s.vm.findClass RX13 = some m.cls := findClass_of_methodNamed B.named
  have hlocks := B.notSynchronized
  have hS : va_S (fun _ : Nat => False) s.heap s.heap [] := va_S.rf
  have hl := lv_entry ([.int a0, .int a1]) (n := 2) (Nat.le_of_ble_eq_true rfl)
  obtain ⟨Q, hQ⟩ : ∃ Q, Q = MQ below (va_Qi (S := Unit) (fun r _ => (0 ≤ r.toInt ∧ r.toInt ≤ 1)) (fun _ _ => True) (fun _ => False)) args s 0 0 (fun _ => False) := ⟨_, rfl⟩
  rw [← hQ, show entryFrame m args 2 = _ from (congrArg (fun z => entryFrame m z 2) hargs).trans (lg_entry_eq _ _ _)]
  generalize (lg_sl ([.int a0, .int a1]) ++ List.replicate (2 - (lg_sl ([.int a0, .int a1])).length) Slot.unset).toArray = ls at hl ⊢
  have hl : lv_has ls 2 [(0, .int a0), (1, .int a1)] := hl
  refine lv_iload_n hx hb dX13_onStarboard_0 rfl (lv_at hl 0 rfl) ?_
  refine lv_iload_n hx hb dX13_onStarboard_1 rfl (lv_at hl 1 rfl) ?_
  refine lv_isub hx hb dX13_onStarboard_2 ?_
  refine lv_topi (fun y1 ey1 => ?_)
  refine lv_bipush (v := 8) hx hb dX13_onStarboard_3 (by decide) ?_
  refine th_floorMod hx hb (by rw [hml]; exact hl.1.symm) hown (hts _ (vA_in _ _ (in_31 _ (zs1 (zs0))))) (hts _ (vA_in _ _ (in_31 _ (zs1 (zs1 (zs0)))))) (hts _ (vA_in _ _ (in_0 _ (zs16 (zs16 (zs1 (zs0))))))) (hts _ (vA_in _ _ (in_3 _ (zs4 (zs4 (zs0)))))) (Nat.le_of_ble_eq_true rfl) (Nat.le_of_ble_eq_true rfl) (Nat.le_of_ble_eq_true rfl) (Nat.le_of_ble_eq_true rfl) (by decide) dX13_onStarboard_5 (fun y2 => ?_)
  refine lv_iconst (v := 4) hx hb dX13_onStarboard_8 (by decide) ?_
  refine lv_icmp_le (tgt := 16) hx hb dX13_onStarboard_9 (by decide) (fun c3 => ?_) (fun c3 => ?_)
  · --9 taken
    have t4 : y2.toInt ≤ 4 := ti_le c3
    have i5 : -2147483648 ≤ y2.toInt ∧ y2.toInt ≤ 4 := iv_le_l t4 (iv_all _) (il_ 4) (by decide)
    refine lv_iconst (v := 0) hx hb dX13_onStarboard_16 (by decide) ?_
    rw [hQ]
    exact W.iret (v := 0) hx hb hr (fun t ht hW => ⟨⟨0, (), rfl, (iv_w ln_0 (by decide)), trivial⟩, hS.F ht⟩) hS.2.2 dX13_onStarboard_17
  · --9 not
    have t6 : (4 : Int) < y2.toInt := ti_nle c3
    have i7 : 5 ≤ y2.toInt ∧ y2.toInt ≤ 2147483647 := iv_lt_r t6 (il_ 4) (iv_all _) (by decide)
    refine lv_iconst (v := 1) hx hb dX13_onStarboard_12 (by decide) ?_
    refine lv_goto (tgt := 17) hx hb dX13_onStarboard_13 (by decide) ?_
    rw [hQ]
    exact W.iret (v := 1) hx hb hr (fun t ht hW => ⟨⟨1, (), rfl, (iv_w ln_1 (by decide)), trivial⟩, hS.F ht⟩) hS.2.2 dX13_onStarboard_17
def v_findingOf : List Cond := .code yX13_findingOf cX13_findingOf 10 (some .int) :: vA
abbrev rm_findingOf : Room := { frames := 71, cells := 0, slots := 0, locals := 2840 }
def w_findingOf : Nat → Nat → Bool := wl [12] [(0, 18), (0, 19), (0, 20), (0, 21), (0, 22), (0, 23), (0, 24), (0, 25), (0, 26)]
set_option maxHeartbeats 4000000 in
set_option maxRecDepth 100000 in
theorem q_findingOf (l : Launch) (dC : Nat → ClassId) (dI : Nat → Nat → Nat) (cT : Nat → ClassId) (ad : Nat → Nat) (E : Nat → va_E) (sz : Nat) (a0 : Int32) (a1 : Int32) (a2 : Int32) (hI0 : IX cT shM spM 72 ad E) (hh0 : 0 ≤ a0.toInt ∧ a0.toInt ≤ 29) : Met l yX13_findingOf v_findingOf rm_findingOf (va_Pc [.ref (ad 0), .int a0, .int a1, .int a2] (HW dC dI (TYM cT) 72 ad E sz)) (va_Qi (S := Nat → va_E) (fun r u => IX cT shM spM 72 ad u ∧ Kp w_findingOf E u ∧ (True)) (HB dC dI 72 ad) (va_A (WX 72 ad E) sz)) 0 0 (va_A (WX 72 ad E) sz) := by
  refine Met.ofW (cc := cX13_findingOf) (maxL := 10) (ret := (some .int)) (by decide) rfl ?_
  intro p e s m args below meth c s₁ B hml hv
  obtain ⟨hargs, hsz, hP, hK, hD0, hEV⟩ := hv
  subst hsz
  have hx := B.exec
  have hb := B.bytes
  have hr := B.returns
  have hts := atoms_spec (ws := v_findingOf) B.pre
  have hown : s.vm.findClass RX13 = some m.cls := findClass_of_methodNamed B.named
  have hlocks := B.notSynchronized
  have hinX13 : ∀ w ∈ u_ws RX13 TX13 97, w ∈ v_findingOf := fun w h => vA_in _ w (in_X13 w h)
  generalize hAe : va_A (WX 72 ad E) s.heap.size = A at hEV ⊢
  have hA : ∀ q : Nat, s.heap.size ≤ q → A q := fun q h => by rw [← hAe]; exact Or.inr h
  have hD : va_D A (WX 72 ad E) := by rw [← hAe]; exact hD0.self
  have hS : va_S A s.heap s.heap [] := va_S.rf
  have hI := hI0
  have hKp : Kp w_findingOf E E := Kp.rf
  have hl := lv_entry ([.ref (ad 0), .int a0, .int a1, .int a2]) (n := 10) (Nat.le_of_ble_eq_true rfl)
  obtain ⟨Q, hQ⟩ : ∃ Q, Q = MQ below (va_Qi (S := Nat → va_E) (fun r u => IX cT shM spM 72 ad u ∧ Kp w_findingOf E u ∧ (True)) (HB dC dI 72 ad) (A)) args s 0 0 (A) := ⟨_, rfl⟩
  rw [← hQ, show entryFrame m args 10 = _ from (congrArg (fun z => entryFrame m z 10) hargs).trans (lg_entry_eq _ _ _)]
  generalize (lg_sl ([.ref (ad 0), .int a0, .int a1, .int a2]) ++ List.replicate (10 - (lg_sl ([.ref (ad 0), .int a0, .int a1, .int a2])).length) Slot.unset).toArray = ls at hl ⊢
  have hl : lv_has ls 10 [(0, .ref (ad 0)), (1, .int a0), (2, .int a1), (3, .int a2)] := hl
  refine lv_aload_n hx hb dX13_findingOf_0 rfl (lv_at hl 0 rfl) ?_
  refine th_get (ci := 14) (C := RX13) (T := TX13) (N := 97) (v := .ref (ad 46)) hx hb hts hinX13 hown hK hP hI 0 (Nat.le_of_ble_eq_true rfl) rfl rfl 64 (Nat.le_of_ble_eq_true rfl) (hts _ (vA_in _ _ (in_25 _ (zs1 (zs1 (zs1 (zs0))))))) (fun _ h9 => h9) (hI.fr 0 (Nat.le_of_ble_eq_true rfl) rfl (Nat.le_of_ble_eq_true rfl) 46 rfl) dX13_findingOf_1 ?_
  refine lv_iload_n hx hb dX13_findingOf_4 rfl (lv_at hl 1 rfl) ?_
  have n2 : vp_in a0 30 := (iv_in (n := 30) hh0 (by decide))
  refine th_iald hx hb hK hP hI 46 (Nat.le_of_ble_eq_true rfl) rfl rfl n2 dX13_findingOf_5 (fun y1 ey1 => ?_)
  have iy1 : 0 ≤ y1.toInt ∧ y1.toInt ≤ 19 := hI.el 46 (Nat.le_of_ble_eq_true rfl) rfl n2 (fun _ => rfl) ey1
  have ey1 := ey1.trans (hKp.ei 46 _ rfl)
  refine lv_istore (lv' := [(4, .int y1), (0, .ref (ad 0)), (1, .int a0), (2, .int a1), (3, .int a2)]) hx hb dX13_findingOf_6 hl (by decide) rfl (fun ls hl => ?_)
  refine lv_iconst (v := 0) hx hb dX13_findingOf_8 (by decide) ?_
  refine lv_istore (lv' := [(5, .int 0), (4, .int y1), (0, .ref (ad 0)), (1, .int a0), (2, .int a1), (3, .int a2)]) hx hb dX13_findingOf_9 hl (by decide) rfl (fun ls hl => ?_)
  refine lv_iconst (v := 0) hx hb dX13_findingOf_11 (by decide) ?_
  refine lv_istore (lv' := [(6, .int 0), (5, .int 0), (4, .int y1), (0, .ref (ad 0)), (1, .int a0), (2, .int a1), (3, .int a2)]) hx hb dX13_findingOf_12 hl (by decide) rfl (fun ls hl => ?_)
  refine lv_aload_n hx hb dX13_findingOf_14 rfl (lv_at hl 3 rfl) ?_
  refine th_get (ci := 14) (C := RX13) (T := TX13) (N := 97) (v := .ref (ad 16)) hx hb hts hinX13 hown hK hP hI 0 (Nat.le_of_ble_eq_true rfl) rfl rfl 30 (Nat.le_of_ble_eq_true rfl) (hts _ (vA_in _ _ (in_30 _ (zs16 (zs16 (zs0)))))) (fun _ h9 => h9) (hI.fr 0 (Nat.le_of_ble_eq_true rfl) rfl (Nat.le_of_ble_eq_true rfl) 16 rfl) dX13_findingOf_15 ?_
  refine lv_iload hx hb dX13_findingOf_18 (lv_at hl 2 rfl) ?_
  have n4 : vp_in y1 20 := (iv_in (n := 20) iy1 (by decide))
  refine th_iald hx hb hK hP hI 16 (Nat.le_of_ble_eq_true rfl) rfl rfl n4 dX13_findingOf_20 (fun y3 ey3 => ?_)
  have iy3 : 0 ≤ y3.toInt ∧ y3.toInt ≤ 7 := hI.el 16 (Nat.le_of_ble_eq_true rfl) rfl n4 (fun _ => rfl) ey3
  have ey3 := ey3.trans (hKp.ei 16 _ rfl)
  refine lv_istore (lv' := [(7, .int y3), (6, .int 0), (5, .int 0), (4, .int y1), (0, .ref (ad 0)), (1, .int a0), (2, .int a1), (3, .int a2)]) hx hb dX13_findingOf_21 hl (by decide) rfl (fun ls hl => ?_)
  refine lv_iconst (v := 0) hx hb dX13_findingOf_23 (by decide) ?_
  refine lv_istore (lv' := [(8, .int 0), (7, .int y3), (6, .int 0), (5, .int 0), (4, .int y1), (0, .ref (ad 0)), (1, .int a0), (2, .int a1), (3, .int a2)]) hx hb dX13_findingOf_24 hl (by decide) rfl (fun ls hl => ?_)
  have hL26 : ∀ d : Nat, ∀ (v26_8 : Int32) (v26_6 : Int32) (v26_5 : Int32) (E26_ : Nat → va_E) (H : Heap) (locs : List Loc) (ls : Array Slot), 0 ≤ v26_8.toInt ∧ v26_8.toInt ≤ 128 → 128 - v26_8.toInt < (d : Int) → IX cT shM spM 72 ad E26_ → Kp w_findingOf E E26_ → va_P (dC, dI) vwCl (WX 72 ad E26_) H → va_S A s.heap H locs → lv_has ls 10 [(8, .int v26_8), (7, .int y3), (6, .int v26_6), (5, .int v26_5), (4, .int y1), (0, .ref (ad 0)), (1, .int a0), (2, .int a1), (3, .int a2)] → W p l e (headSpec v_findingOf rm_findingOf).room s m args below meth c H locs 0 0 Q (F0 m 26 ls []) := by
    intro d
    induction d with
    | zero =>
      intro v26_8 v26_6 v26_5 E26_ H locs ls hv26_8 hx26_0 hI hKp hP hS hl
      exact absurd hx26_0 (by first | exact ms_zu hv26_8.2 | omega)
    | succ d ih26 =>
      intro v26_8 v26_6 v26_5 E26_ H locs ls hv26_8 hx26_0 hI hKp hP hS hl
      refine lv_iload hx hb dX13_findingOf_26 (lv_at hl 0 rfl) ?_
      refine lv_aload_n hx hb dX13_findingOf_28 rfl (lv_at hl 5 rfl) ?_
      refine th_get (ci := 14) (C := RX13) (T := TX13) (N := 97) (v := .ref (ad 59)) hx hb hts hinX13 hown hK hP hI 0 (Nat.le_of_ble_eq_true rfl) rfl rfl 79 (Nat.le_of_ble_eq_true rfl) (hts _ (vA_in _ _ (in_25 _ (zs16 (zs4 (zs0)))))) (fun _ h9 => h9) (hI.fr 0 (Nat.le_of_ble_eq_true rfl) rfl (Nat.le_of_ble_eq_true rfl) 59 rfl) dX13_findingOf_29 ?_
      refine lv_iconst (v := 0) hx hb dX13_findingOf_32 (by decide) ?_
      have n6 : vp_in (0 : Int32) 2 := (iv_in (n := 2) ln_0 (by decide))
      refine th_iald hx hb hK hP hI 59 (Nat.le_of_ble_eq_true rfl) rfl rfl n6 dX13_findingOf_33 (fun y5 ey5 => ?_)
      have iy5 : 0 ≤ y5.toInt ∧ y5.toInt ≤ 128 := hI.el 59 (Nat.le_of_ble_eq_true rfl) rfl n6 (fun _ => rfl) ey5
      have ey5 := ey5.trans (hKp.ei 59 _ rfl)
      refine lv_icmp_ge (tgt := 351) hx hb dX13_findingOf_34 (by decide) (fun c7 => ?_) (fun c7 => ?_)
      · --34 taken
        have t8 : y5.toInt ≤ v26_8.toInt := ti_le c7
        refine lv_iload hx hb dX13_findingOf_351 (lv_at hl 3 rfl) ?_
        refine lv_if_ne (tgt := 360) hx hb dX13_findingOf_353 (by decide) (fun c9 => ?_) (fun c9 => ?_)
        · --353 taken
          have t10 : ¬ v26_5.toInt = 0 := ti_ne c9
          refine lv_iload hx hb dX13_findingOf_360 (lv_at hl 2 rfl) ?_
          refine lv_iload hx hb dX13_findingOf_362 (lv_at hl 3 rfl) ?_
          refine lv_icmp_ne (tgt := 371) hx hb dX13_findingOf_364 (by decide) (fun c11 => ?_) (fun c11 => ?_)
          · --364 taken
            have t12 : ¬ v26_6.toInt = v26_5.toInt := ti_ne c11
            refine lv_iload hx hb dX13_findingOf_371 (lv_at hl 2 rfl) ?_
            refine lv_if_le (tgt := 380) hx hb dX13_findingOf_373 (by decide) (fun c13 => ?_) (fun c13 => ?_)
            · --373 taken
              have t14 : v26_6.toInt ≤ 0 := ti_le c13
              have i15 : -2147483648 ≤ v26_6.toInt ∧ v26_6.toInt ≤ 0 := iv_le_l t14 (iv_all _) (il_ 0) (by decide)
              refine lv_iconst (v := 0) hx hb dX13_findingOf_380 (by decide) ?_
              rw [hQ]
              exact W.iret (v := 0) hx hb hr (fun t ht hW => ⟨⟨0, E26_, rfl, ⟨hI, hKp, trivial⟩, by show va_P (dC, dI) vwCl (WX 72 ad E26_) t.heap; rw [ht]; exact hP⟩, hS.F ht⟩) hS.2.2 dX13_findingOf_381
            · --373 not
              have t16 : (0 : Int) < v26_6.toInt := ti_nle c13
              have i17 : 1 ≤ v26_6.toInt ∧ v26_6.toInt ≤ 2147483647 := iv_lt_r t16 (il_ 0) (iv_all _) (by decide)
              refine lv_iconst (v := 2) hx hb dX13_findingOf_376 (by decide) ?_
              refine lv_goto (tgt := 381) hx hb dX13_findingOf_377 (by decide) ?_
              rw [hQ]
              exact W.iret (v := 2) hx hb hr (fun t ht hW => ⟨⟨2, E26_, rfl, ⟨hI, hKp, trivial⟩, by show va_P (dC, dI) vwCl (WX 72 ad E26_) t.heap; rw [ht]; exact hP⟩, hS.F ht⟩) hS.2.2 dX13_findingOf_381
          · --364 not
            have t18 : v26_6.toInt = v26_5.toInt := ti_eq c11
            refine lv_iconst (v := 1) hx hb dX13_findingOf_367 (by decide) ?_
            refine lv_goto (tgt := 381) hx hb dX13_findingOf_368 (by decide) ?_
            rw [hQ]
            exact W.iret (v := 1) hx hb hr (fun t ht hW => ⟨⟨1, E26_, rfl, ⟨hI, hKp, trivial⟩, by show va_P (dC, dI) vwCl (WX 72 ad E26_) t.heap; rw [ht]; exact hP⟩, hS.F ht⟩) hS.2.2 dX13_findingOf_381
        · --353 not
          have t19 : v26_5.toInt = 0 := ti_eq c9
          have i20 : 0 ≤ v26_5.toInt ∧ v26_5.toInt ≤ 0 := iv_eqi t19 (iv_all _) (il_ 0) (by decide)
          refine lv_iconst (v := -1) hx hb dX13_findingOf_356 (by decide) ?_
          refine lv_goto (tgt := 381) hx hb dX13_findingOf_357 (by decide) ?_
          rw [hQ]
          exact W.iret (v := (-1)) hx hb hr (fun t ht hW => ⟨⟨(-1), E26_, rfl, ⟨hI, hKp, trivial⟩, by show va_P (dC, dI) vwCl (WX 72 ad E26_) t.heap; rw [ht]; exact hP⟩, hS.F ht⟩) hS.2.2 dX13_findingOf_381
      · --34 not
        have t21 : v26_8.toInt < y5.toInt := ti_nle c7
        have i22 : 0 ≤ v26_8.toInt ∧ v26_8.toInt ≤ 127 := iv_lt_l t21 hv26_8 iy5 (by decide)
        have i23 : 1 ≤ y5.toInt ∧ y5.toInt ≤ 128 := iv_lt_r t21 hv26_8 iy5 (by decide)
        refine lv_sipush (v := 128) hx hb dX13_findingOf_37 (by decide) ?_
        refine lv_istore (lv' := [(9, .int 128), (8, .int v26_8), (7, .int y3), (6, .int v26_6), (5, .int v26_5), (4, .int y1), (0, .ref (ad 0)), (1, .int a0), (2, .int a1), (3, .int a2)]) hx hb dX13_findingOf_40 hl (by decide) rfl (fun ls hl => ?_)
        have hL42 : ∀ d : Nat, ∀ (v42_9 : Int32) (v42_6 : Int32) (v42_5 : Int32) (E42_ : Nat → va_E) (H : Heap) (locs : List Loc) (ls : Array Slot), 128 ≤ v42_9.toInt ∧ v42_9.toInt ≤ 256 → 256 - v42_9.toInt < (d : Int) → IX cT shM spM 72 ad E42_ → Kp w_findingOf E E42_ → va_P (dC, dI) vwCl (WX 72 ad E42_) H → va_S A s.heap H locs → lv_has ls 10 [(9, .int v42_9), (8, .int v26_8), (7, .int y3), (6, .int v42_6), (5, .int v42_5), (4, .int y1), (0, .ref (ad 0)), (1, .int a0), (2, .int a1), (3, .int a2)] → W p l e (headSpec v_findingOf rm_findingOf).room s m args below meth c H locs 0 0 Q (F0 m 42 ls []) := by
          intro d
          induction d with
          | zero =>
            intro v42_9 v42_6 v42_5 E42_ H locs ls hv42_9 hx42_0 hI hKp hP hS hl
            exact absurd hx42_0 (by first | exact ms_zu hv42_9.2 | omega)
          | succ d ih42 =>
            intro v42_9 v42_6 v42_5 E42_ H locs ls hv42_9 hx42_0 hI hKp hP hS hl
            refine lv_iload hx hb dX13_findingOf_42 (lv_at hl 0 rfl) ?_
            refine lv_sipush (v := 128) hx hb dX13_findingOf_44 (by decide) ?_
            refine lv_aload_n hx hb dX13_findingOf_47 rfl (lv_at hl 6 rfl) ?_
            refine th_get (ci := 14) (C := RX13) (T := TX13) (N := 97) (v := .ref (ad 59)) hx hb hts hinX13 hown hK hP hI 0 (Nat.le_of_ble_eq_true rfl) rfl rfl 79 (Nat.le_of_ble_eq_true rfl) (hts _ (vA_in _ _ (in_25 _ (zs16 (zs4 (zs0)))))) (fun _ h9 => h9) (hI.fr 0 (Nat.le_of_ble_eq_true rfl) rfl (Nat.le_of_ble_eq_true rfl) 59 rfl) dX13_findingOf_48 ?_
            refine lv_iconst (v := 1) hx hb dX13_findingOf_51 (by decide) ?_
            have n25 : vp_in (1 : Int32) 2 := (iv_in (n := 2) ln_1 (by decide))
            refine th_iald hx hb hK hP hI 59 (Nat.le_of_ble_eq_true rfl) rfl rfl n25 dX13_findingOf_52 (fun y24 ey24 => ?_)
            have iy24 : 0 ≤ y24.toInt ∧ y24.toInt ≤ 128 := hI.el 59 (Nat.le_of_ble_eq_true rfl) rfl n25 (fun _ => rfl) ey24
            have ey24 := ey24.trans (hKp.ei 59 _ rfl)
            refine lv_iadd hx hb dX13_findingOf_53 ?_
            refine lv_topi (fun y26 ey26 => ?_)
            obtain ⟨ty26, iy26⟩ := ti_add (e := 128) (f := 256) ln_128 iy24 ey26 (by decide)
            have ty26 : y26.toInt = 128 + y24.toInt := ty26
            have iy26 : 128 ≤ y26.toInt ∧ y26.toInt ≤ 256 := iy26
            refine lv_icmp_ge (tgt := 345) hx hb dX13_findingOf_54 (by decide) (fun c27 => ?_) (fun c27 => ?_)
            · --54 taken
              have t28 : y26.toInt ≤ v42_9.toInt := ti_le c27
              obtain ⟨y29, ey29⟩ : ∃ y : Int32, y = v26_8 + (1 : Int32) := ⟨_, rfl⟩
              obtain ⟨ty29, iy29⟩ := ti_add (e := 1) (f := 128) i22 ln_1 ey29 (by decide)
              have ty29 : y29.toInt = v26_8.toInt + 1 := ty29
              have iy29 : 1 ≤ y29.toInt ∧ y29.toInt ≤ 128 := iy29
              refine lv_iinc (v := y29) (lv' := [(8, .int y29), (9, .int v42_9), (7, .int y3), (6, .int v42_6), (5, .int v42_5), (4, .int y1), (0, .ref (ad 0)), (1, .int a0), (2, .int a1), (3, .int a2)]) hx hb dX13_findingOf_345 hl (k := 1) rfl (by rw [ey29]; rfl) (by decide) rfl (fun ls hl => ?_)
              refine lv_goto (tgt := 26) hx hb dX13_findingOf_348 (by decide) ?_
              exact ih26 y29 v42_6 v42_5 E42_ _ _ _ (iv_w iy29 (by decide)) (by first | exact ms_su hx26_0 ty29 (by decide) | omega) hI hKp hP hS (lv_sub hl [0, 2, 3, 4, 5, 6, 7, 8, 9] rfl)
            · --54 not
              have t30 : v42_9.toInt < y26.toInt := ti_nle c27
              have i31 : 128 ≤ v42_9.toInt ∧ v42_9.toInt ≤ 255 := iv_lt_l t30 hv42_9 iy26 (by decide)
              have i32 : 129 ≤ y26.toInt ∧ y26.toInt ≤ 256 := iv_lt_r t30 hv42_9 iy26 (by decide)
              refine lv_aload_n hx hb dX13_findingOf_57 rfl (lv_at hl 6 rfl) ?_
              refine th_v (va_runV (As := []) (rest := []) ⟨hx, hb, hml, hown, hts⟩ (q_clear l dC dI cT ad E42_ H.size hI) (cwV 0 hts (gi_V (in_28 _ (zs16 (zs4 (zs4 (zs4 (zs1 (zs1 (zs0)))))))) (in_28 _ (zs16 (zs4 (zs4 (zs4 (zs1 (zs1 (zs1 (zs0))))))))) (in_28 _ (zs16 (zs16 (zs0)))) (in_24 _ (zs4 (zs4 (zs4 (zs1 (zs1 (zs1 (zs0)))))))) (in_28 _ (zs16 (zs16 (zs1 (zs0)))))) rfl rfl rfl ⟨rfl, hz_yX13_clear_0⟩ ⟨Nat.le_of_ble_eq_true rfl, Nat.le_of_ble_eq_true rfl⟩) ⟨HW_bl, va_recv hK hP (ci := 14) (q0 := 0) rfl (hI.ob 0 (Nat.le_of_ble_eq_true rfl) rfl), (HW_wi hP hK (WX_D hD) hS hA hEV)⟩ rfl rfl hl.1 rfl (lv_room (Nat.le_of_ble_eq_true rfl)) dX13_findingOf_58 ⟨Nat.le_of_ble_eq_true rfl, Nat.le_of_ble_eq_true rfl⟩) (WX_D hD) hS hA (fun E34 H locs hw hP hS => ?_)
              obtain ⟨hI, kq35, hw⟩ := hw
              have hKb := hKp
              have hKp := hKp.tr kq35 (wl_sub rfl rfl)
              refine lv_aload_n hx hb dX13_findingOf_61 rfl (lv_at hl 6 rfl) ?_
              refine th_get (ci := 14) (C := RX13) (T := TX13) (N := 97) (v := .ref (ad 12)) hx hb hts hinX13 hown hK hP hI 0 (Nat.le_of_ble_eq_true rfl) rfl rfl 15 (Nat.le_of_ble_eq_true rfl) (hts _ (vA_in _ _ (in_25 _ (zs16 (zs16 (zs4 (zs1 (zs0)))))))) (fun _ h9 => h9) (hI.fr 0 (Nat.le_of_ble_eq_true rfl) rfl (Nat.le_of_ble_eq_true rfl) 12 rfl) dX13_findingOf_62 ?_
              refine lv_bipush (v := 100) hx hb dX13_findingOf_65 (by decide) ?_
              refine lv_aload_n hx hb dX13_findingOf_67 rfl (lv_at hl 6 rfl) ?_
              refine th_get (ci := 14) (C := RX13) (T := TX13) (N := 97) (v := .ref (ad 56)) hx hb hts hinX13 hown hK hP hI 0 (Nat.le_of_ble_eq_true rfl) rfl rfl 76 (Nat.le_of_ble_eq_true rfl) (hts _ (vA_in _ _ (in_25 _ (zs16 (zs1 (zs0)))))) (fun _ h9 => h9) (hI.fr 0 (Nat.le_of_ble_eq_true rfl) rfl (Nat.le_of_ble_eq_true rfl) 56 rfl) dX13_findingOf_68 ?_
              refine lv_iload hx hb dX13_findingOf_71 (lv_at hl 1 rfl) ?_
              have n37 : vp_in v26_8 256 := (iv_in (n := 256) i22 (by decide))
              refine th_iald hx hb hK hP hI 56 (Nat.le_of_ble_eq_true rfl) rfl rfl n37 dX13_findingOf_73 (fun y36 ey36 => ?_)
              have iy36 : 0 ≤ y36.toInt ∧ y36.toInt ≤ 99 := hI.el 56 (Nat.le_of_ble_eq_true rfl) rfl n37 (fun _ => rfl) ey36
              have ey36 := ey36.trans (hKp.ei 56 _ rfl)
              refine lv_aload_n hx hb dX13_findingOf_74 rfl (lv_at hl 6 rfl) ?_
              refine th_get (ci := 14) (C := RX13) (T := TX13) (N := 97) (v := .ref (ad 57)) hx hb hts hinX13 hown hK hP hI 0 (Nat.le_of_ble_eq_true rfl) rfl rfl 77 (Nat.le_of_ble_eq_true rfl) (hts _ (vA_in _ _ (in_25 _ (zs16 (zs1 (zs1 (zs0))))))) (fun _ h9 => h9) (hI.fr 0 (Nat.le_of_ble_eq_true rfl) rfl (Nat.le_of_ble_eq_true rfl) 57 rfl) dX13_findingOf_75 ?_
              refine lv_iload hx hb dX13_findingOf_78 (lv_at hl 1 rfl) ?_
              have n39 : vp_in v26_8 256 := (iv_in (n := 256) i22 (by decide))
              refine th_iald hx hb hK hP hI 57 (Nat.le_of_ble_eq_true rfl) rfl rfl n39 dX13_findingOf_80 (fun y38 ey38 => ?_)
              have iy38 : 0 ≤ y38.toInt ∧ y38.toInt ≤ 99 := hI.el 57 (Nat.le_of_ble_eq_true rfl) rfl n39 (fun _ => rfl) ey38
              have ey38 := ey38.trans (hKp.ei 57 _ rfl)
              refine lv_aload_n hx hb dX13_findingOf_81 rfl (lv_at hl 6 rfl) ?_
              refine th_get (ci := 14) (C := RX13) (T := TX13) (N := 97) (v := .ref (ad 56)) hx hb hts hinX13 hown hK hP hI 0 (Nat.le_of_ble_eq_true rfl) rfl rfl 76 (Nat.le_of_ble_eq_true rfl) (hts _ (vA_in _ _ (in_25 _ (zs16 (zs1 (zs0)))))) (fun _ h9 => h9) (hI.fr 0 (Nat.le_of_ble_eq_true rfl) rfl (Nat.le_of_ble_eq_true rfl) 56 rfl) dX13_findingOf_82 ?_
              refine lv_iload hx hb dX13_findingOf_85 (lv_at hl 0 rfl) ?_
              have n41 : vp_in v42_9 256 := (iv_in (n := 256) i31 (by decide))
              refine th_iald hx hb hK hP hI 56 (Nat.le_of_ble_eq_true rfl) rfl rfl n41 dX13_findingOf_87 (fun y40 ey40 => ?_)
              have iy40 : 0 ≤ y40.toInt ∧ y40.toInt ≤ 99 := hI.el 56 (Nat.le_of_ble_eq_true rfl) rfl n41 (fun _ => rfl) ey40
              have ey40 := ey40.trans (hKp.ei 56 _ rfl)
              refine lv_aload_n hx hb dX13_findingOf_88 rfl (lv_at hl 6 rfl) ?_
              refine th_get (ci := 14) (C := RX13) (T := TX13) (N := 97) (v := .ref (ad 57)) hx hb hts hinX13 hown hK hP hI 0 (Nat.le_of_ble_eq_true rfl) rfl rfl 77 (Nat.le_of_ble_eq_true rfl) (hts _ (vA_in _ _ (in_25 _ (zs16 (zs1 (zs1 (zs0))))))) (fun _ h9 => h9) (hI.fr 0 (Nat.le_of_ble_eq_true rfl) rfl (Nat.le_of_ble_eq_true rfl) 57 rfl) dX13_findingOf_89 ?_
              refine lv_iload hx hb dX13_findingOf_92 (lv_at hl 0 rfl) ?_
              have n43 : vp_in v42_9 256 := (iv_in (n := 256) i31 (by decide))
              refine th_iald hx hb hK hP hI 57 (Nat.le_of_ble_eq_true rfl) rfl rfl n43 dX13_findingOf_94 (fun y42 ey42 => ?_)
              have iy42 : 0 ≤ y42.toInt ∧ y42.toInt ≤ 99 := hI.el 57 (Nat.le_of_ble_eq_true rfl) rfl n43 (fun _ => rfl) ey42
              have ey42 := ey42.trans (hKp.ei 57 _ rfl)
              refine th_pi (va_runS (As := [.int y36, .int y38, .int y40, .int y42]) (rest := [.int 100, .ref (ad 12)]) ⟨hx, hb, hml, hown, hts⟩ (q_far l y36 y38 y40 y42) (va_cwS 4 hts (gi_S (in_30 _ (zs16 (zs16 (zs1 (zs1 (zs1 (zs0))))))) (in_30 _ (zs16 (zs16 (zs4 (zs0))))) (in_24 _ (zs4 (zs4 (zs4 (zs1 (zs1 (zs1 (zs0)))))))) (in_30 _ (zs16 (zs16 (zs4 (zs1 (zs0))))))) rfl rfl rfl hz_yX13_far_4 ⟨Nat.le_of_ble_eq_true rfl, Nat.le_of_ble_eq_true rfl⟩) ⟨fun _ _ _ _ q => q, fun _ _ _ => ⟨rfl, trivial⟩⟩ rfl rfl hl.1 rfl (lv_room (Nat.le_of_ble_eq_true rfl)) dX13_findingOf_95 ⟨Nat.le_of_ble_eq_true rfl, Nat.le_of_ble_eq_true rfl⟩) hS (fun r44 H1 locs1 hw hk1 hS => ?_)
              have hP := ub_keep hP hk1
              generalize H1 = H at hP hS ⊢
              generalize locs1 = locs at hS ⊢
              have n45 : vp_in (100 : Int32) 128 := (iv_in (n := 128) ln_100 (by decide))
              refine th_iast hx hb hK hP (WX_D hD) hS hI 12 (Nat.le_of_ble_eq_true rfl) rfl rfl n45 (okI rfl (iv_all _)) dX13_findingOf_98 (fun H locs E46 pw47 hI hP hS => ?_)
              have hKp := hKp.pw pw47 rfl
              refine lv_aload_n hx hb dX13_findingOf_99 rfl (lv_at hl 6 rfl) ?_
              refine th_get (ci := 14) (C := RX13) (T := TX13) (N := 97) (v := .ref (ad 12)) hx hb hts hinX13 hown hK hP hI 0 (Nat.le_of_ble_eq_true rfl) rfl rfl 15 (Nat.le_of_ble_eq_true rfl) (hts _ (vA_in _ _ (in_25 _ (zs16 (zs16 (zs4 (zs1 (zs0)))))))) (fun _ h9 => h9) (hI.fr 0 (Nat.le_of_ble_eq_true rfl) rfl (Nat.le_of_ble_eq_true rfl) 12 rfl) dX13_findingOf_100 ?_
              refine lv_bipush (v := 103) hx hb dX13_findingOf_103 (by decide) ?_
              refine lv_aload_n hx hb dX13_findingOf_105 rfl (lv_at hl 6 rfl) ?_
              refine th_get (ci := 14) (C := RX13) (T := TX13) (N := 97) (v := .ref (ad 58)) hx hb hts hinX13 hown hK hP hI 0 (Nat.le_of_ble_eq_true rfl) rfl rfl 78 (Nat.le_of_ble_eq_true rfl) (hts _ (vA_in _ _ (in_25 _ (zs16 (zs1 (zs1 (zs1 (zs0)))))))) (fun _ h9 => h9) (hI.fr 0 (Nat.le_of_ble_eq_true rfl) rfl (Nat.le_of_ble_eq_true rfl) 58 rfl) dX13_findingOf_106 ?_
              refine lv_iload hx hb dX13_findingOf_109 (lv_at hl 1 rfl) ?_
              have n49 : vp_in v26_8 256 := (iv_in (n := 256) i22 (by decide))
              refine th_iald hx hb hK hP hI 58 (Nat.le_of_ble_eq_true rfl) rfl rfl n49 dX13_findingOf_111 (fun y48 ey48 => ?_)
              have iy48 : 0 ≤ y48.toInt ∧ y48.toInt ≤ 7 := hI.el 58 (Nat.le_of_ble_eq_true rfl) rfl n49 (fun _ => rfl) ey48
              have ey48 := ey48.trans (hKp.ei 58 _ rfl)
              refine lv_iload hx hb dX13_findingOf_112 (lv_at hl 2 rfl) ?_
              refine th_pi (va_runS (As := [.int y48, .int y3]) (rest := [.int 103, .ref (ad 12)]) ⟨hx, hb, hml, hown, hts⟩ (q_onStarboard l y48 y3) (va_cwS 2 hts (gi_S (in_30 _ (zs16 (zs16 (zs4 (zs1 (zs1 (zs0))))))) (in_30 _ (zs16 (zs16 (zs4 (zs1 (zs1 (zs1 (zs0)))))))) (in_24 _ (zs4 (zs4 (zs4 (zs1 (zs1 (zs1 (zs0)))))))) (in_31 _ zs0)) rfl rfl rfl hz_yX13_onStarboard_2 ⟨Nat.le_of_ble_eq_true rfl, Nat.le_of_ble_eq_true rfl⟩) ⟨fun _ _ _ _ q => q, fun _ _ _ => ⟨rfl, trivial⟩⟩ rfl rfl hl.1 rfl (lv_room (Nat.le_of_ble_eq_true rfl)) dX13_findingOf_114 ⟨Nat.le_of_ble_eq_true rfl, Nat.le_of_ble_eq_true rfl⟩) hS (fun r50 H1 locs1 hw hk1 hS => ?_)
              have hP := ub_keep hP hk1
              generalize H1 = H at hP hS ⊢
              generalize locs1 = locs at hS ⊢
              have f51 := hw
              have n52 : vp_in (103 : Int32) 128 := (iv_in (n := 128) ln_103 (by decide))
              refine th_iast hx hb hK hP (WX_D hD) hS hI 12 (Nat.le_of_ble_eq_true rfl) rfl rfl n52 (okI rfl (iv_w f51 (by decide))) dX13_findingOf_117 (fun H locs E53 pw54 hI hP hS => ?_)
              have hKp := hKp.pw pw54 rfl
              refine lv_aload_n hx hb dX13_findingOf_118 rfl (lv_at hl 6 rfl) ?_
              refine th_get (ci := 14) (C := RX13) (T := TX13) (N := 97) (v := .ref (ad 12)) hx hb hts hinX13 hown hK hP hI 0 (Nat.le_of_ble_eq_true rfl) rfl rfl 15 (Nat.le_of_ble_eq_true rfl) (hts _ (vA_in _ _ (in_25 _ (zs16 (zs16 (zs4 (zs1 (zs0)))))))) (fun _ h9 => h9) (hI.fr 0 (Nat.le_of_ble_eq_true rfl) rfl (Nat.le_of_ble_eq_true rfl) 12 rfl) dX13_findingOf_119 ?_
              refine lv_bipush (v := 104) hx hb dX13_findingOf_122 (by decide) ?_
              refine lv_aload_n hx hb dX13_findingOf_124 rfl (lv_at hl 6 rfl) ?_
              refine th_get (ci := 14) (C := RX13) (T := TX13) (N := 97) (v := .ref (ad 58)) hx hb hts hinX13 hown hK hP hI 0 (Nat.le_of_ble_eq_true rfl) rfl rfl 78 (Nat.le_of_ble_eq_true rfl) (hts _ (vA_in _ _ (in_25 _ (zs16 (zs1 (zs1 (zs1 (zs0)))))))) (fun _ h9 => h9) (hI.fr 0 (Nat.le_of_ble_eq_true rfl) rfl (Nat.le_of_ble_eq_true rfl) 58 rfl) dX13_findingOf_125 ?_
              refine lv_iload hx hb dX13_findingOf_128 (lv_at hl 0 rfl) ?_
              have n56 : vp_in v42_9 256 := (iv_in (n := 256) i31 (by decide))
              refine th_iald hx hb hK hP hI 58 (Nat.le_of_ble_eq_true rfl) rfl rfl n56 dX13_findingOf_130 (fun y55 ey55 => ?_)
              have iy55 : 0 ≤ y55.toInt ∧ y55.toInt ≤ 7 := hI.el 58 (Nat.le_of_ble_eq_true rfl) rfl n56 (fun _ => rfl) ey55
              have ey55 := ey55.trans (hKp.ei 58 _ rfl)
              refine lv_iload hx hb dX13_findingOf_131 (lv_at hl 2 rfl) ?_
              refine th_pi (va_runS (As := [.int y55, .int y3]) (rest := [.int 104, .ref (ad 12)]) ⟨hx, hb, hml, hown, hts⟩ (q_onStarboard l y55 y3) (va_cwS 2 hts (gi_S (in_30 _ (zs16 (zs16 (zs4 (zs1 (zs1 (zs0))))))) (in_30 _ (zs16 (zs16 (zs4 (zs1 (zs1 (zs1 (zs0)))))))) (in_24 _ (zs4 (zs4 (zs4 (zs1 (zs1 (zs1 (zs0)))))))) (in_31 _ zs0)) rfl rfl rfl hz_yX13_onStarboard_2 ⟨Nat.le_of_ble_eq_true rfl, Nat.le_of_ble_eq_true rfl⟩) ⟨fun _ _ _ _ q => q, fun _ _ _ => ⟨rfl, trivial⟩⟩ rfl rfl hl.1 rfl (lv_room (Nat.le_of_ble_eq_true rfl)) dX13_findingOf_133 ⟨Nat.le_of_ble_eq_true rfl, Nat.le_of_ble_eq_true rfl⟩) hS (fun r57 H1 locs1 hw hk1 hS => ?_)
              have hP := ub_keep hP hk1
              generalize H1 = H at hP hS ⊢
              generalize locs1 = locs at hS ⊢
              have f58 := hw
              have n59 : vp_in (104 : Int32) 128 := (iv_in (n := 128) ln_104 (by decide))
              refine th_iast hx hb hK hP (WX_D hD) hS hI 12 (Nat.le_of_ble_eq_true rfl) rfl rfl n59 (okI rfl (iv_w f58 (by decide))) dX13_findingOf_136 (fun H locs E60 pw61 hI hP hS => ?_)
              have hKp := hKp.pw pw61 rfl
              refine lv_aload_n hx hb dX13_findingOf_137 rfl (lv_at hl 6 rfl) ?_
              refine th_get (ci := 14) (C := RX13) (T := TX13) (N := 97) (v := .ref (ad 12)) hx hb hts hinX13 hown hK hP hI 0 (Nat.le_of_ble_eq_true rfl) rfl rfl 15 (Nat.le_of_ble_eq_true rfl) (hts _ (vA_in _ _ (in_25 _ (zs16 (zs16 (zs4 (zs1 (zs0)))))))) (fun _ h9 => h9) (hI.fr 0 (Nat.le_of_ble_eq_true rfl) rfl (Nat.le_of_ble_eq_true rfl) 12 rfl) dX13_findingOf_138 ?_
              refine lv_bipush (v := 117) hx hb dX13_findingOf_141 (by decide) ?_
              refine lv_aload_n hx hb dX13_findingOf_143 rfl (lv_at hl 6 rfl) ?_
              refine th_get (ci := 14) (C := RX13) (T := TX13) (N := 97) (v := .ref (ad 56)) hx hb hts hinX13 hown hK hP hI 0 (Nat.le_of_ble_eq_true rfl) rfl rfl 76 (Nat.le_of_ble_eq_true rfl) (hts _ (vA_in _ _ (in_25 _ (zs16 (zs1 (zs0)))))) (fun _ h9 => h9) (hI.fr 0 (Nat.le_of_ble_eq_true rfl) rfl (Nat.le_of_ble_eq_true rfl) 56 rfl) dX13_findingOf_144 ?_
              refine lv_iload hx hb dX13_findingOf_147 (lv_at hl 1 rfl) ?_
              have n63 : vp_in v26_8 256 := (iv_in (n := 256) i22 (by decide))
              refine th_iald hx hb hK hP hI 56 (Nat.le_of_ble_eq_true rfl) rfl rfl n63 dX13_findingOf_149 (fun y62 ey62 => ?_)
              have iy62 : 0 ≤ y62.toInt ∧ y62.toInt ≤ 99 := hI.el 56 (Nat.le_of_ble_eq_true rfl) rfl n63 (fun _ => rfl) ey62
              have ey62 := ey62.trans (hKp.ei 56 _ rfl)
              refine lv_aload_n hx hb dX13_findingOf_150 rfl (lv_at hl 6 rfl) ?_
              refine th_get (ci := 14) (C := RX13) (T := TX13) (N := 97) (v := .ref (ad 56)) hx hb hts hinX13 hown hK hP hI 0 (Nat.le_of_ble_eq_true rfl) rfl rfl 76 (Nat.le_of_ble_eq_true rfl) (hts _ (vA_in _ _ (in_25 _ (zs16 (zs1 (zs0)))))) (fun _ h9 => h9) (hI.fr 0 (Nat.le_of_ble_eq_true rfl) rfl (Nat.le_of_ble_eq_true rfl) 56 rfl) dX13_findingOf_151 ?_
              refine lv_iload hx hb dX13_findingOf_154 (lv_at hl 0 rfl) ?_
              have n65 : vp_in v42_9 256 := (iv_in (n := 256) i31 (by decide))
              refine th_iald hx hb hK hP hI 56 (Nat.le_of_ble_eq_true rfl) rfl rfl n65 dX13_findingOf_156 (fun y64 ey64 => ?_)
              have iy64 : 0 ≤ y64.toInt ∧ y64.toInt ≤ 99 := hI.el 56 (Nat.le_of_ble_eq_true rfl) rfl n65 (fun _ => rfl) ey64
              have ey64 := ey64.trans (hKp.ei 56 _ rfl)
              refine lv_isub hx hb dX13_findingOf_157 ?_
              refine lv_topi (fun y66 ey66 => ?_)
              obtain ⟨ty66, iy66⟩ := ti_sub (e := (-99)) (f := 99) iy62 iy64 ey66 (by decide)
              have ty66 : y66.toInt = y62.toInt - y64.toInt := ty66
              have iy66 : -99 ≤ y66.toInt ∧ y66.toInt ≤ 99 := iy66
              refine lv_iload hx hb dX13_findingOf_158 (lv_at hl 2 rfl) ?_
              refine th_pi (va_runS (As := [.int y3]) (rest := [.int y66, .int 117, .ref (ad 12)]) ⟨hx, hb, hml, hown, hts⟩ (q_east l y3) (va_cwS 1 hts (gi_S (in_31 _ (zs4 (zs0))) (in_31 _ (zs4 (zs1 (zs0)))) (in_24 _ (zs4 (zs4 (zs4 (zs1 (zs1 (zs1 (zs0)))))))) (in_31 _ (zs4 (zs1 (zs1 (zs0)))))) rfl rfl rfl hz_yX13_east_1 ⟨Nat.le_of_ble_eq_true rfl, Nat.le_of_ble_eq_true rfl⟩) ⟨fun _ _ _ _ q => q, fun _ _ _ => ⟨rfl, trivial⟩⟩ rfl rfl hl.1 rfl (lv_room (Nat.le_of_ble_eq_true rfl)) dX13_findingOf_160 ⟨Nat.le_of_ble_eq_true rfl, Nat.le_of_ble_eq_true rfl⟩) hS (fun r67 H1 locs1 hw hk1 hS => ?_)
              have hP := ub_keep hP hk1
              generalize H1 = H at hP hS ⊢
              generalize locs1 = locs at hS ⊢
              refine lv_imul hx hb dX13_findingOf_163 ?_
              refine lv_topi (fun y68 ey68 => ?_)
              refine lv_aload_n hx hb dX13_findingOf_164 rfl (lv_at hl 6 rfl) ?_
              refine th_get (ci := 14) (C := RX13) (T := TX13) (N := 97) (v := .ref (ad 57)) hx hb hts hinX13 hown hK hP hI 0 (Nat.le_of_ble_eq_true rfl) rfl rfl 77 (Nat.le_of_ble_eq_true rfl) (hts _ (vA_in _ _ (in_25 _ (zs16 (zs1 (zs1 (zs0))))))) (fun _ h9 => h9) (hI.fr 0 (Nat.le_of_ble_eq_true rfl) rfl (Nat.le_of_ble_eq_true rfl) 57 rfl) dX13_findingOf_165 ?_
              refine lv_iload hx hb dX13_findingOf_168 (lv_at hl 1 rfl) ?_
              have n70 : vp_in v26_8 256 := (iv_in (n := 256) i22 (by decide))
              refine th_iald hx hb hK hP hI 57 (Nat.le_of_ble_eq_true rfl) rfl rfl n70 dX13_findingOf_170 (fun y69 ey69 => ?_)
              have iy69 : 0 ≤ y69.toInt ∧ y69.toInt ≤ 99 := hI.el 57 (Nat.le_of_ble_eq_true rfl) rfl n70 (fun _ => rfl) ey69
              have ey69 := ey69.trans (hKp.ei 57 _ rfl)
              refine lv_aload_n hx hb dX13_findingOf_171 rfl (lv_at hl 6 rfl) ?_
              refine th_get (ci := 14) (C := RX13) (T := TX13) (N := 97) (v := .ref (ad 57)) hx hb hts hinX13 hown hK hP hI 0 (Nat.le_of_ble_eq_true rfl) rfl rfl 77 (Nat.le_of_ble_eq_true rfl) (hts _ (vA_in _ _ (in_25 _ (zs16 (zs1 (zs1 (zs0))))))) (fun _ h9 => h9) (hI.fr 0 (Nat.le_of_ble_eq_true rfl) rfl (Nat.le_of_ble_eq_true rfl) 57 rfl) dX13_findingOf_172 ?_
              refine lv_iload hx hb dX13_findingOf_175 (lv_at hl 0 rfl) ?_
              have n72 : vp_in v42_9 256 := (iv_in (n := 256) i31 (by decide))
              refine th_iald hx hb hK hP hI 57 (Nat.le_of_ble_eq_true rfl) rfl rfl n72 dX13_findingOf_177 (fun y71 ey71 => ?_)
              have iy71 : 0 ≤ y71.toInt ∧ y71.toInt ≤ 99 := hI.el 57 (Nat.le_of_ble_eq_true rfl) rfl n72 (fun _ => rfl) ey71
              have ey71 := ey71.trans (hKp.ei 57 _ rfl)
              refine lv_isub hx hb dX13_findingOf_178 ?_
              refine lv_topi (fun y73 ey73 => ?_)
              obtain ⟨ty73, iy73⟩ := ti_sub (e := (-99)) (f := 99) iy69 iy71 ey73 (by decide)
              have ty73 : y73.toInt = y69.toInt - y71.toInt := ty73
              have iy73 : -99 ≤ y73.toInt ∧ y73.toInt ≤ 99 := iy73
              refine lv_iload hx hb dX13_findingOf_179 (lv_at hl 2 rfl) ?_
              refine th_pi (va_runS (As := [.int y3]) (rest := [.int y73, .int y68, .int 117, .ref (ad 12)]) ⟨hx, hb, hml, hown, hts⟩ (q_south l y3) (va_cwS 1 hts (gi_S (in_31 _ (zs4 (zs1 (zs1 (zs1 (zs0)))))) (in_31 _ (zs4 (zs4 (zs0)))) (in_24 _ (zs4 (zs4 (zs4 (zs1 (zs1 (zs1 (zs0)))))))) (in_31 _ (zs4 (zs4 (zs1 (zs0)))))) rfl rfl rfl hz_yX13_south_1 ⟨Nat.le_of_ble_eq_true rfl, Nat.le_of_ble_eq_true rfl⟩) ⟨fun _ _ _ _ q => q, fun _ _ _ => ⟨rfl, trivial⟩⟩ rfl rfl hl.1 rfl (lv_room (Nat.le_of_ble_eq_true rfl)) dX13_findingOf_181 ⟨Nat.le_of_ble_eq_true rfl, Nat.le_of_ble_eq_true rfl⟩) hS (fun r74 H1 locs1 hw hk1 hS => ?_)
              have hP := ub_keep hP hk1
              generalize H1 = H at hP hS ⊢
              generalize locs1 = locs at hS ⊢
              refine lv_imul hx hb dX13_findingOf_184 ?_
              refine lv_topi (fun y75 ey75 => ?_)
              refine lv_iadd hx hb dX13_findingOf_185 ?_
              refine lv_topi (fun y76 ey76 => ?_)
              have hJ194 : ∀ (s194_0 : Int32) (H : Heap) (locs : List Loc) (ls : Array Slot), 0 ≤ s194_0.toInt ∧ s194_0.toInt ≤ 1 → va_P (dC, dI) vwCl (WX 72 ad E60) H → va_S A s.heap H locs → lv_has ls 10 [(9, .int v42_9), (8, .int v26_8), (7, .int y3), (6, .int v42_6), (5, .int v42_5), (4, .int y1), (0, .ref (ad 0)), (1, .int a0), (2, .int a1), (3, .int a2)] → W p l e (headSpec v_findingOf rm_findingOf).room s m args below meth c H locs 0 0 Q (F0 m 194 ls [.int s194_0, .int 117, .ref (ad 12)]) := by
                intro s194_0 H locs ls hs194_0 hP hS hl
                have n77 : vp_in (117 : Int32) 128 := (iv_in (n := 128) ln_117 (by decide))
                refine th_iast hx hb hK hP (WX_D hD) hS hI 12 (Nat.le_of_ble_eq_true rfl) rfl rfl n77 (okI rfl (iv_w hs194_0 (by decide))) dX13_findingOf_194 (fun H locs E78 pw79 hI hP hS => ?_)
                have hKp := hKp.pw pw79 rfl
                refine lv_aload_n hx hb dX13_findingOf_195 rfl (lv_at hl 6 rfl) ?_
                refine th_get (ci := 14) (C := RX13) (T := TX13) (N := 97) (v := .ref (ad 12)) hx hb hts hinX13 hown hK hP hI 0 (Nat.le_of_ble_eq_true rfl) rfl rfl 15 (Nat.le_of_ble_eq_true rfl) (hts _ (vA_in _ _ (in_25 _ (zs16 (zs16 (zs4 (zs1 (zs0)))))))) (fun _ h9 => h9) (hI.fr 0 (Nat.le_of_ble_eq_true rfl) rfl (Nat.le_of_ble_eq_true rfl) 12 rfl) dX13_findingOf_196 ?_
                refine lv_bipush (v := 109) hx hb dX13_findingOf_199 (by decide) ?_
                refine lv_aload_n hx hb dX13_findingOf_201 rfl (lv_at hl 6 rfl) ?_
                refine th_get (ci := 14) (C := RX13) (T := TX13) (N := 97) (v := .ref (ad 56)) hx hb hts hinX13 hown hK hP hI 0 (Nat.le_of_ble_eq_true rfl) rfl rfl 76 (Nat.le_of_ble_eq_true rfl) (hts _ (vA_in _ _ (in_25 _ (zs16 (zs1 (zs0)))))) (fun _ h9 => h9) (hI.fr 0 (Nat.le_of_ble_eq_true rfl) rfl (Nat.le_of_ble_eq_true rfl) 56 rfl) dX13_findingOf_202 ?_
                refine lv_iload hx hb dX13_findingOf_205 (lv_at hl 1 rfl) ?_
                have n81 : vp_in v26_8 256 := (iv_in (n := 256) i22 (by decide))
                refine th_iald hx hb hK hP hI 56 (Nat.le_of_ble_eq_true rfl) rfl rfl n81 dX13_findingOf_207 (fun y80 ey80 => ?_)
                have iy80 : 0 ≤ y80.toInt ∧ y80.toInt ≤ 99 := hI.el 56 (Nat.le_of_ble_eq_true rfl) rfl n81 (fun _ => rfl) ey80
                have ey80 := ey80.trans (hKp.ei 56 _ rfl)
                refine lv_aload_n hx hb dX13_findingOf_208 rfl (lv_at hl 6 rfl) ?_
                refine th_get (ci := 14) (C := RX13) (T := TX13) (N := 97) (v := .ref (ad 57)) hx hb hts hinX13 hown hK hP hI 0 (Nat.le_of_ble_eq_true rfl) rfl rfl 77 (Nat.le_of_ble_eq_true rfl) (hts _ (vA_in _ _ (in_25 _ (zs16 (zs1 (zs1 (zs0))))))) (fun _ h9 => h9) (hI.fr 0 (Nat.le_of_ble_eq_true rfl) rfl (Nat.le_of_ble_eq_true rfl) 57 rfl) dX13_findingOf_209 ?_
                refine lv_iload hx hb dX13_findingOf_212 (lv_at hl 1 rfl) ?_
                have n83 : vp_in v26_8 256 := (iv_in (n := 256) i22 (by decide))
                refine th_iald hx hb hK hP hI 57 (Nat.le_of_ble_eq_true rfl) rfl rfl n83 dX13_findingOf_214 (fun y82 ey82 => ?_)
                have iy82 : 0 ≤ y82.toInt ∧ y82.toInt ≤ 99 := hI.el 57 (Nat.le_of_ble_eq_true rfl) rfl n83 (fun _ => rfl) ey82
                have ey82 := ey82.trans (hKp.ei 57 _ rfl)
                refine lv_aload_n hx hb dX13_findingOf_215 rfl (lv_at hl 6 rfl) ?_
                refine th_get (ci := 14) (C := RX13) (T := TX13) (N := 97) (v := .ref (ad 17)) hx hb hts hinX13 hown hK hP hI 0 (Nat.le_of_ble_eq_true rfl) rfl rfl 31 (Nat.le_of_ble_eq_true rfl) (hts _ (vA_in _ _ (in_30 _ (zs16 (zs16 (zs1 (zs0))))))) (fun _ h9 => h9) (hI.fr 0 (Nat.le_of_ble_eq_true rfl) rfl (Nat.le_of_ble_eq_true rfl) 17 rfl) dX13_findingOf_216 ?_
                refine lv_iload hx hb dX13_findingOf_219 (lv_at hl 5 rfl) ?_
                have n85 : vp_in y1 20 := (iv_in (n := 20) iy1 (by decide))
                refine th_iald hx hb hK hP hI 17 (Nat.le_of_ble_eq_true rfl) rfl rfl n85 dX13_findingOf_221 (fun y84 ey84 => ?_)
                have iy84 : 0 ≤ y84.toInt ∧ y84.toInt ≤ 99 := hI.el 17 (Nat.le_of_ble_eq_true rfl) rfl n85 (fun _ => rfl) ey84
                have ey84 := ey84.trans (hKp.ei 17 _ rfl)
                refine lv_aload_n hx hb dX13_findingOf_222 rfl (lv_at hl 6 rfl) ?_
                refine th_get (ci := 14) (C := RX13) (T := TX13) (N := 97) (v := .ref (ad 18)) hx hb hts hinX13 hown hK hP hI 0 (Nat.le_of_ble_eq_true rfl) rfl rfl 32 (Nat.le_of_ble_eq_true rfl) (hts _ (vA_in _ _ (in_30 _ (zs16 (zs16 (zs1 (zs1 (zs0)))))))) (fun _ h9 => h9) (hI.fr 0 (Nat.le_of_ble_eq_true rfl) rfl (Nat.le_of_ble_eq_true rfl) 18 rfl) dX13_findingOf_223 ?_
                refine lv_iload hx hb dX13_findingOf_226 (lv_at hl 5 rfl) ?_
                have n87 : vp_in y1 20 := (iv_in (n := 20) iy1 (by decide))
                refine th_iald hx hb hK hP hI 18 (Nat.le_of_ble_eq_true rfl) rfl rfl n87 dX13_findingOf_228 (fun y86 ey86 => ?_)
                have iy86 : 0 ≤ y86.toInt ∧ y86.toInt ≤ 99 := hI.el 18 (Nat.le_of_ble_eq_true rfl) rfl n87 (fun _ => rfl) ey86
                have ey86 := ey86.trans (hKp.ei 18 _ rfl)
                refine th_pi (va_runS (As := [.int y80, .int y82, .int y84, .int y86]) (rest := [.int 109, .ref (ad 12)]) ⟨hx, hb, hml, hown, hts⟩ (q_far l y80 y82 y84 y86) (va_cwS 4 hts (gi_S (in_30 _ (zs16 (zs16 (zs1 (zs1 (zs1 (zs0))))))) (in_30 _ (zs16 (zs16 (zs4 (zs0))))) (in_24 _ (zs4 (zs4 (zs4 (zs1 (zs1 (zs1 (zs0)))))))) (in_30 _ (zs16 (zs16 (zs4 (zs1 (zs0))))))) rfl rfl rfl hz_yX13_far_4 ⟨Nat.le_of_ble_eq_true rfl, Nat.le_of_ble_eq_true rfl⟩) ⟨fun _ _ _ _ q => q, fun _ _ _ => ⟨rfl, trivial⟩⟩ rfl rfl hl.1 rfl (lv_room (Nat.le_of_ble_eq_true rfl)) dX13_findingOf_229 ⟨Nat.le_of_ble_eq_true rfl, Nat.le_of_ble_eq_true rfl⟩) hS (fun r88 H1 locs1 hw hk1 hS => ?_)
                have hP := ub_keep hP hk1
                generalize H1 = H at hP hS ⊢
                generalize locs1 = locs at hS ⊢
                have n89 : vp_in (109 : Int32) 128 := (iv_in (n := 128) ln_109 (by decide))
                refine th_iast hx hb hK hP (WX_D hD) hS hI 12 (Nat.le_of_ble_eq_true rfl) rfl rfl n89 (okI rfl (iv_all _)) dX13_findingOf_232 (fun H locs E90 pw91 hI hP hS => ?_)
                have hKp := hKp.pw pw91 rfl
                refine lv_aload_n hx hb dX13_findingOf_233 rfl (lv_at hl 6 rfl) ?_
                refine th_get (ci := 14) (C := RX13) (T := TX13) (N := 97) (v := .ref (ad 12)) hx hb hts hinX13 hown hK hP hI 0 (Nat.le_of_ble_eq_true rfl) rfl rfl 15 (Nat.le_of_ble_eq_true rfl) (hts _ (vA_in _ _ (in_25 _ (zs16 (zs16 (zs4 (zs1 (zs0)))))))) (fun _ h9 => h9) (hI.fr 0 (Nat.le_of_ble_eq_true rfl) rfl (Nat.le_of_ble_eq_true rfl) 12 rfl) dX13_findingOf_234 ?_
                refine lv_bipush (v := 107) hx hb dX13_findingOf_237 (by decide) ?_
                refine lv_aload_n hx hb dX13_findingOf_239 rfl (lv_at hl 6 rfl) ?_
                refine th_get (ci := 14) (C := RX13) (T := TX13) (N := 97) (v := .ref (ad 56)) hx hb hts hinX13 hown hK hP hI 0 (Nat.le_of_ble_eq_true rfl) rfl rfl 76 (Nat.le_of_ble_eq_true rfl) (hts _ (vA_in _ _ (in_25 _ (zs16 (zs1 (zs0)))))) (fun _ h9 => h9) (hI.fr 0 (Nat.le_of_ble_eq_true rfl) rfl (Nat.le_of_ble_eq_true rfl) 56 rfl) dX13_findingOf_240 ?_
                refine lv_iload hx hb dX13_findingOf_243 (lv_at hl 0 rfl) ?_
                have n93 : vp_in v42_9 256 := (iv_in (n := 256) i31 (by decide))
                refine th_iald hx hb hK hP hI 56 (Nat.le_of_ble_eq_true rfl) rfl rfl n93 dX13_findingOf_245 (fun y92 ey92 => ?_)
                have iy92 : 0 ≤ y92.toInt ∧ y92.toInt ≤ 99 := hI.el 56 (Nat.le_of_ble_eq_true rfl) rfl n93 (fun _ => rfl) ey92
                have ey92 := ey92.trans (hKp.ei 56 _ rfl)
                refine lv_aload_n hx hb dX13_findingOf_246 rfl (lv_at hl 6 rfl) ?_
                refine th_get (ci := 14) (C := RX13) (T := TX13) (N := 97) (v := .ref (ad 57)) hx hb hts hinX13 hown hK hP hI 0 (Nat.le_of_ble_eq_true rfl) rfl rfl 77 (Nat.le_of_ble_eq_true rfl) (hts _ (vA_in _ _ (in_25 _ (zs16 (zs1 (zs1 (zs0))))))) (fun _ h9 => h9) (hI.fr 0 (Nat.le_of_ble_eq_true rfl) rfl (Nat.le_of_ble_eq_true rfl) 57 rfl) dX13_findingOf_247 ?_
                refine lv_iload hx hb dX13_findingOf_250 (lv_at hl 0 rfl) ?_
                have n95 : vp_in v42_9 256 := (iv_in (n := 256) i31 (by decide))
                refine th_iald hx hb hK hP hI 57 (Nat.le_of_ble_eq_true rfl) rfl rfl n95 dX13_findingOf_252 (fun y94 ey94 => ?_)
                have iy94 : 0 ≤ y94.toInt ∧ y94.toInt ≤ 99 := hI.el 57 (Nat.le_of_ble_eq_true rfl) rfl n95 (fun _ => rfl) ey94
                have ey94 := ey94.trans (hKp.ei 57 _ rfl)
                refine lv_aload_n hx hb dX13_findingOf_253 rfl (lv_at hl 6 rfl) ?_
                refine th_get (ci := 14) (C := RX13) (T := TX13) (N := 97) (v := .ref (ad 17)) hx hb hts hinX13 hown hK hP hI 0 (Nat.le_of_ble_eq_true rfl) rfl rfl 31 (Nat.le_of_ble_eq_true rfl) (hts _ (vA_in _ _ (in_30 _ (zs16 (zs16 (zs1 (zs0))))))) (fun _ h9 => h9) (hI.fr 0 (Nat.le_of_ble_eq_true rfl) rfl (Nat.le_of_ble_eq_true rfl) 17 rfl) dX13_findingOf_254 ?_
                refine lv_iload hx hb dX13_findingOf_257 (lv_at hl 5 rfl) ?_
                have n97 : vp_in y1 20 := (iv_in (n := 20) iy1 (by decide))
                refine th_iald hx hb hK hP hI 17 (Nat.le_of_ble_eq_true rfl) rfl rfl n97 dX13_findingOf_259 (fun y96 ey96 => ?_)
                have iy96 : 0 ≤ y96.toInt ∧ y96.toInt ≤ 99 := hI.el 17 (Nat.le_of_ble_eq_true rfl) rfl n97 (fun _ => rfl) ey96
                have ey96 := ey96.trans (hKp.ei 17 _ rfl)
                refine lv_aload_n hx hb dX13_findingOf_260 rfl (lv_at hl 6 rfl) ?_
                refine th_get (ci := 14) (C := RX13) (T := TX13) (N := 97) (v := .ref (ad 18)) hx hb hts hinX13 hown hK hP hI 0 (Nat.le_of_ble_eq_true rfl) rfl rfl 32 (Nat.le_of_ble_eq_true rfl) (hts _ (vA_in _ _ (in_30 _ (zs16 (zs16 (zs1 (zs1 (zs0)))))))) (fun _ h9 => h9) (hI.fr 0 (Nat.le_of_ble_eq_true rfl) rfl (Nat.le_of_ble_eq_true rfl) 18 rfl) dX13_findingOf_261 ?_
                refine lv_iload hx hb dX13_findingOf_264 (lv_at hl 5 rfl) ?_
                have n99 : vp_in y1 20 := (iv_in (n := 20) iy1 (by decide))
                refine th_iald hx hb hK hP hI 18 (Nat.le_of_ble_eq_true rfl) rfl rfl n99 dX13_findingOf_266 (fun y98 ey98 => ?_)
                have iy98 : 0 ≤ y98.toInt ∧ y98.toInt ≤ 99 := hI.el 18 (Nat.le_of_ble_eq_true rfl) rfl n99 (fun _ => rfl) ey98
                have ey98 := ey98.trans (hKp.ei 18 _ rfl)
                refine th_pi (va_runS (As := [.int y92, .int y94, .int y96, .int y98]) (rest := [.int 107, .ref (ad 12)]) ⟨hx, hb, hml, hown, hts⟩ (q_far l y92 y94 y96 y98) (va_cwS 4 hts (gi_S (in_30 _ (zs16 (zs16 (zs1 (zs1 (zs1 (zs0))))))) (in_30 _ (zs16 (zs16 (zs4 (zs0))))) (in_24 _ (zs4 (zs4 (zs4 (zs1 (zs1 (zs1 (zs0)))))))) (in_30 _ (zs16 (zs16 (zs4 (zs1 (zs0))))))) rfl rfl rfl hz_yX13_far_4 ⟨Nat.le_of_ble_eq_true rfl, Nat.le_of_ble_eq_true rfl⟩) ⟨fun _ _ _ _ q => q, fun _ _ _ => ⟨rfl, trivial⟩⟩ rfl rfl hl.1 rfl (lv_room (Nat.le_of_ble_eq_true rfl)) dX13_findingOf_267 ⟨Nat.le_of_ble_eq_true rfl, Nat.le_of_ble_eq_true rfl⟩) hS (fun r100 H1 locs1 hw hk1 hS => ?_)
                have hP := ub_keep hP hk1
                generalize H1 = H at hP hS ⊢
                generalize locs1 = locs at hS ⊢
                have n101 : vp_in (107 : Int32) 128 := (iv_in (n := 128) ln_107 (by decide))
                refine th_iast hx hb hK hP (WX_D hD) hS hI 12 (Nat.le_of_ble_eq_true rfl) rfl rfl n101 (okI rfl (iv_all _)) dX13_findingOf_270 (fun H locs E102 pw103 hI hP hS => ?_)
                have hKp := hKp.pw pw103 rfl
                refine lv_aload_n hx hb dX13_findingOf_271 rfl (lv_at hl 6 rfl) ?_
                refine th_get (ci := 14) (C := RX13) (T := TX13) (N := 97) (v := .ref (ad 12)) hx hb hts hinX13 hown hK hP hI 0 (Nat.le_of_ble_eq_true rfl) rfl rfl 15 (Nat.le_of_ble_eq_true rfl) (hts _ (vA_in _ _ (in_25 _ (zs16 (zs16 (zs4 (zs1 (zs0)))))))) (fun _ h9 => h9) (hI.fr 0 (Nat.le_of_ble_eq_true rfl) rfl (Nat.le_of_ble_eq_true rfl) 12 rfl) dX13_findingOf_272 ?_
                refine lv_bipush (v := 111) hx hb dX13_findingOf_275 (by decide) ?_
                refine lv_aload_n hx hb dX13_findingOf_277 rfl (lv_at hl 6 rfl) ?_
                refine th_get (ci := 14) (C := RX13) (T := TX13) (N := 97) (v := .ref (ad 58)) hx hb hts hinX13 hown hK hP hI 0 (Nat.le_of_ble_eq_true rfl) rfl rfl 78 (Nat.le_of_ble_eq_true rfl) (hts _ (vA_in _ _ (in_25 _ (zs16 (zs1 (zs1 (zs1 (zs0)))))))) (fun _ h9 => h9) (hI.fr 0 (Nat.le_of_ble_eq_true rfl) rfl (Nat.le_of_ble_eq_true rfl) 58 rfl) dX13_findingOf_278 ?_
                refine lv_iload hx hb dX13_findingOf_281 (lv_at hl 1 rfl) ?_
                have n105 : vp_in v26_8 256 := (iv_in (n := 256) i22 (by decide))
                refine th_iald hx hb hK hP hI 58 (Nat.le_of_ble_eq_true rfl) rfl rfl n105 dX13_findingOf_283 (fun y104 ey104 => ?_)
                have iy104 : 0 ≤ y104.toInt ∧ y104.toInt ≤ 7 := hI.el 58 (Nat.le_of_ble_eq_true rfl) rfl n105 (fun _ => rfl) ey104
                have ey104 := ey104.trans (hKp.ei 58 _ rfl)
                refine lv_aload_n hx hb dX13_findingOf_284 rfl (lv_at hl 6 rfl) ?_
                refine th_get (ci := 14) (C := RX13) (T := TX13) (N := 97) (v := .ref (ad 58)) hx hb hts hinX13 hown hK hP hI 0 (Nat.le_of_ble_eq_true rfl) rfl rfl 78 (Nat.le_of_ble_eq_true rfl) (hts _ (vA_in _ _ (in_25 _ (zs16 (zs1 (zs1 (zs1 (zs0)))))))) (fun _ h9 => h9) (hI.fr 0 (Nat.le_of_ble_eq_true rfl) rfl (Nat.le_of_ble_eq_true rfl) 58 rfl) dX13_findingOf_285 ?_
                refine lv_iload hx hb dX13_findingOf_288 (lv_at hl 0 rfl) ?_
                have n107 : vp_in v42_9 256 := (iv_in (n := 256) i31 (by decide))
                refine th_iald hx hb hK hP hI 58 (Nat.le_of_ble_eq_true rfl) rfl rfl n107 dX13_findingOf_290 (fun y106 ey106 => ?_)
                have iy106 : 0 ≤ y106.toInt ∧ y106.toInt ≤ 7 := hI.el 58 (Nat.le_of_ble_eq_true rfl) rfl n107 (fun _ => rfl) ey106
                have ey106 := ey106.trans (hKp.ei 58 _ rfl)
                have hJ299 : ∀ (s299_0 : Int32) (H : Heap) (locs : List Loc) (ls : Array Slot), 0 ≤ s299_0.toInt ∧ s299_0.toInt ≤ 1 → va_P (dC, dI) vwCl (WX 72 ad E102) H → va_S A s.heap H locs → lv_has ls 10 [(9, .int v42_9), (8, .int v26_8), (7, .int y3), (6, .int v42_6), (5, .int v42_5), (4, .int y1), (0, .ref (ad 0)), (1, .int a0), (2, .int a1), (3, .int a2)] → W p l e (headSpec v_findingOf rm_findingOf).room s m args below meth c H locs 0 0 Q (F0 m 299 ls [.int s299_0, .int 111, .ref (ad 12)]) := by
                  intro s299_0 H locs ls hs299_0 hP hS hl
                  have n108 : vp_in (111 : Int32) 128 := (iv_in (n := 128) ln_111 (by decide))
                  refine th_iast hx hb hK hP (WX_D hD) hS hI 12 (Nat.le_of_ble_eq_true rfl) rfl rfl n108 (okI rfl (iv_w hs299_0 (by decide))) dX13_findingOf_299 (fun H locs E109 pw110 hI hP hS => ?_)
                  have hKp := hKp.pw pw110 rfl
                  obtain ⟨y111, ey111⟩ : ∃ y : Int32, y = v42_5 + (1 : Int32) := ⟨_, rfl⟩
                  refine lv_iinc (v := y111) (lv' := [(5, .int y111), (9, .int v42_9), (8, .int v26_8), (7, .int y3), (6, .int v42_6), (4, .int y1), (0, .ref (ad 0)), (1, .int a0), (2, .int a1), (3, .int a2)]) hx hb dX13_findingOf_300 hl (k := 4) rfl (by rw [ey111]; rfl) (by decide) rfl (fun ls hl => ?_)
                  refine lv_iload hx hb dX13_findingOf_303 (lv_at hl 4 rfl) ?_
                  refine lv_aload_n hx hb dX13_findingOf_305 rfl (lv_at hl 6 rfl) ?_
                  refine lv_iload_n hx hb dX13_findingOf_306 rfl (lv_at hl 8 rfl) ?_
                  have hJ317 : ∀ (s317_0 : Int32) (H : Heap) (locs : List Loc) (ls : Array Slot), 97 ≤ s317_0.toInt ∧ s317_0.toInt ≤ 98 → va_P (dC, dI) vwCl (WX 72 ad E109) H → va_S A s.heap H locs → lv_has ls 10 [(5, .int y111), (9, .int v42_9), (8, .int v26_8), (7, .int y3), (6, .int v42_6), (4, .int y1), (0, .ref (ad 0)), (1, .int a0), (2, .int a1), (3, .int a2)] → W p l e (headSpec v_findingOf rm_findingOf).room s m args below meth c H locs 0 0 Q (F0 m 317 ls [.int s317_0, .ref (ad 0), .int v42_6]) := by
                    intro s317_0 H locs ls hs317_0 hP hS hl
                    refine lv_aload_n hx hb dX13_findingOf_317 rfl (lv_at hl 6 rfl) ?_
                    refine th_get (ci := 14) (C := RX13) (T := TX13) (N := 97) (v := .ref (ad 13)) hx hb hts hinX13 hown hK hP hI 0 (Nat.le_of_ble_eq_true rfl) rfl rfl 27 (Nat.le_of_ble_eq_true rfl) (hts _ (vA_in _ _ (in_27 _ (zs16 (zs16 (zs0)))))) (fun _ h9 => h9) (hI.fr 0 (Nat.le_of_ble_eq_true rfl) rfl (Nat.le_of_ble_eq_true rfl) 13 rfl) dX13_findingOf_318 ?_
                    refine lv_iload hx hb dX13_findingOf_321 (lv_at hl 5 rfl) ?_
                    have n113 : vp_in y1 20 := (iv_in (n := 20) iy1 (by decide))
                    refine th_iald hx hb hK hP hI 13 (Nat.le_of_ble_eq_true rfl) rfl rfl n113 dX13_findingOf_323 (fun y112 ey112 => ?_)
                    have iy112 : 0 ≤ y112.toInt ∧ y112.toInt ≤ 400 := hI.el 13 (Nat.le_of_ble_eq_true rfl) rfl n113 (fun _ => rfl) ey112
                    have ey112 := ey112.trans (hKp.ei 13 _ rfl)
                    refine lv_iload_n hx hb dX13_findingOf_324 rfl (lv_at hl 9 rfl) ?_
                    refine th_i (va_runV (As := [.int s317_0, .int y112, .int a2]) (rest := [.int v42_6]) ⟨hx, hb, hml, hown, hts⟩ (q_worth l dC dI cT ad E109 H.size s317_0 y112 a2 hI (iv_w hs317_0 (by decide))) (cwV 3 hts (gi_V (in_28 _ (zs16 (zs16 (zs1 (zs1 (zs0)))))) (in_28 _ (zs16 (zs16 (zs1 (zs1 (zs1 (zs0))))))) (in_28 _ (zs16 (zs16 (zs4 (zs0))))) (in_24 _ (zs4 (zs4 (zs4 (zs1 (zs1 (zs1 (zs0)))))))) (in_28 _ (zs16 (zs16 (zs4 (zs1 (zs0))))))) rfl rfl rfl ⟨rfl, hz_yX13_worth_3⟩ ⟨Nat.le_of_ble_eq_true rfl, Nat.le_of_ble_eq_true rfl⟩) ⟨HW_bl, va_recv hK hP (ci := 14) (q0 := 0) rfl (hI.ob 0 (Nat.le_of_ble_eq_true rfl) rfl), (HW_wi hP hK (WX_D hD) hS hA hEV)⟩ rfl rfl hl.1 rfl (lv_room (Nat.le_of_ble_eq_true rfl)) dX13_findingOf_325 ⟨Nat.le_of_ble_eq_true rfl, Nat.le_of_ble_eq_true rfl⟩) (WX_D hD) hS hA (fun r114 E115 H locs hw hP hS => ?_)
                    obtain ⟨hI, kq116, hw⟩ := hw
                    have hKb := hKp
                    have hKp := hKp.tr kq116 (wl_sub rfl rfl)
                    refine lv_if_eq (tgt := 335) hx hb dX13_findingOf_328 (by decide) (fun c117 => ?_) (fun c117 => ?_)
                    · --328 taken
                      have t118 : r114.toInt = 0 := ti_eq c117
                      have i119 : 0 ≤ r114.toInt ∧ r114.toInt ≤ 0 := iv_eqi t118 (iv_all _) (il_ 0) (by decide)
                      refine lv_iconst (v := 0) hx hb dX13_findingOf_335 (by decide) ?_
                      refine lv_iadd hx hb dX13_findingOf_336 ?_
                      refine lv_topi (fun y120 ey120 => ?_)
                      obtain ⟨ty120, iy120⟩ := ti_add (e := (-2147483648)) (f := 2147483647) (iv_all _) ln_0 ey120 (by decide)
                      have ty120 : y120.toInt = v42_6.toInt + 0 := ty120
                      have iy120 : -2147483648 ≤ y120.toInt ∧ y120.toInt ≤ 2147483647 := iy120
                      refine lv_istore (lv' := [(6, .int y120), (5, .int y111), (9, .int v42_9), (8, .int v26_8), (7, .int y3), (4, .int y1), (0, .ref (ad 0)), (1, .int a0), (2, .int a1), (3, .int a2)]) hx hb dX13_findingOf_337 hl (by decide) rfl (fun ls hl => ?_)
                      obtain ⟨y121, ey121⟩ : ∃ y : Int32, y = v42_9 + (1 : Int32) := ⟨_, rfl⟩
                      obtain ⟨ty121, iy121⟩ := ti_add (e := 129) (f := 256) i31 ln_1 ey121 (by decide)
                      have ty121 : y121.toInt = v42_9.toInt + 1 := ty121
                      have iy121 : 129 ≤ y121.toInt ∧ y121.toInt ≤ 256 := iy121
                      refine lv_iinc (v := y121) (lv' := [(9, .int y121), (6, .int y120), (5, .int y111), (8, .int v26_8), (7, .int y3), (4, .int y1), (0, .ref (ad 0)), (1, .int a0), (2, .int a1), (3, .int a2)]) hx hb dX13_findingOf_339 hl (k := 2) rfl (by rw [ey121]; rfl) (by decide) rfl (fun ls hl => ?_)
                      refine lv_goto (tgt := 42) hx hb dX13_findingOf_342 (by decide) ?_
                      exact ih42 y121 y120 y111 E115 _ _ _ (iv_w iy121 (by decide)) (by first | exact ms_su hx42_0 ty121 (by decide) | omega) hI hKp hP hS (lv_sub hl [0, 3, 4, 1, 2, 5, 6, 7, 8, 9] rfl)
                    · --328 not
                      have t122 : ¬ r114.toInt = 0 := ti_ne c117
                      refine lv_iconst (v := 1) hx hb dX13_findingOf_331 (by decide) ?_
                      refine lv_goto (tgt := 336) hx hb dX13_findingOf_332 (by decide) ?_
                      refine lv_iadd hx hb dX13_findingOf_336 ?_
                      refine lv_topi (fun y123 ey123 => ?_)
                      refine lv_istore (lv' := [(6, .int y123), (5, .int y111), (9, .int v42_9), (8, .int v26_8), (7, .int y3), (4, .int y1), (0, .ref (ad 0)), (1, .int a0), (2, .int a1), (3, .int a2)]) hx hb dX13_findingOf_337 hl (by decide) rfl (fun ls hl => ?_)
                      obtain ⟨y124, ey124⟩ : ∃ y : Int32, y = v42_9 + (1 : Int32) := ⟨_, rfl⟩
                      obtain ⟨ty124, iy124⟩ := ti_add (e := 129) (f := 256) i31 ln_1 ey124 (by decide)
                      have ty124 : y124.toInt = v42_9.toInt + 1 := ty124
                      have iy124 : 129 ≤ y124.toInt ∧ y124.toInt ≤ 256 := iy124
                      refine lv_iinc (v := y124) (lv' := [(9, .int y124), (6, .int y123), (5, .int y111), (8, .int v26_8), (7, .int y3), (4, .int y1), (0, .ref (ad 0)), (1, .int a0), (2, .int a1), (3, .int a2)]) hx hb dX13_findingOf_339 hl (k := 2) rfl (by rw [ey124]; rfl) (by decide) rfl (fun ls hl => ?_)
                      refine lv_goto (tgt := 42) hx hb dX13_findingOf_342 (by decide) ?_
                      exact ih42 y124 y123 y111 E115 _ _ _ (iv_w iy124 (by decide)) (by first | exact ms_su hx42_0 ty124 (by decide) | omega) hI hKp hP hS (lv_sub hl [0, 3, 4, 1, 2, 5, 6, 7, 8, 9] rfl)
                  refine lv_if_ne (tgt := 315) hx hb dX13_findingOf_307 (by decide) (fun c125 => ?_) (fun c125 => ?_)
                  · --307 taken
                    have t126 : ¬ a1.toInt = 0 := ti_ne c125
                    refine lv_bipush (v := 98) hx hb dX13_findingOf_315 (by decide) ?_
                    exact hJ317 (98 : Int32) _ _ _ (iv_w ln_98 (by decide)) hP hS (lv_sub hl [0, 1, 2, 3, 4, 5, 6, 7, 8, 9] rfl)
                  · --307 not
                    have t127 : a1.toInt = 0 := ti_eq c125
                    have i128 : 0 ≤ a1.toInt ∧ a1.toInt ≤ 0 := iv_eqi t127 (iv_all _) (il_ 0) (by decide)
                    refine lv_bipush (v := 97) hx hb dX13_findingOf_310 (by decide) ?_
                    refine lv_goto (tgt := 317) hx hb dX13_findingOf_312 (by decide) ?_
                    exact hJ317 (97 : Int32) _ _ _ (iv_w ln_97 (by decide)) hP hS (lv_sub hl [0, 1, 2, 3, 4, 5, 6, 7, 8, 9] rfl)
                refine lv_icmp_ne (tgt := 298) hx hb dX13_findingOf_291 (by decide) (fun c129 => ?_) (fun c129 => ?_)
                · --291 taken
                  have t130 : ¬ y104.toInt = y106.toInt := ti_ne c129
                  refine lv_iconst (v := 0) hx hb dX13_findingOf_298 (by decide) ?_
                  exact hJ299 (0 : Int32) _ _ _ (iv_w ln_0 (by decide)) hP hS (lv_sub hl [0, 1, 2, 3, 4, 5, 6, 7, 8, 9] rfl)
                · --291 not
                  have t131 : y104.toInt = y106.toInt := ti_eq c129
                  refine lv_iconst (v := 1) hx hb dX13_findingOf_294 (by decide) ?_
                  refine lv_goto (tgt := 299) hx hb dX13_findingOf_295 (by decide) ?_
                  exact hJ299 (1 : Int32) _ _ _ (iv_w ln_1 (by decide)) hP hS (lv_sub hl [0, 1, 2, 3, 4, 5, 6, 7, 8, 9] rfl)
              refine lv_if_le (tgt := 193) hx hb dX13_findingOf_186 (by decide) (fun c132 => ?_) (fun c132 => ?_)
              · --186 taken
                have t133 : y76.toInt ≤ 0 := ti_le c132
                have i134 : -2147483648 ≤ y76.toInt ∧ y76.toInt ≤ 0 := iv_le_l t133 (iv_all _) (il_ 0) (by decide)
                refine lv_iconst (v := 0) hx hb dX13_findingOf_193 (by decide) ?_
                exact hJ194 (0 : Int32) _ _ _ (iv_w ln_0 (by decide)) hP hS (lv_sub hl [0, 1, 2, 3, 4, 5, 6, 7, 8, 9] rfl)
              · --186 not
                have t135 : (0 : Int) < y76.toInt := ti_nle c132
                have i136 : 1 ≤ y76.toInt ∧ y76.toInt ≤ 2147483647 := iv_lt_r t135 (il_ 0) (iv_all _) (by decide)
                refine lv_iconst (v := 1) hx hb dX13_findingOf_189 (by decide) ?_
                refine lv_goto (tgt := 194) hx hb dX13_findingOf_190 (by decide) ?_
                exact hJ194 (1 : Int32) _ _ _ (iv_w ln_1 (by decide)) hP hS (lv_sub hl [0, 1, 2, 3, 4, 5, 6, 7, 8, 9] rfl)
        exact hL42 (129) (128 : Int32) v26_6 v26_5 E26_ _ _ _ (iv_w ln_128 (by decide)) (by have h9 := ln_128; first | exact ms_bu h9.1 (by decide) | omega) hI hKp hP hS (lv_sub hl [0, 1, 2, 3, 4, 5, 6, 7, 8, 9] rfl)
  exact hL26 (129) (0 : Int32) (0 : Int32) (0 : Int32) E _ _ _ (iv_w ln_0 (by decide)) (by have h9 := ln_0; first | exact ms_bu h9.1 (by decide) | omega) hI hKp hP hS (lv_sub hl [0, 1, 2, 3, 4, 5, 6, 7, 8] rfl)
def v_finding : List Cond := .code yX13_finding cX13_finding 4 (some .int) :: vA
abbrev rm_finding : Room := { frames := 72, cells := 0, slots := 0, locals := 2880 }
def w_finding : Nat → Nat → Bool := wl [12, 56, 57, 58, 59] [(0, 0), (0, 18), (0, 19), (0, 20), (0, 21), (0, 22), (0, 23), (0, 24), (0, 25), (0, 26)]
set_option maxHeartbeats 4000000 in
set_option maxRecDepth 100000 in
theorem q_finding (l : Launch) (dC : Nat → ClassId) (dI : Nat → Nat → Nat) (cT : Nat → ClassId) (ad : Nat → Nat) (E : Nat → va_E) (sz : Nat) (a0 : Int32) (a1 : Int32) (a2 : Int32) (hI0 : IX cT shM spM 72 ad E)  : Met l yX13_finding v_finding rm_finding (va_Pc [.ref (ad 0), .int a0, .int a1, .int a2] (HW dC dI (TYM cT) 72 ad E sz)) (va_Qi (S := Nat → va_E) (fun r u => IX cT shM spM 72 ad u ∧ Kp w_finding E u ∧ (True)) (HB dC dI 72 ad) (va_A (WX 72 ad E) sz)) 0 0 (va_A (WX 72 ad E) sz) := by
  refine Met.ofW (cc := cX13_finding) (maxL := 4) (ret := (some .int)) (by decide) rfl ?_
  intro p e s m args below meth c s₁ B hml hv
  obtain ⟨hargs, hsz, hP, hK, hD0, hEV⟩ := hv
  subst hsz
  have hx := B.exec
  have hb := B.bytes
  have hr := B.returns
  have hts := atoms_spec (ws := v_finding) B.pre
  have hown : s.vm.findClass RX13 = some m.cls := findClass_of_methodNamed B.named
  have hlocks := B.notSynchronized
  have hinX13 : ∀ w ∈ u_ws RX13 TX13 97, w ∈ v_finding := fun w h => vA_in _ w (in_X13 w h)
  generalize hAe : va_A (WX 72 ad E) s.heap.size = A at hEV ⊢
  have hA : ∀ q : Nat, s.heap.size ≤ q → A q := fun q h => by rw [← hAe]; exact Or.inr h
  have hD : va_D A (WX 72 ad E) := by rw [← hAe]; exact hD0.self
  have hS : va_S A s.heap s.heap [] := va_S.rf
  have hI := hI0
  have hKp : Kp w_finding E E := Kp.rf
  have hl := lv_entry ([.ref (ad 0), .int a0, .int a1, .int a2]) (n := 4) (Nat.le_of_ble_eq_true rfl)
  obtain ⟨Q, hQ⟩ : ∃ Q, Q = MQ below (va_Qi (S := Nat → va_E) (fun r u => IX cT shM spM 72 ad u ∧ Kp w_finding E u ∧ (True)) (HB dC dI 72 ad) (A)) args s 0 0 (A) := ⟨_, rfl⟩
  rw [← hQ, show entryFrame m args 4 = _ from (congrArg (fun z => entryFrame m z 4) hargs).trans (lg_entry_eq _ _ _)]
  generalize (lg_sl ([.ref (ad 0), .int a0, .int a1, .int a2]) ++ List.replicate (4 - (lg_sl ([.ref (ad 0), .int a0, .int a1, .int a2])).length) Slot.unset).toArray = ls at hl ⊢
  have hl : lv_has ls 4 [(0, .ref (ad 0)), (1, .int a0), (2, .int a1), (3, .int a2)] := hl
  refine lv_aload_n hx hb dX13_finding_0 rfl (lv_at hl 0 rfl) ?_
  refine lv_iload_n hx hb dX13_finding_1 rfl (lv_at hl 1 rfl) ?_
  refine lv_iload_n hx hb dX13_finding_2 rfl (lv_at hl 2 rfl) ?_
  refine lv_iload_n hx hb dX13_finding_3 rfl (lv_at hl 3 rfl) ?_
  refine th_i (va_runV (As := [.int a0, .int a1, .int a2]) (rest := []) ⟨hx, hb, hml, hown, hts⟩ (q_asksProtest l dC dI cT ad E s.heap.size a0 a1 a2 hI) (cwV 3 hts (gi_V (in_30 _ (zs16 (zs4 (zs4 (zs1 (zs0)))))) (in_30 _ (zs16 (zs4 (zs4 (zs1 (zs1 (zs0))))))) (in_30 _ (zs16 (zs4 (zs4 (zs1 (zs1 (zs1 (zs0)))))))) (in_24 _ (zs4 (zs4 (zs4 (zs1 (zs1 (zs1 (zs0)))))))) (in_25 _ zs0)) rfl rfl rfl ⟨rfl, hz_yX13_asksProtest_3⟩ ⟨Nat.le_of_ble_eq_true rfl, Nat.le_of_ble_eq_true rfl⟩) ⟨HW_bl, va_recv hK hP (ci := 14) (q0 := 0) rfl (hI.ob 0 (Nat.le_of_ble_eq_true rfl) rfl), (HW_wi hP hK (WX_D hD) hS hA hEV)⟩ rfl rfl hl.1 rfl (lv_room (Nat.le_of_ble_eq_true rfl)) dX13_finding_4 ⟨Nat.le_of_ble_eq_true rfl, Nat.le_of_ble_eq_true rfl⟩) (WX_D hD) hS hA (fun r1 E2 H locs hw hP hS => ?_)
  obtain ⟨hI, kq3, hw⟩ := hw
  have hKb := hKp
  have hKp := hKp.tr kq3 (wl_sub rfl rfl)
  rcases hw with hw | hw
  · -- asksProtest, case 0
    obtain ⟨rfl, f4, f5⟩ := hw
    refine lv_if_eq (tgt := 20) hx hb dX13_finding_7 (by decide) (fun c6 => ?_) (fun c6 => ?_)
    · --7 taken
      exact absurd c6 (by decide)
    · --7 not
      refine lv_aload_n hx hb dX13_finding_10 rfl (lv_at hl 0 rfl) ?_
      refine lv_iload_n hx hb dX13_finding_11 rfl (lv_at hl 1 rfl) ?_
      refine lv_iload_n hx hb dX13_finding_12 rfl (lv_at hl 2 rfl) ?_
      refine lv_iload_n hx hb dX13_finding_13 rfl (lv_at hl 3 rfl) ?_
      refine th_i (va_runV (As := [.int a0, .int a1, .int a2]) (rest := []) ⟨hx, hb, hml, hown, hts⟩ (q_findingOf l dC dI cT ad E2 H.size a0 a1 a2 hI f4) (cwV 3 hts (gi_V (in_30 _ (zs16 (zs4 (zs4 (zs4 (zs0)))))) (in_30 _ (zs16 (zs4 (zs4 (zs4 (zs1 (zs0))))))) (in_30 _ (zs16 (zs4 (zs4 (zs4 (zs1 (zs1 (zs0)))))))) (in_24 _ (zs4 (zs4 (zs4 (zs1 (zs1 (zs1 (zs0)))))))) (in_30 _ (zs16 (zs4 (zs4 (zs4 (zs1 (zs1 (zs1 (zs0)))))))))) rfl rfl rfl ⟨rfl, hz_yX13_findingOf_3⟩ ⟨Nat.le_of_ble_eq_true rfl, Nat.le_of_ble_eq_true rfl⟩) ⟨HW_bl, va_recv hK hP (ci := 14) (q0 := 0) rfl (hI.ob 0 (Nat.le_of_ble_eq_true rfl) rfl), (HW_wi hP hK (WX_D hD) hS hA hEV)⟩ rfl rfl hl.1 rfl (lv_room (Nat.le_of_ble_eq_true rfl)) dX13_finding_14 ⟨Nat.le_of_ble_eq_true rfl, Nat.le_of_ble_eq_true rfl⟩) (WX_D hD) hS hA (fun r7 E8 H locs hw hP hS => ?_)
      obtain ⟨hI, kq9, hw⟩ := hw
      have hKb := hKp
      have hKp := hKp.tr kq9 (wl_sub rfl rfl)
      refine lv_goto (tgt := 21) hx hb dX13_finding_17 (by decide) ?_
      rw [hQ]
      exact W.iret (v := r7) hx hb hr (fun t ht hW => ⟨⟨r7, E8, rfl, ⟨hI, hKp, trivial⟩, by show va_P (dC, dI) vwCl (WX 72 ad E8) t.heap; rw [ht]; exact hP⟩, hS.F ht⟩) hS.2.2 dX13_finding_21
  · -- asksProtest, case 1
    obtain rfl := hw
    refine lv_if_eq (tgt := 20) hx hb dX13_finding_7 (by decide) (fun c10 => ?_) (fun c10 => ?_)
    · --7 taken
      refine lv_iconst (v := -1) hx hb dX13_finding_20 (by decide) ?_
      rw [hQ]
      exact W.iret (v := (-1)) hx hb hr (fun t ht hW => ⟨⟨(-1), E2, rfl, ⟨hI, hKp, trivial⟩, by show va_P (dC, dI) vwCl (WX 72 ad E2) t.heap; rw [ht]; exact hP⟩, hS.F ht⟩) hS.2.2 dX13_finding_21
    · --7 not
      exact absurd c10 (by decide)
