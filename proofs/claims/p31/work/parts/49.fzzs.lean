set_option maxRecDepth 100000 in
theorem zh_dX13_thrown_0_0 : zc cX13_thrown 0 [42, 29, 182, 1, 194, 153, 0, 34, 27, 3, 42, 180, 1, 191, 4, 100] = true := by decide +kernel
set_option maxRecDepth 100000 in
theorem zh_dX13_thrown_16_16 : zc cX13_thrown 16 [184, 0, 235, 153, 0, 20, 42, 28, 182, 0, 245, 153, 0, 12, 42, 180] = true := by decide +kernel
set_option maxRecDepth 100000 in
theorem zh_dX13_thrown_31_32 : zc cX13_thrown 32 [0, 123, 28, 51, 154, 0, 5, 2, 172, 42, 180, 0, 119, 16, 16, 27] = true := by decide +kernel
set_option maxRecDepth 100000 in
theorem zh_dX13_thrown_48_48 : zc cX13_thrown 48 [104, 28, 96, 51, 153, 0, 7, 4, 167, 0, 4, 3, 172] = true := by decide +kernel
set_option maxRecDepth 100000 in
theorem zh_dX13_total_0_0 : zc cX13_total 0 [42, 28, 182, 1, 194, 153, 0, 29, 42, 27, 182, 0, 245, 153, 0, 21] = true := by decide +kernel
set_option maxRecDepth 100000 in
theorem zh_dX13_total_16_16 : zc cX13_total 16 [42, 180, 0, 123, 27, 51, 153, 0, 12, 42, 180, 0, 110, 27, 46, 167] = true := by decide +kernel
set_option maxRecDepth 100000 in
theorem zh_dX13_total_31_32 : zc cX13_total 32 [0, 4, 2, 172] = true := by decide +kernel
set_option maxRecDepth 100000 in
theorem zh_dX13_sorted_0_0 : zc cX13_sorted 0 [3, 62, 3, 54, 4, 21, 4, 42, 180, 1, 191, 162, 0, 91, 42, 180] = true := by decide +kernel
set_option maxRecDepth 100000 in
theorem zh_dX13_sorted_15_16 : zc cX13_sorted 16 [0, 119, 16, 16, 21, 4, 104, 27, 96, 51, 153, 0, 6, 167, 0, 67] = true := by decide +kernel
set_option maxRecDepth 100000 in
theorem zh_dX13_sorted_32_32 : zc cX13_sorted 32 [29, 54, 5, 21, 5, 158, 0, 40, 44, 21, 5, 4, 100, 46, 42, 180] = true := by decide +kernel
set_option maxRecDepth 100000 in
theorem zh_dX13_sorted_47_48 : zc cX13_sorted 48 [0, 107, 16, 16, 21, 4, 104, 27, 96, 46, 164, 0, 19, 44, 21, 5] = true := by decide +kernel
set_option maxRecDepth 100000 in
theorem zh_dX13_sorted_64_64 : zc cX13_sorted 64 [44, 21, 5, 4, 100, 46, 79, 132, 5, 255, 167, 255, 217, 44, 21, 5] = true := by decide +kernel
set_option maxRecDepth 100000 in
theorem zh_dX13_sorted_80_80 : zc cX13_sorted 80 [42, 180, 0, 107, 16, 16, 21, 4, 104, 27, 96, 46, 79, 132, 3, 1] = true := by decide +kernel
set_option maxRecDepth 100000 in
theorem zh_dX13_sorted_96_96 : zc cX13_sorted 96 [132, 4, 1, 167, 255, 162, 29, 172] = true := by decide +kernel
set_option maxRecDepth 100000 in
theorem zh_dX13_isBetter_0_0 : zc cX13_isBetter 0 [42, 180, 0, 110, 27, 46, 42, 180, 0, 110, 28, 46, 159, 0, 24, 42] = true := by decide +kernel
set_option maxRecDepth 100000 in
theorem zh_dX13_isBetter_16_16 : zc cX13_isBetter 16 [180, 0, 110, 27, 46, 42, 180, 0, 110, 28, 46, 162, 0, 7, 4, 167] = true := by decide +kernel
set_option maxRecDepth 100000 in
theorem zh_dX13_isBetter_31_32 : zc cX13_isBetter 32 [0, 4, 3, 172, 42, 27, 42, 180, 0, 113, 182, 1, 197, 62, 42, 28] = true := by decide +kernel
set_option maxRecDepth 100000 in
theorem zh_dX13_isBetter_48_48 : zc cX13_isBetter 48 [42, 180, 0, 116, 182, 1, 197, 54, 4, 3, 54, 5, 21, 5, 29, 162] = true := by decide +kernel
set_option maxRecDepth 100000 in
theorem zh_dX13_isBetter_63_64 : zc cX13_isBetter 64 [0, 56, 21, 5, 21, 4, 162, 0, 49, 42, 180, 0, 113, 21, 5, 46] = true := by decide +kernel
set_option maxRecDepth 100000 in
theorem zh_dX13_isBetter_80_80 : zc cX13_isBetter 80 [42, 180, 0, 116, 21, 5, 46, 159, 0, 26, 42, 180, 0, 113, 21, 5] = true := by decide +kernel
set_option maxRecDepth 100000 in
theorem zh_dX13_isBetter_96_96 : zc cX13_isBetter 96 [46, 42, 180, 0, 116, 21, 5, 46, 162, 0, 7, 4, 167, 0, 4, 3] = true := by decide +kernel
set_option maxRecDepth 100000 in
theorem zh_dX13_isBetter_112_112 : zc cX13_isBetter 112 [172, 132, 5, 1, 167, 255, 200, 42, 180, 1, 191, 4, 100, 54, 5, 21] = true := by decide +kernel
set_option maxRecDepth 100000 in
theorem zh_dX13_isBetter_127_128 : zc cX13_isBetter 128 [5, 155, 0, 69, 42, 180, 0, 107, 16, 16, 21, 5, 104, 27, 96, 46] = true := by decide +kernel
set_option maxRecDepth 100000 in
theorem zh_dX13_isBetter_144_144 : zc cX13_isBetter 144 [42, 180, 0, 107, 16, 16, 21, 5, 104, 28, 96, 46, 159, 0, 36, 42] = true := by decide +kernel
set_option maxRecDepth 100000 in
theorem zh_dX13_isBetter_160_160 : zc cX13_isBetter 160 [180, 0, 107, 16, 16, 21, 5, 104, 27, 96, 46, 42, 180, 0, 107, 16] = true := by decide +kernel
set_option maxRecDepth 100000 in
theorem zh_dX13_isBetter_175_176 : zc cX13_isBetter 176 [16, 21, 5, 104, 28, 96, 46, 162, 0, 7, 4, 167, 0, 4, 3, 172] = true := by decide +kernel
set_option maxRecDepth 100000 in
theorem zh_dX13_isBetter_192_192 : zc cX13_isBetter 192 [132, 5, 255, 167, 255, 188, 27, 28, 162, 0, 7, 4, 167, 0, 4, 3] = true := by decide +kernel
set_option maxRecDepth 100000 in
theorem zh_dX13_isBetter_208_208 : zc cX13_isBetter 208 [172] = true := by decide +kernel
set_option maxRecDepth 100000 in
theorem zh_dX13_ranked_0_0 : zc cX13_ranked 0 [42, 28, 182, 1, 194, 154, 0, 5, 2, 172, 3, 62, 29, 42, 180, 0] = true := by decide +kernel
set_option maxRecDepth 100000 in
theorem zh_dX13_ranked_14_16 : zc cX13_ranked 16 [239, 162, 0, 86, 42, 180, 0, 123, 29, 51, 154, 0, 6, 167, 0, 68] = true := by decide +kernel
set_option maxRecDepth 100000 in
theorem zh_dX13_ranked_32_32 : zc cX13_ranked 32 [3, 54, 4, 3, 54, 5, 21, 5, 42, 180, 0, 239, 162, 0, 45, 21] = true := by decide +kernel
set_option maxRecDepth 100000 in
theorem zh_dX13_ranked_47_48 : zc cX13_ranked 48 [4, 21, 5, 29, 159, 0, 27, 42, 180, 0, 123, 21, 5, 51, 153, 0] = true := by decide +kernel
set_option maxRecDepth 100000 in
theorem zh_dX13_ranked_62_64 : zc cX13_ranked 64 [17, 42, 21, 5, 29, 182, 1, 201, 153, 0, 7, 4, 167, 0, 4, 3] = true := by decide +kernel
set_option maxRecDepth 100000 in
theorem zh_dX13_ranked_80_80 : zc cX13_ranked 80 [96, 54, 4, 132, 5, 1, 167, 255, 208, 21, 4, 27, 160, 0, 5, 29] = true := by decide +kernel
set_option maxRecDepth 100000 in
theorem zh_dX13_ranked_96_96 : zc cX13_ranked 96 [172, 132, 3, 1, 167, 255, 168, 2, 172] = true := by decide +kernel
theorem dX13_thrown_0 : decode cX13_thrown 0 = .ok (.aload_n 0, 1) := zo_42 (zi_at zh_dX13_thrown_0_0 0 rfl)
theorem dX13_thrown_1 : decode cX13_thrown 1 = .ok (.iload_n 3, 1) := zo_29 (zi_at zh_dX13_thrown_0_0 1 rfl)
theorem dX13_thrown_2 : decode cX13_thrown 2 = .ok (.invokevirtual 450, 3) := zo_182 (zi_at zh_dX13_thrown_0_0 2 rfl) (zi_at zh_dX13_thrown_0_0 3 rfl) (zi_at zh_dX13_thrown_0_0 4 rfl) rfl
theorem dX13_thrown_5 : decode cX13_thrown 5 = .ok (.ifCond .eq 34, 3) := zo_153 (zi_at zh_dX13_thrown_0_0 5 rfl) (zi_at zh_dX13_thrown_0_0 6 rfl) (zi_at zh_dX13_thrown_0_0 7 rfl) rfl
theorem dX13_thrown_8 : decode cX13_thrown 8 = .ok (.iload_n 1, 1) := zo_27 (zi_at zh_dX13_thrown_0_0 8 rfl)
theorem dX13_thrown_9 : decode cX13_thrown 9 = .ok (.iconst 0, 1) := zo_3 (zi_at zh_dX13_thrown_0_0 9 rfl)
theorem dX13_thrown_10 : decode cX13_thrown 10 = .ok (.aload_n 0, 1) := zo_42 (zi_at zh_dX13_thrown_0_0 10 rfl)
theorem dX13_thrown_11 : decode cX13_thrown 11 = .ok (.getfield 447, 3) := zo_180 (zi_at zh_dX13_thrown_0_0 11 rfl) (zi_at zh_dX13_thrown_0_0 12 rfl) (zi_at zh_dX13_thrown_0_0 13 rfl) rfl
theorem dX13_thrown_14 : decode cX13_thrown 14 = .ok (.iconst 1, 1) := zo_4 (zi_at zh_dX13_thrown_0_0 14 rfl)
theorem dX13_thrown_15 : decode cX13_thrown 15 = .ok (.isub, 1) := zo_100 (zi_at zh_dX13_thrown_0_0 15 rfl)
theorem dX13_thrown_16 : decode cX13_thrown 16 = .ok (.invokestatic 235, 3) := zo_184 (zi_at zh_dX13_thrown_16_16 0 rfl) (zi_at zh_dX13_thrown_16_16 1 rfl) (zi_at zh_dX13_thrown_16_16 2 rfl) rfl
theorem dX13_thrown_19 : decode cX13_thrown 19 = .ok (.ifCond .eq 20, 3) := zo_153 (zi_at zh_dX13_thrown_16_16 3 rfl) (zi_at zh_dX13_thrown_16_16 4 rfl) (zi_at zh_dX13_thrown_16_16 5 rfl) rfl
theorem dX13_thrown_22 : decode cX13_thrown 22 = .ok (.aload_n 0, 1) := zo_42 (zi_at zh_dX13_thrown_16_16 6 rfl)
theorem dX13_thrown_23 : decode cX13_thrown 23 = .ok (.iload_n 2, 1) := zo_28 (zi_at zh_dX13_thrown_16_16 7 rfl)
theorem dX13_thrown_24 : decode cX13_thrown 24 = .ok (.invokevirtual 245, 3) := zo_182 (zi_at zh_dX13_thrown_16_16 8 rfl) (zi_at zh_dX13_thrown_16_16 9 rfl) (zi_at zh_dX13_thrown_16_16 10 rfl) rfl
theorem dX13_thrown_27 : decode cX13_thrown 27 = .ok (.ifCond .eq 12, 3) := zo_153 (zi_at zh_dX13_thrown_16_16 11 rfl) (zi_at zh_dX13_thrown_16_16 12 rfl) (zi_at zh_dX13_thrown_16_16 13 rfl) rfl
theorem dX13_thrown_30 : decode cX13_thrown 30 = .ok (.aload_n 0, 1) := zo_42 (zi_at zh_dX13_thrown_16_16 14 rfl)
theorem dX13_thrown_31 : decode cX13_thrown 31 = .ok (.getfield 123, 3) := zo_180 (zi_at zh_dX13_thrown_16_16 15 rfl) (zi_at zh_dX13_thrown_31_32 0 rfl) (zi_at zh_dX13_thrown_31_32 1 rfl) rfl
theorem dX13_thrown_34 : decode cX13_thrown 34 = .ok (.iload_n 2, 1) := zo_28 (zi_at zh_dX13_thrown_31_32 2 rfl)
theorem dX13_thrown_35 : decode cX13_thrown 35 = .ok (.baload, 1) := zo_51 (zi_at zh_dX13_thrown_31_32 3 rfl)
theorem dX13_thrown_36 : decode cX13_thrown 36 = .ok (.ifCond .ne 5, 3) := zo_154 (zi_at zh_dX13_thrown_31_32 4 rfl) (zi_at zh_dX13_thrown_31_32 5 rfl) (zi_at zh_dX13_thrown_31_32 6 rfl) rfl
theorem dX13_thrown_39 : decode cX13_thrown 39 = .ok (.iconst (-1), 1) := zo_2 (zi_at zh_dX13_thrown_31_32 7 rfl)
theorem dX13_thrown_40 : decode cX13_thrown 40 = .ok (.ireturn, 1) := zo_172 (zi_at zh_dX13_thrown_31_32 8 rfl)
theorem dX13_thrown_41 : decode cX13_thrown 41 = .ok (.aload_n 0, 1) := zo_42 (zi_at zh_dX13_thrown_31_32 9 rfl)
theorem dX13_thrown_42 : decode cX13_thrown 42 = .ok (.getfield 119, 3) := zo_180 (zi_at zh_dX13_thrown_31_32 10 rfl) (zi_at zh_dX13_thrown_31_32 11 rfl) (zi_at zh_dX13_thrown_31_32 12 rfl) rfl
theorem dX13_thrown_45 : decode cX13_thrown 45 = .ok (.bipush 16, 2) := zo_16 (zi_at zh_dX13_thrown_31_32 13 rfl) (zi_at zh_dX13_thrown_31_32 14 rfl) rfl
theorem dX13_thrown_47 : decode cX13_thrown 47 = .ok (.iload_n 1, 1) := zo_27 (zi_at zh_dX13_thrown_31_32 15 rfl)
theorem dX13_thrown_48 : decode cX13_thrown 48 = .ok (.imul, 1) := zo_104 (zi_at zh_dX13_thrown_48_48 0 rfl)
theorem dX13_thrown_49 : decode cX13_thrown 49 = .ok (.iload_n 2, 1) := zo_28 (zi_at zh_dX13_thrown_48_48 1 rfl)
theorem dX13_thrown_50 : decode cX13_thrown 50 = .ok (.iadd, 1) := zo_96 (zi_at zh_dX13_thrown_48_48 2 rfl)
theorem dX13_thrown_51 : decode cX13_thrown 51 = .ok (.baload, 1) := zo_51 (zi_at zh_dX13_thrown_48_48 3 rfl)
theorem dX13_thrown_52 : decode cX13_thrown 52 = .ok (.ifCond .eq 7, 3) := zo_153 (zi_at zh_dX13_thrown_48_48 4 rfl) (zi_at zh_dX13_thrown_48_48 5 rfl) (zi_at zh_dX13_thrown_48_48 6 rfl) rfl
theorem dX13_thrown_55 : decode cX13_thrown 55 = .ok (.iconst 1, 1) := zo_4 (zi_at zh_dX13_thrown_48_48 7 rfl)
theorem dX13_thrown_56 : decode cX13_thrown 56 = .ok (.goto 4, 3) := zo_167 (zi_at zh_dX13_thrown_48_48 8 rfl) (zi_at zh_dX13_thrown_48_48 9 rfl) (zi_at zh_dX13_thrown_48_48 10 rfl) rfl
theorem dX13_thrown_59 : decode cX13_thrown 59 = .ok (.iconst 0, 1) := zo_3 (zi_at zh_dX13_thrown_48_48 11 rfl)
theorem dX13_thrown_60 : decode cX13_thrown 60 = .ok (.ireturn, 1) := zo_172 (zi_at zh_dX13_thrown_48_48 12 rfl)
theorem dX13_total_0 : decode cX13_total 0 = .ok (.aload_n 0, 1) := zo_42 (zi_at zh_dX13_total_0_0 0 rfl)
theorem dX13_total_1 : decode cX13_total 1 = .ok (.iload_n 2, 1) := zo_28 (zi_at zh_dX13_total_0_0 1 rfl)
theorem dX13_total_2 : decode cX13_total 2 = .ok (.invokevirtual 450, 3) := zo_182 (zi_at zh_dX13_total_0_0 2 rfl) (zi_at zh_dX13_total_0_0 3 rfl) (zi_at zh_dX13_total_0_0 4 rfl) rfl
theorem dX13_total_5 : decode cX13_total 5 = .ok (.ifCond .eq 29, 3) := zo_153 (zi_at zh_dX13_total_0_0 5 rfl) (zi_at zh_dX13_total_0_0 6 rfl) (zi_at zh_dX13_total_0_0 7 rfl) rfl
theorem dX13_total_8 : decode cX13_total 8 = .ok (.aload_n 0, 1) := zo_42 (zi_at zh_dX13_total_0_0 8 rfl)
theorem dX13_total_9 : decode cX13_total 9 = .ok (.iload_n 1, 1) := zo_27 (zi_at zh_dX13_total_0_0 9 rfl)
theorem dX13_total_10 : decode cX13_total 10 = .ok (.invokevirtual 245, 3) := zo_182 (zi_at zh_dX13_total_0_0 10 rfl) (zi_at zh_dX13_total_0_0 11 rfl) (zi_at zh_dX13_total_0_0 12 rfl) rfl
theorem dX13_total_13 : decode cX13_total 13 = .ok (.ifCond .eq 21, 3) := zo_153 (zi_at zh_dX13_total_0_0 13 rfl) (zi_at zh_dX13_total_0_0 14 rfl) (zi_at zh_dX13_total_0_0 15 rfl) rfl
theorem dX13_total_16 : decode cX13_total 16 = .ok (.aload_n 0, 1) := zo_42 (zi_at zh_dX13_total_16_16 0 rfl)
theorem dX13_total_17 : decode cX13_total 17 = .ok (.getfield 123, 3) := zo_180 (zi_at zh_dX13_total_16_16 1 rfl) (zi_at zh_dX13_total_16_16 2 rfl) (zi_at zh_dX13_total_16_16 3 rfl) rfl
theorem dX13_total_20 : decode cX13_total 20 = .ok (.iload_n 1, 1) := zo_27 (zi_at zh_dX13_total_16_16 4 rfl)
theorem dX13_total_21 : decode cX13_total 21 = .ok (.baload, 1) := zo_51 (zi_at zh_dX13_total_16_16 5 rfl)
theorem dX13_total_22 : decode cX13_total 22 = .ok (.ifCond .eq 12, 3) := zo_153 (zi_at zh_dX13_total_16_16 6 rfl) (zi_at zh_dX13_total_16_16 7 rfl) (zi_at zh_dX13_total_16_16 8 rfl) rfl
theorem dX13_total_25 : decode cX13_total 25 = .ok (.aload_n 0, 1) := zo_42 (zi_at zh_dX13_total_16_16 9 rfl)
theorem dX13_total_26 : decode cX13_total 26 = .ok (.getfield 110, 3) := zo_180 (zi_at zh_dX13_total_16_16 10 rfl) (zi_at zh_dX13_total_16_16 11 rfl) (zi_at zh_dX13_total_16_16 12 rfl) rfl
theorem dX13_total_29 : decode cX13_total 29 = .ok (.iload_n 1, 1) := zo_27 (zi_at zh_dX13_total_16_16 13 rfl)
theorem dX13_total_30 : decode cX13_total 30 = .ok (.iaload, 1) := zo_46 (zi_at zh_dX13_total_16_16 14 rfl)
theorem dX13_total_31 : decode cX13_total 31 = .ok (.goto 4, 3) := zo_167 (zi_at zh_dX13_total_16_16 15 rfl) (zi_at zh_dX13_total_31_32 0 rfl) (zi_at zh_dX13_total_31_32 1 rfl) rfl
theorem dX13_total_34 : decode cX13_total 34 = .ok (.iconst (-1), 1) := zo_2 (zi_at zh_dX13_total_31_32 2 rfl)
theorem dX13_total_35 : decode cX13_total 35 = .ok (.ireturn, 1) := zo_172 (zi_at zh_dX13_total_31_32 3 rfl)
theorem dX13_sorted_0 : decode cX13_sorted 0 = .ok (.iconst 0, 1) := zo_3 (zi_at zh_dX13_sorted_0_0 0 rfl)
theorem dX13_sorted_1 : decode cX13_sorted 1 = .ok (.istore_n 3, 1) := zo_62 (zi_at zh_dX13_sorted_0_0 1 rfl)
theorem dX13_sorted_2 : decode cX13_sorted 2 = .ok (.iconst 0, 1) := zo_3 (zi_at zh_dX13_sorted_0_0 2 rfl)
theorem dX13_sorted_3 : decode cX13_sorted 3 = .ok (.istore 4, 2) := zo_54 (zi_at zh_dX13_sorted_0_0 3 rfl) (zi_at zh_dX13_sorted_0_0 4 rfl)
theorem dX13_sorted_5 : decode cX13_sorted 5 = .ok (.iload 4, 2) := zo_21 (zi_at zh_dX13_sorted_0_0 5 rfl) (zi_at zh_dX13_sorted_0_0 6 rfl)
theorem dX13_sorted_7 : decode cX13_sorted 7 = .ok (.aload_n 0, 1) := zo_42 (zi_at zh_dX13_sorted_0_0 7 rfl)
theorem dX13_sorted_8 : decode cX13_sorted 8 = .ok (.getfield 447, 3) := zo_180 (zi_at zh_dX13_sorted_0_0 8 rfl) (zi_at zh_dX13_sorted_0_0 9 rfl) (zi_at zh_dX13_sorted_0_0 10 rfl) rfl
theorem dX13_sorted_11 : decode cX13_sorted 11 = .ok (.if_icmp .ge 91, 3) := zo_162 (zi_at zh_dX13_sorted_0_0 11 rfl) (zi_at zh_dX13_sorted_0_0 12 rfl) (zi_at zh_dX13_sorted_0_0 13 rfl) rfl
theorem dX13_sorted_14 : decode cX13_sorted 14 = .ok (.aload_n 0, 1) := zo_42 (zi_at zh_dX13_sorted_0_0 14 rfl)
theorem dX13_sorted_15 : decode cX13_sorted 15 = .ok (.getfield 119, 3) := zo_180 (zi_at zh_dX13_sorted_0_0 15 rfl) (zi_at zh_dX13_sorted_15_16 0 rfl) (zi_at zh_dX13_sorted_15_16 1 rfl) rfl
theorem dX13_sorted_18 : decode cX13_sorted 18 = .ok (.bipush 16, 2) := zo_16 (zi_at zh_dX13_sorted_15_16 2 rfl) (zi_at zh_dX13_sorted_15_16 3 rfl) rfl
theorem dX13_sorted_20 : decode cX13_sorted 20 = .ok (.iload 4, 2) := zo_21 (zi_at zh_dX13_sorted_15_16 4 rfl) (zi_at zh_dX13_sorted_15_16 5 rfl)
theorem dX13_sorted_22 : decode cX13_sorted 22 = .ok (.imul, 1) := zo_104 (zi_at zh_dX13_sorted_15_16 6 rfl)
theorem dX13_sorted_23 : decode cX13_sorted 23 = .ok (.iload_n 1, 1) := zo_27 (zi_at zh_dX13_sorted_15_16 7 rfl)
theorem dX13_sorted_24 : decode cX13_sorted 24 = .ok (.iadd, 1) := zo_96 (zi_at zh_dX13_sorted_15_16 8 rfl)
theorem dX13_sorted_25 : decode cX13_sorted 25 = .ok (.baload, 1) := zo_51 (zi_at zh_dX13_sorted_15_16 9 rfl)
theorem dX13_sorted_26 : decode cX13_sorted 26 = .ok (.ifCond .eq 6, 3) := zo_153 (zi_at zh_dX13_sorted_15_16 10 rfl) (zi_at zh_dX13_sorted_15_16 11 rfl) (zi_at zh_dX13_sorted_15_16 12 rfl) rfl
theorem dX13_sorted_29 : decode cX13_sorted 29 = .ok (.goto 67, 3) := zo_167 (zi_at zh_dX13_sorted_15_16 13 rfl) (zi_at zh_dX13_sorted_15_16 14 rfl) (zi_at zh_dX13_sorted_15_16 15 rfl) rfl
theorem dX13_sorted_32 : decode cX13_sorted 32 = .ok (.iload_n 3, 1) := zo_29 (zi_at zh_dX13_sorted_32_32 0 rfl)
theorem dX13_sorted_33 : decode cX13_sorted 33 = .ok (.istore 5, 2) := zo_54 (zi_at zh_dX13_sorted_32_32 1 rfl) (zi_at zh_dX13_sorted_32_32 2 rfl)
theorem dX13_sorted_35 : decode cX13_sorted 35 = .ok (.iload 5, 2) := zo_21 (zi_at zh_dX13_sorted_32_32 3 rfl) (zi_at zh_dX13_sorted_32_32 4 rfl)
theorem dX13_sorted_37 : decode cX13_sorted 37 = .ok (.ifCond .le 40, 3) := zo_158 (zi_at zh_dX13_sorted_32_32 5 rfl) (zi_at zh_dX13_sorted_32_32 6 rfl) (zi_at zh_dX13_sorted_32_32 7 rfl) rfl
theorem dX13_sorted_40 : decode cX13_sorted 40 = .ok (.aload_n 2, 1) := zo_44 (zi_at zh_dX13_sorted_32_32 8 rfl)
theorem dX13_sorted_41 : decode cX13_sorted 41 = .ok (.iload 5, 2) := zo_21 (zi_at zh_dX13_sorted_32_32 9 rfl) (zi_at zh_dX13_sorted_32_32 10 rfl)
theorem dX13_sorted_43 : decode cX13_sorted 43 = .ok (.iconst 1, 1) := zo_4 (zi_at zh_dX13_sorted_32_32 11 rfl)
theorem dX13_sorted_44 : decode cX13_sorted 44 = .ok (.isub, 1) := zo_100 (zi_at zh_dX13_sorted_32_32 12 rfl)
theorem dX13_sorted_45 : decode cX13_sorted 45 = .ok (.iaload, 1) := zo_46 (zi_at zh_dX13_sorted_32_32 13 rfl)
theorem dX13_sorted_46 : decode cX13_sorted 46 = .ok (.aload_n 0, 1) := zo_42 (zi_at zh_dX13_sorted_32_32 14 rfl)
theorem dX13_sorted_47 : decode cX13_sorted 47 = .ok (.getfield 107, 3) := zo_180 (zi_at zh_dX13_sorted_32_32 15 rfl) (zi_at zh_dX13_sorted_47_48 0 rfl) (zi_at zh_dX13_sorted_47_48 1 rfl) rfl
theorem dX13_sorted_50 : decode cX13_sorted 50 = .ok (.bipush 16, 2) := zo_16 (zi_at zh_dX13_sorted_47_48 2 rfl) (zi_at zh_dX13_sorted_47_48 3 rfl) rfl
theorem dX13_sorted_52 : decode cX13_sorted 52 = .ok (.iload 4, 2) := zo_21 (zi_at zh_dX13_sorted_47_48 4 rfl) (zi_at zh_dX13_sorted_47_48 5 rfl)
theorem dX13_sorted_54 : decode cX13_sorted 54 = .ok (.imul, 1) := zo_104 (zi_at zh_dX13_sorted_47_48 6 rfl)
theorem dX13_sorted_55 : decode cX13_sorted 55 = .ok (.iload_n 1, 1) := zo_27 (zi_at zh_dX13_sorted_47_48 7 rfl)
theorem dX13_sorted_56 : decode cX13_sorted 56 = .ok (.iadd, 1) := zo_96 (zi_at zh_dX13_sorted_47_48 8 rfl)
theorem dX13_sorted_57 : decode cX13_sorted 57 = .ok (.iaload, 1) := zo_46 (zi_at zh_dX13_sorted_47_48 9 rfl)
theorem dX13_sorted_58 : decode cX13_sorted 58 = .ok (.if_icmp .le 19, 3) := zo_164 (zi_at zh_dX13_sorted_47_48 10 rfl) (zi_at zh_dX13_sorted_47_48 11 rfl) (zi_at zh_dX13_sorted_47_48 12 rfl) rfl
theorem dX13_sorted_61 : decode cX13_sorted 61 = .ok (.aload_n 2, 1) := zo_44 (zi_at zh_dX13_sorted_47_48 13 rfl)
theorem dX13_sorted_62 : decode cX13_sorted 62 = .ok (.iload 5, 2) := zo_21 (zi_at zh_dX13_sorted_47_48 14 rfl) (zi_at zh_dX13_sorted_47_48 15 rfl)
theorem dX13_sorted_64 : decode cX13_sorted 64 = .ok (.aload_n 2, 1) := zo_44 (zi_at zh_dX13_sorted_64_64 0 rfl)
theorem dX13_sorted_65 : decode cX13_sorted 65 = .ok (.iload 5, 2) := zo_21 (zi_at zh_dX13_sorted_64_64 1 rfl) (zi_at zh_dX13_sorted_64_64 2 rfl)
theorem dX13_sorted_67 : decode cX13_sorted 67 = .ok (.iconst 1, 1) := zo_4 (zi_at zh_dX13_sorted_64_64 3 rfl)
theorem dX13_sorted_68 : decode cX13_sorted 68 = .ok (.isub, 1) := zo_100 (zi_at zh_dX13_sorted_64_64 4 rfl)
theorem dX13_sorted_69 : decode cX13_sorted 69 = .ok (.iaload, 1) := zo_46 (zi_at zh_dX13_sorted_64_64 5 rfl)
theorem dX13_sorted_70 : decode cX13_sorted 70 = .ok (.iastore, 1) := zo_79 (zi_at zh_dX13_sorted_64_64 6 rfl)
theorem dX13_sorted_71 : decode cX13_sorted 71 = .ok (.iinc 5 (-1), 3) := zo_132 (zi_at zh_dX13_sorted_64_64 7 rfl) (zi_at zh_dX13_sorted_64_64 8 rfl) (zi_at zh_dX13_sorted_64_64 9 rfl) rfl
theorem dX13_sorted_74 : decode cX13_sorted 74 = .ok (.goto (-39), 3) := zo_167 (zi_at zh_dX13_sorted_64_64 10 rfl) (zi_at zh_dX13_sorted_64_64 11 rfl) (zi_at zh_dX13_sorted_64_64 12 rfl) rfl
theorem dX13_sorted_77 : decode cX13_sorted 77 = .ok (.aload_n 2, 1) := zo_44 (zi_at zh_dX13_sorted_64_64 13 rfl)
theorem dX13_sorted_78 : decode cX13_sorted 78 = .ok (.iload 5, 2) := zo_21 (zi_at zh_dX13_sorted_64_64 14 rfl) (zi_at zh_dX13_sorted_64_64 15 rfl)
theorem dX13_sorted_80 : decode cX13_sorted 80 = .ok (.aload_n 0, 1) := zo_42 (zi_at zh_dX13_sorted_80_80 0 rfl)
theorem dX13_sorted_81 : decode cX13_sorted 81 = .ok (.getfield 107, 3) := zo_180 (zi_at zh_dX13_sorted_80_80 1 rfl) (zi_at zh_dX13_sorted_80_80 2 rfl) (zi_at zh_dX13_sorted_80_80 3 rfl) rfl
theorem dX13_sorted_84 : decode cX13_sorted 84 = .ok (.bipush 16, 2) := zo_16 (zi_at zh_dX13_sorted_80_80 4 rfl) (zi_at zh_dX13_sorted_80_80 5 rfl) rfl
theorem dX13_sorted_86 : decode cX13_sorted 86 = .ok (.iload 4, 2) := zo_21 (zi_at zh_dX13_sorted_80_80 6 rfl) (zi_at zh_dX13_sorted_80_80 7 rfl)
theorem dX13_sorted_88 : decode cX13_sorted 88 = .ok (.imul, 1) := zo_104 (zi_at zh_dX13_sorted_80_80 8 rfl)
theorem dX13_sorted_89 : decode cX13_sorted 89 = .ok (.iload_n 1, 1) := zo_27 (zi_at zh_dX13_sorted_80_80 9 rfl)
theorem dX13_sorted_90 : decode cX13_sorted 90 = .ok (.iadd, 1) := zo_96 (zi_at zh_dX13_sorted_80_80 10 rfl)
theorem dX13_sorted_91 : decode cX13_sorted 91 = .ok (.iaload, 1) := zo_46 (zi_at zh_dX13_sorted_80_80 11 rfl)
theorem dX13_sorted_92 : decode cX13_sorted 92 = .ok (.iastore, 1) := zo_79 (zi_at zh_dX13_sorted_80_80 12 rfl)
theorem dX13_sorted_93 : decode cX13_sorted 93 = .ok (.iinc 3 1, 3) := zo_132 (zi_at zh_dX13_sorted_80_80 13 rfl) (zi_at zh_dX13_sorted_80_80 14 rfl) (zi_at zh_dX13_sorted_80_80 15 rfl) rfl
theorem dX13_sorted_96 : decode cX13_sorted 96 = .ok (.iinc 4 1, 3) := zo_132 (zi_at zh_dX13_sorted_96_96 0 rfl) (zi_at zh_dX13_sorted_96_96 1 rfl) (zi_at zh_dX13_sorted_96_96 2 rfl) rfl
theorem dX13_sorted_99 : decode cX13_sorted 99 = .ok (.goto (-94), 3) := zo_167 (zi_at zh_dX13_sorted_96_96 3 rfl) (zi_at zh_dX13_sorted_96_96 4 rfl) (zi_at zh_dX13_sorted_96_96 5 rfl) rfl
theorem dX13_sorted_102 : decode cX13_sorted 102 = .ok (.iload_n 3, 1) := zo_29 (zi_at zh_dX13_sorted_96_96 6 rfl)
theorem dX13_sorted_103 : decode cX13_sorted 103 = .ok (.ireturn, 1) := zo_172 (zi_at zh_dX13_sorted_96_96 7 rfl)
theorem dX13_isBetter_0 : decode cX13_isBetter 0 = .ok (.aload_n 0, 1) := zo_42 (zi_at zh_dX13_isBetter_0_0 0 rfl)
theorem dX13_isBetter_1 : decode cX13_isBetter 1 = .ok (.getfield 110, 3) := zo_180 (zi_at zh_dX13_isBetter_0_0 1 rfl) (zi_at zh_dX13_isBetter_0_0 2 rfl) (zi_at zh_dX13_isBetter_0_0 3 rfl) rfl
theorem dX13_isBetter_4 : decode cX13_isBetter 4 = .ok (.iload_n 1, 1) := zo_27 (zi_at zh_dX13_isBetter_0_0 4 rfl)
theorem dX13_isBetter_5 : decode cX13_isBetter 5 = .ok (.iaload, 1) := zo_46 (zi_at zh_dX13_isBetter_0_0 5 rfl)
theorem dX13_isBetter_6 : decode cX13_isBetter 6 = .ok (.aload_n 0, 1) := zo_42 (zi_at zh_dX13_isBetter_0_0 6 rfl)
theorem dX13_isBetter_7 : decode cX13_isBetter 7 = .ok (.getfield 110, 3) := zo_180 (zi_at zh_dX13_isBetter_0_0 7 rfl) (zi_at zh_dX13_isBetter_0_0 8 rfl) (zi_at zh_dX13_isBetter_0_0 9 rfl) rfl
theorem dX13_isBetter_10 : decode cX13_isBetter 10 = .ok (.iload_n 2, 1) := zo_28 (zi_at zh_dX13_isBetter_0_0 10 rfl)
theorem dX13_isBetter_11 : decode cX13_isBetter 11 = .ok (.iaload, 1) := zo_46 (zi_at zh_dX13_isBetter_0_0 11 rfl)
theorem dX13_isBetter_12 : decode cX13_isBetter 12 = .ok (.if_icmp .eq 24, 3) := zo_159 (zi_at zh_dX13_isBetter_0_0 12 rfl) (zi_at zh_dX13_isBetter_0_0 13 rfl) (zi_at zh_dX13_isBetter_0_0 14 rfl) rfl
theorem dX13_isBetter_15 : decode cX13_isBetter 15 = .ok (.aload_n 0, 1) := zo_42 (zi_at zh_dX13_isBetter_0_0 15 rfl)
theorem dX13_isBetter_16 : decode cX13_isBetter 16 = .ok (.getfield 110, 3) := zo_180 (zi_at zh_dX13_isBetter_16_16 0 rfl) (zi_at zh_dX13_isBetter_16_16 1 rfl) (zi_at zh_dX13_isBetter_16_16 2 rfl) rfl
theorem dX13_isBetter_19 : decode cX13_isBetter 19 = .ok (.iload_n 1, 1) := zo_27 (zi_at zh_dX13_isBetter_16_16 3 rfl)
theorem dX13_isBetter_20 : decode cX13_isBetter 20 = .ok (.iaload, 1) := zo_46 (zi_at zh_dX13_isBetter_16_16 4 rfl)
theorem dX13_isBetter_21 : decode cX13_isBetter 21 = .ok (.aload_n 0, 1) := zo_42 (zi_at zh_dX13_isBetter_16_16 5 rfl)
theorem dX13_isBetter_22 : decode cX13_isBetter 22 = .ok (.getfield 110, 3) := zo_180 (zi_at zh_dX13_isBetter_16_16 6 rfl) (zi_at zh_dX13_isBetter_16_16 7 rfl) (zi_at zh_dX13_isBetter_16_16 8 rfl) rfl
theorem dX13_isBetter_25 : decode cX13_isBetter 25 = .ok (.iload_n 2, 1) := zo_28 (zi_at zh_dX13_isBetter_16_16 9 rfl)
theorem dX13_isBetter_26 : decode cX13_isBetter 26 = .ok (.iaload, 1) := zo_46 (zi_at zh_dX13_isBetter_16_16 10 rfl)
theorem dX13_isBetter_27 : decode cX13_isBetter 27 = .ok (.if_icmp .ge 7, 3) := zo_162 (zi_at zh_dX13_isBetter_16_16 11 rfl) (zi_at zh_dX13_isBetter_16_16 12 rfl) (zi_at zh_dX13_isBetter_16_16 13 rfl) rfl
theorem dX13_isBetter_30 : decode cX13_isBetter 30 = .ok (.iconst 1, 1) := zo_4 (zi_at zh_dX13_isBetter_16_16 14 rfl)
theorem dX13_isBetter_31 : decode cX13_isBetter 31 = .ok (.goto 4, 3) := zo_167 (zi_at zh_dX13_isBetter_16_16 15 rfl) (zi_at zh_dX13_isBetter_31_32 0 rfl) (zi_at zh_dX13_isBetter_31_32 1 rfl) rfl
theorem dX13_isBetter_34 : decode cX13_isBetter 34 = .ok (.iconst 0, 1) := zo_3 (zi_at zh_dX13_isBetter_31_32 2 rfl)
theorem dX13_isBetter_35 : decode cX13_isBetter 35 = .ok (.ireturn, 1) := zo_172 (zi_at zh_dX13_isBetter_31_32 3 rfl)
theorem dX13_isBetter_36 : decode cX13_isBetter 36 = .ok (.aload_n 0, 1) := zo_42 (zi_at zh_dX13_isBetter_31_32 4 rfl)
theorem dX13_isBetter_37 : decode cX13_isBetter 37 = .ok (.iload_n 1, 1) := zo_27 (zi_at zh_dX13_isBetter_31_32 5 rfl)
theorem dX13_isBetter_38 : decode cX13_isBetter 38 = .ok (.aload_n 0, 1) := zo_42 (zi_at zh_dX13_isBetter_31_32 6 rfl)
theorem dX13_isBetter_39 : decode cX13_isBetter 39 = .ok (.getfield 113, 3) := zo_180 (zi_at zh_dX13_isBetter_31_32 7 rfl) (zi_at zh_dX13_isBetter_31_32 8 rfl) (zi_at zh_dX13_isBetter_31_32 9 rfl) rfl
theorem dX13_isBetter_42 : decode cX13_isBetter 42 = .ok (.invokevirtual 453, 3) := zo_182 (zi_at zh_dX13_isBetter_31_32 10 rfl) (zi_at zh_dX13_isBetter_31_32 11 rfl) (zi_at zh_dX13_isBetter_31_32 12 rfl) rfl
theorem dX13_isBetter_45 : decode cX13_isBetter 45 = .ok (.istore_n 3, 1) := zo_62 (zi_at zh_dX13_isBetter_31_32 13 rfl)
theorem dX13_isBetter_46 : decode cX13_isBetter 46 = .ok (.aload_n 0, 1) := zo_42 (zi_at zh_dX13_isBetter_31_32 14 rfl)
theorem dX13_isBetter_47 : decode cX13_isBetter 47 = .ok (.iload_n 2, 1) := zo_28 (zi_at zh_dX13_isBetter_31_32 15 rfl)
theorem dX13_isBetter_48 : decode cX13_isBetter 48 = .ok (.aload_n 0, 1) := zo_42 (zi_at zh_dX13_isBetter_48_48 0 rfl)
theorem dX13_isBetter_49 : decode cX13_isBetter 49 = .ok (.getfield 116, 3) := zo_180 (zi_at zh_dX13_isBetter_48_48 1 rfl) (zi_at zh_dX13_isBetter_48_48 2 rfl) (zi_at zh_dX13_isBetter_48_48 3 rfl) rfl
theorem dX13_isBetter_52 : decode cX13_isBetter 52 = .ok (.invokevirtual 453, 3) := zo_182 (zi_at zh_dX13_isBetter_48_48 4 rfl) (zi_at zh_dX13_isBetter_48_48 5 rfl) (zi_at zh_dX13_isBetter_48_48 6 rfl) rfl
theorem dX13_isBetter_55 : decode cX13_isBetter 55 = .ok (.istore 4, 2) := zo_54 (zi_at zh_dX13_isBetter_48_48 7 rfl) (zi_at zh_dX13_isBetter_48_48 8 rfl)
theorem dX13_isBetter_57 : decode cX13_isBetter 57 = .ok (.iconst 0, 1) := zo_3 (zi_at zh_dX13_isBetter_48_48 9 rfl)
theorem dX13_isBetter_58 : decode cX13_isBetter 58 = .ok (.istore 5, 2) := zo_54 (zi_at zh_dX13_isBetter_48_48 10 rfl) (zi_at zh_dX13_isBetter_48_48 11 rfl)
theorem dX13_isBetter_60 : decode cX13_isBetter 60 = .ok (.iload 5, 2) := zo_21 (zi_at zh_dX13_isBetter_48_48 12 rfl) (zi_at zh_dX13_isBetter_48_48 13 rfl)
theorem dX13_isBetter_62 : decode cX13_isBetter 62 = .ok (.iload_n 3, 1) := zo_29 (zi_at zh_dX13_isBetter_48_48 14 rfl)
theorem dX13_isBetter_63 : decode cX13_isBetter 63 = .ok (.if_icmp .ge 56, 3) := zo_162 (zi_at zh_dX13_isBetter_48_48 15 rfl) (zi_at zh_dX13_isBetter_63_64 0 rfl) (zi_at zh_dX13_isBetter_63_64 1 rfl) rfl
theorem dX13_isBetter_66 : decode cX13_isBetter 66 = .ok (.iload 5, 2) := zo_21 (zi_at zh_dX13_isBetter_63_64 2 rfl) (zi_at zh_dX13_isBetter_63_64 3 rfl)
theorem dX13_isBetter_68 : decode cX13_isBetter 68 = .ok (.iload 4, 2) := zo_21 (zi_at zh_dX13_isBetter_63_64 4 rfl) (zi_at zh_dX13_isBetter_63_64 5 rfl)
theorem dX13_isBetter_70 : decode cX13_isBetter 70 = .ok (.if_icmp .ge 49, 3) := zo_162 (zi_at zh_dX13_isBetter_63_64 6 rfl) (zi_at zh_dX13_isBetter_63_64 7 rfl) (zi_at zh_dX13_isBetter_63_64 8 rfl) rfl
theorem dX13_isBetter_73 : decode cX13_isBetter 73 = .ok (.aload_n 0, 1) := zo_42 (zi_at zh_dX13_isBetter_63_64 9 rfl)
theorem dX13_isBetter_74 : decode cX13_isBetter 74 = .ok (.getfield 113, 3) := zo_180 (zi_at zh_dX13_isBetter_63_64 10 rfl) (zi_at zh_dX13_isBetter_63_64 11 rfl) (zi_at zh_dX13_isBetter_63_64 12 rfl) rfl
theorem dX13_isBetter_77 : decode cX13_isBetter 77 = .ok (.iload 5, 2) := zo_21 (zi_at zh_dX13_isBetter_63_64 13 rfl) (zi_at zh_dX13_isBetter_63_64 14 rfl)
theorem dX13_isBetter_79 : decode cX13_isBetter 79 = .ok (.iaload, 1) := zo_46 (zi_at zh_dX13_isBetter_63_64 15 rfl)
theorem dX13_isBetter_80 : decode cX13_isBetter 80 = .ok (.aload_n 0, 1) := zo_42 (zi_at zh_dX13_isBetter_80_80 0 rfl)
theorem dX13_isBetter_81 : decode cX13_isBetter 81 = .ok (.getfield 116, 3) := zo_180 (zi_at zh_dX13_isBetter_80_80 1 rfl) (zi_at zh_dX13_isBetter_80_80 2 rfl) (zi_at zh_dX13_isBetter_80_80 3 rfl) rfl
theorem dX13_isBetter_84 : decode cX13_isBetter 84 = .ok (.iload 5, 2) := zo_21 (zi_at zh_dX13_isBetter_80_80 4 rfl) (zi_at zh_dX13_isBetter_80_80 5 rfl)
theorem dX13_isBetter_86 : decode cX13_isBetter 86 = .ok (.iaload, 1) := zo_46 (zi_at zh_dX13_isBetter_80_80 6 rfl)
theorem dX13_isBetter_87 : decode cX13_isBetter 87 = .ok (.if_icmp .eq 26, 3) := zo_159 (zi_at zh_dX13_isBetter_80_80 7 rfl) (zi_at zh_dX13_isBetter_80_80 8 rfl) (zi_at zh_dX13_isBetter_80_80 9 rfl) rfl
theorem dX13_isBetter_90 : decode cX13_isBetter 90 = .ok (.aload_n 0, 1) := zo_42 (zi_at zh_dX13_isBetter_80_80 10 rfl)
theorem dX13_isBetter_91 : decode cX13_isBetter 91 = .ok (.getfield 113, 3) := zo_180 (zi_at zh_dX13_isBetter_80_80 11 rfl) (zi_at zh_dX13_isBetter_80_80 12 rfl) (zi_at zh_dX13_isBetter_80_80 13 rfl) rfl
theorem dX13_isBetter_94 : decode cX13_isBetter 94 = .ok (.iload 5, 2) := zo_21 (zi_at zh_dX13_isBetter_80_80 14 rfl) (zi_at zh_dX13_isBetter_80_80 15 rfl)
theorem dX13_isBetter_96 : decode cX13_isBetter 96 = .ok (.iaload, 1) := zo_46 (zi_at zh_dX13_isBetter_96_96 0 rfl)
theorem dX13_isBetter_97 : decode cX13_isBetter 97 = .ok (.aload_n 0, 1) := zo_42 (zi_at zh_dX13_isBetter_96_96 1 rfl)
theorem dX13_isBetter_98 : decode cX13_isBetter 98 = .ok (.getfield 116, 3) := zo_180 (zi_at zh_dX13_isBetter_96_96 2 rfl) (zi_at zh_dX13_isBetter_96_96 3 rfl) (zi_at zh_dX13_isBetter_96_96 4 rfl) rfl
theorem dX13_isBetter_101 : decode cX13_isBetter 101 = .ok (.iload 5, 2) := zo_21 (zi_at zh_dX13_isBetter_96_96 5 rfl) (zi_at zh_dX13_isBetter_96_96 6 rfl)
theorem dX13_isBetter_103 : decode cX13_isBetter 103 = .ok (.iaload, 1) := zo_46 (zi_at zh_dX13_isBetter_96_96 7 rfl)
theorem dX13_isBetter_104 : decode cX13_isBetter 104 = .ok (.if_icmp .ge 7, 3) := zo_162 (zi_at zh_dX13_isBetter_96_96 8 rfl) (zi_at zh_dX13_isBetter_96_96 9 rfl) (zi_at zh_dX13_isBetter_96_96 10 rfl) rfl
theorem dX13_isBetter_107 : decode cX13_isBetter 107 = .ok (.iconst 1, 1) := zo_4 (zi_at zh_dX13_isBetter_96_96 11 rfl)
theorem dX13_isBetter_108 : decode cX13_isBetter 108 = .ok (.goto 4, 3) := zo_167 (zi_at zh_dX13_isBetter_96_96 12 rfl) (zi_at zh_dX13_isBetter_96_96 13 rfl) (zi_at zh_dX13_isBetter_96_96 14 rfl) rfl
theorem dX13_isBetter_111 : decode cX13_isBetter 111 = .ok (.iconst 0, 1) := zo_3 (zi_at zh_dX13_isBetter_96_96 15 rfl)
theorem dX13_isBetter_112 : decode cX13_isBetter 112 = .ok (.ireturn, 1) := zo_172 (zi_at zh_dX13_isBetter_112_112 0 rfl)
theorem dX13_isBetter_113 : decode cX13_isBetter 113 = .ok (.iinc 5 1, 3) := zo_132 (zi_at zh_dX13_isBetter_112_112 1 rfl) (zi_at zh_dX13_isBetter_112_112 2 rfl) (zi_at zh_dX13_isBetter_112_112 3 rfl) rfl
theorem dX13_isBetter_116 : decode cX13_isBetter 116 = .ok (.goto (-56), 3) := zo_167 (zi_at zh_dX13_isBetter_112_112 4 rfl) (zi_at zh_dX13_isBetter_112_112 5 rfl) (zi_at zh_dX13_isBetter_112_112 6 rfl) rfl
theorem dX13_isBetter_119 : decode cX13_isBetter 119 = .ok (.aload_n 0, 1) := zo_42 (zi_at zh_dX13_isBetter_112_112 7 rfl)
theorem dX13_isBetter_120 : decode cX13_isBetter 120 = .ok (.getfield 447, 3) := zo_180 (zi_at zh_dX13_isBetter_112_112 8 rfl) (zi_at zh_dX13_isBetter_112_112 9 rfl) (zi_at zh_dX13_isBetter_112_112 10 rfl) rfl
theorem dX13_isBetter_123 : decode cX13_isBetter 123 = .ok (.iconst 1, 1) := zo_4 (zi_at zh_dX13_isBetter_112_112 11 rfl)
theorem dX13_isBetter_124 : decode cX13_isBetter 124 = .ok (.isub, 1) := zo_100 (zi_at zh_dX13_isBetter_112_112 12 rfl)
theorem dX13_isBetter_125 : decode cX13_isBetter 125 = .ok (.istore 5, 2) := zo_54 (zi_at zh_dX13_isBetter_112_112 13 rfl) (zi_at zh_dX13_isBetter_112_112 14 rfl)
theorem dX13_isBetter_127 : decode cX13_isBetter 127 = .ok (.iload 5, 2) := zo_21 (zi_at zh_dX13_isBetter_112_112 15 rfl) (zi_at zh_dX13_isBetter_127_128 0 rfl)
theorem dX13_isBetter_129 : decode cX13_isBetter 129 = .ok (.ifCond .lt 69, 3) := zo_155 (zi_at zh_dX13_isBetter_127_128 1 rfl) (zi_at zh_dX13_isBetter_127_128 2 rfl) (zi_at zh_dX13_isBetter_127_128 3 rfl) rfl
theorem dX13_isBetter_132 : decode cX13_isBetter 132 = .ok (.aload_n 0, 1) := zo_42 (zi_at zh_dX13_isBetter_127_128 4 rfl)
theorem dX13_isBetter_133 : decode cX13_isBetter 133 = .ok (.getfield 107, 3) := zo_180 (zi_at zh_dX13_isBetter_127_128 5 rfl) (zi_at zh_dX13_isBetter_127_128 6 rfl) (zi_at zh_dX13_isBetter_127_128 7 rfl) rfl
theorem dX13_isBetter_136 : decode cX13_isBetter 136 = .ok (.bipush 16, 2) := zo_16 (zi_at zh_dX13_isBetter_127_128 8 rfl) (zi_at zh_dX13_isBetter_127_128 9 rfl) rfl
theorem dX13_isBetter_138 : decode cX13_isBetter 138 = .ok (.iload 5, 2) := zo_21 (zi_at zh_dX13_isBetter_127_128 10 rfl) (zi_at zh_dX13_isBetter_127_128 11 rfl)
theorem dX13_isBetter_140 : decode cX13_isBetter 140 = .ok (.imul, 1) := zo_104 (zi_at zh_dX13_isBetter_127_128 12 rfl)
theorem dX13_isBetter_141 : decode cX13_isBetter 141 = .ok (.iload_n 1, 1) := zo_27 (zi_at zh_dX13_isBetter_127_128 13 rfl)
theorem dX13_isBetter_142 : decode cX13_isBetter 142 = .ok (.iadd, 1) := zo_96 (zi_at zh_dX13_isBetter_127_128 14 rfl)
theorem dX13_isBetter_143 : decode cX13_isBetter 143 = .ok (.iaload, 1) := zo_46 (zi_at zh_dX13_isBetter_127_128 15 rfl)
theorem dX13_isBetter_144 : decode cX13_isBetter 144 = .ok (.aload_n 0, 1) := zo_42 (zi_at zh_dX13_isBetter_144_144 0 rfl)
theorem dX13_isBetter_145 : decode cX13_isBetter 145 = .ok (.getfield 107, 3) := zo_180 (zi_at zh_dX13_isBetter_144_144 1 rfl) (zi_at zh_dX13_isBetter_144_144 2 rfl) (zi_at zh_dX13_isBetter_144_144 3 rfl) rfl
theorem dX13_isBetter_148 : decode cX13_isBetter 148 = .ok (.bipush 16, 2) := zo_16 (zi_at zh_dX13_isBetter_144_144 4 rfl) (zi_at zh_dX13_isBetter_144_144 5 rfl) rfl
theorem dX13_isBetter_150 : decode cX13_isBetter 150 = .ok (.iload 5, 2) := zo_21 (zi_at zh_dX13_isBetter_144_144 6 rfl) (zi_at zh_dX13_isBetter_144_144 7 rfl)
theorem dX13_isBetter_152 : decode cX13_isBetter 152 = .ok (.imul, 1) := zo_104 (zi_at zh_dX13_isBetter_144_144 8 rfl)
theorem dX13_isBetter_153 : decode cX13_isBetter 153 = .ok (.iload_n 2, 1) := zo_28 (zi_at zh_dX13_isBetter_144_144 9 rfl)
theorem dX13_isBetter_154 : decode cX13_isBetter 154 = .ok (.iadd, 1) := zo_96 (zi_at zh_dX13_isBetter_144_144 10 rfl)
theorem dX13_isBetter_155 : decode cX13_isBetter 155 = .ok (.iaload, 1) := zo_46 (zi_at zh_dX13_isBetter_144_144 11 rfl)
theorem dX13_isBetter_156 : decode cX13_isBetter 156 = .ok (.if_icmp .eq 36, 3) := zo_159 (zi_at zh_dX13_isBetter_144_144 12 rfl) (zi_at zh_dX13_isBetter_144_144 13 rfl) (zi_at zh_dX13_isBetter_144_144 14 rfl) rfl
theorem dX13_isBetter_159 : decode cX13_isBetter 159 = .ok (.aload_n 0, 1) := zo_42 (zi_at zh_dX13_isBetter_144_144 15 rfl)
theorem dX13_isBetter_160 : decode cX13_isBetter 160 = .ok (.getfield 107, 3) := zo_180 (zi_at zh_dX13_isBetter_160_160 0 rfl) (zi_at zh_dX13_isBetter_160_160 1 rfl) (zi_at zh_dX13_isBetter_160_160 2 rfl) rfl
theorem dX13_isBetter_163 : decode cX13_isBetter 163 = .ok (.bipush 16, 2) := zo_16 (zi_at zh_dX13_isBetter_160_160 3 rfl) (zi_at zh_dX13_isBetter_160_160 4 rfl) rfl
theorem dX13_isBetter_165 : decode cX13_isBetter 165 = .ok (.iload 5, 2) := zo_21 (zi_at zh_dX13_isBetter_160_160 5 rfl) (zi_at zh_dX13_isBetter_160_160 6 rfl)
theorem dX13_isBetter_167 : decode cX13_isBetter 167 = .ok (.imul, 1) := zo_104 (zi_at zh_dX13_isBetter_160_160 7 rfl)
theorem dX13_isBetter_168 : decode cX13_isBetter 168 = .ok (.iload_n 1, 1) := zo_27 (zi_at zh_dX13_isBetter_160_160 8 rfl)
theorem dX13_isBetter_169 : decode cX13_isBetter 169 = .ok (.iadd, 1) := zo_96 (zi_at zh_dX13_isBetter_160_160 9 rfl)
theorem dX13_isBetter_170 : decode cX13_isBetter 170 = .ok (.iaload, 1) := zo_46 (zi_at zh_dX13_isBetter_160_160 10 rfl)
theorem dX13_isBetter_171 : decode cX13_isBetter 171 = .ok (.aload_n 0, 1) := zo_42 (zi_at zh_dX13_isBetter_160_160 11 rfl)
theorem dX13_isBetter_172 : decode cX13_isBetter 172 = .ok (.getfield 107, 3) := zo_180 (zi_at zh_dX13_isBetter_160_160 12 rfl) (zi_at zh_dX13_isBetter_160_160 13 rfl) (zi_at zh_dX13_isBetter_160_160 14 rfl) rfl
theorem dX13_isBetter_175 : decode cX13_isBetter 175 = .ok (.bipush 16, 2) := zo_16 (zi_at zh_dX13_isBetter_160_160 15 rfl) (zi_at zh_dX13_isBetter_175_176 0 rfl) rfl
theorem dX13_isBetter_177 : decode cX13_isBetter 177 = .ok (.iload 5, 2) := zo_21 (zi_at zh_dX13_isBetter_175_176 1 rfl) (zi_at zh_dX13_isBetter_175_176 2 rfl)
theorem dX13_isBetter_179 : decode cX13_isBetter 179 = .ok (.imul, 1) := zo_104 (zi_at zh_dX13_isBetter_175_176 3 rfl)
theorem dX13_isBetter_180 : decode cX13_isBetter 180 = .ok (.iload_n 2, 1) := zo_28 (zi_at zh_dX13_isBetter_175_176 4 rfl)
theorem dX13_isBetter_181 : decode cX13_isBetter 181 = .ok (.iadd, 1) := zo_96 (zi_at zh_dX13_isBetter_175_176 5 rfl)
theorem dX13_isBetter_182 : decode cX13_isBetter 182 = .ok (.iaload, 1) := zo_46 (zi_at zh_dX13_isBetter_175_176 6 rfl)
theorem dX13_isBetter_183 : decode cX13_isBetter 183 = .ok (.if_icmp .ge 7, 3) := zo_162 (zi_at zh_dX13_isBetter_175_176 7 rfl) (zi_at zh_dX13_isBetter_175_176 8 rfl) (zi_at zh_dX13_isBetter_175_176 9 rfl) rfl
theorem dX13_isBetter_186 : decode cX13_isBetter 186 = .ok (.iconst 1, 1) := zo_4 (zi_at zh_dX13_isBetter_175_176 10 rfl)
theorem dX13_isBetter_187 : decode cX13_isBetter 187 = .ok (.goto 4, 3) := zo_167 (zi_at zh_dX13_isBetter_175_176 11 rfl) (zi_at zh_dX13_isBetter_175_176 12 rfl) (zi_at zh_dX13_isBetter_175_176 13 rfl) rfl
theorem dX13_isBetter_190 : decode cX13_isBetter 190 = .ok (.iconst 0, 1) := zo_3 (zi_at zh_dX13_isBetter_175_176 14 rfl)
theorem dX13_isBetter_191 : decode cX13_isBetter 191 = .ok (.ireturn, 1) := zo_172 (zi_at zh_dX13_isBetter_175_176 15 rfl)
theorem dX13_isBetter_192 : decode cX13_isBetter 192 = .ok (.iinc 5 (-1), 3) := zo_132 (zi_at zh_dX13_isBetter_192_192 0 rfl) (zi_at zh_dX13_isBetter_192_192 1 rfl) (zi_at zh_dX13_isBetter_192_192 2 rfl) rfl
theorem dX13_isBetter_195 : decode cX13_isBetter 195 = .ok (.goto (-68), 3) := zo_167 (zi_at zh_dX13_isBetter_192_192 3 rfl) (zi_at zh_dX13_isBetter_192_192 4 rfl) (zi_at zh_dX13_isBetter_192_192 5 rfl) rfl
theorem dX13_isBetter_198 : decode cX13_isBetter 198 = .ok (.iload_n 1, 1) := zo_27 (zi_at zh_dX13_isBetter_192_192 6 rfl)
theorem dX13_isBetter_199 : decode cX13_isBetter 199 = .ok (.iload_n 2, 1) := zo_28 (zi_at zh_dX13_isBetter_192_192 7 rfl)
theorem dX13_isBetter_200 : decode cX13_isBetter 200 = .ok (.if_icmp .ge 7, 3) := zo_162 (zi_at zh_dX13_isBetter_192_192 8 rfl) (zi_at zh_dX13_isBetter_192_192 9 rfl) (zi_at zh_dX13_isBetter_192_192 10 rfl) rfl
theorem dX13_isBetter_203 : decode cX13_isBetter 203 = .ok (.iconst 1, 1) := zo_4 (zi_at zh_dX13_isBetter_192_192 11 rfl)
theorem dX13_isBetter_204 : decode cX13_isBetter 204 = .ok (.goto 4, 3) := zo_167 (zi_at zh_dX13_isBetter_192_192 12 rfl) (zi_at zh_dX13_isBetter_192_192 13 rfl) (zi_at zh_dX13_isBetter_192_192 14 rfl) rfl
theorem dX13_isBetter_207 : decode cX13_isBetter 207 = .ok (.iconst 0, 1) := zo_3 (zi_at zh_dX13_isBetter_192_192 15 rfl)
theorem dX13_isBetter_208 : decode cX13_isBetter 208 = .ok (.ireturn, 1) := zo_172 (zi_at zh_dX13_isBetter_208_208 0 rfl)
theorem dX13_ranked_0 : decode cX13_ranked 0 = .ok (.aload_n 0, 1) := zo_42 (zi_at zh_dX13_ranked_0_0 0 rfl)
theorem dX13_ranked_1 : decode cX13_ranked 1 = .ok (.iload_n 2, 1) := zo_28 (zi_at zh_dX13_ranked_0_0 1 rfl)
theorem dX13_ranked_2 : decode cX13_ranked 2 = .ok (.invokevirtual 450, 3) := zo_182 (zi_at zh_dX13_ranked_0_0 2 rfl) (zi_at zh_dX13_ranked_0_0 3 rfl) (zi_at zh_dX13_ranked_0_0 4 rfl) rfl
theorem dX13_ranked_5 : decode cX13_ranked 5 = .ok (.ifCond .ne 5, 3) := zo_154 (zi_at zh_dX13_ranked_0_0 5 rfl) (zi_at zh_dX13_ranked_0_0 6 rfl) (zi_at zh_dX13_ranked_0_0 7 rfl) rfl
theorem dX13_ranked_8 : decode cX13_ranked 8 = .ok (.iconst (-1), 1) := zo_2 (zi_at zh_dX13_ranked_0_0 8 rfl)
theorem dX13_ranked_9 : decode cX13_ranked 9 = .ok (.ireturn, 1) := zo_172 (zi_at zh_dX13_ranked_0_0 9 rfl)
theorem dX13_ranked_10 : decode cX13_ranked 10 = .ok (.iconst 0, 1) := zo_3 (zi_at zh_dX13_ranked_0_0 10 rfl)
theorem dX13_ranked_11 : decode cX13_ranked 11 = .ok (.istore_n 3, 1) := zo_62 (zi_at zh_dX13_ranked_0_0 11 rfl)
theorem dX13_ranked_12 : decode cX13_ranked 12 = .ok (.iload_n 3, 1) := zo_29 (zi_at zh_dX13_ranked_0_0 12 rfl)
theorem dX13_ranked_13 : decode cX13_ranked 13 = .ok (.aload_n 0, 1) := zo_42 (zi_at zh_dX13_ranked_0_0 13 rfl)
theorem dX13_ranked_14 : decode cX13_ranked 14 = .ok (.getfield 239, 3) := zo_180 (zi_at zh_dX13_ranked_0_0 14 rfl) (zi_at zh_dX13_ranked_0_0 15 rfl) (zi_at zh_dX13_ranked_14_16 0 rfl) rfl
theorem dX13_ranked_17 : decode cX13_ranked 17 = .ok (.if_icmp .ge 86, 3) := zo_162 (zi_at zh_dX13_ranked_14_16 1 rfl) (zi_at zh_dX13_ranked_14_16 2 rfl) (zi_at zh_dX13_ranked_14_16 3 rfl) rfl
theorem dX13_ranked_20 : decode cX13_ranked 20 = .ok (.aload_n 0, 1) := zo_42 (zi_at zh_dX13_ranked_14_16 4 rfl)
theorem dX13_ranked_21 : decode cX13_ranked 21 = .ok (.getfield 123, 3) := zo_180 (zi_at zh_dX13_ranked_14_16 5 rfl) (zi_at zh_dX13_ranked_14_16 6 rfl) (zi_at zh_dX13_ranked_14_16 7 rfl) rfl
theorem dX13_ranked_24 : decode cX13_ranked 24 = .ok (.iload_n 3, 1) := zo_29 (zi_at zh_dX13_ranked_14_16 8 rfl)
theorem dX13_ranked_25 : decode cX13_ranked 25 = .ok (.baload, 1) := zo_51 (zi_at zh_dX13_ranked_14_16 9 rfl)
theorem dX13_ranked_26 : decode cX13_ranked 26 = .ok (.ifCond .ne 6, 3) := zo_154 (zi_at zh_dX13_ranked_14_16 10 rfl) (zi_at zh_dX13_ranked_14_16 11 rfl) (zi_at zh_dX13_ranked_14_16 12 rfl) rfl
theorem dX13_ranked_29 : decode cX13_ranked 29 = .ok (.goto 68, 3) := zo_167 (zi_at zh_dX13_ranked_14_16 13 rfl) (zi_at zh_dX13_ranked_14_16 14 rfl) (zi_at zh_dX13_ranked_14_16 15 rfl) rfl
theorem dX13_ranked_32 : decode cX13_ranked 32 = .ok (.iconst 0, 1) := zo_3 (zi_at zh_dX13_ranked_32_32 0 rfl)
theorem dX13_ranked_33 : decode cX13_ranked 33 = .ok (.istore 4, 2) := zo_54 (zi_at zh_dX13_ranked_32_32 1 rfl) (zi_at zh_dX13_ranked_32_32 2 rfl)
theorem dX13_ranked_35 : decode cX13_ranked 35 = .ok (.iconst 0, 1) := zo_3 (zi_at zh_dX13_ranked_32_32 3 rfl)
theorem dX13_ranked_36 : decode cX13_ranked 36 = .ok (.istore 5, 2) := zo_54 (zi_at zh_dX13_ranked_32_32 4 rfl) (zi_at zh_dX13_ranked_32_32 5 rfl)
theorem dX13_ranked_38 : decode cX13_ranked 38 = .ok (.iload 5, 2) := zo_21 (zi_at zh_dX13_ranked_32_32 6 rfl) (zi_at zh_dX13_ranked_32_32 7 rfl)
theorem dX13_ranked_40 : decode cX13_ranked 40 = .ok (.aload_n 0, 1) := zo_42 (zi_at zh_dX13_ranked_32_32 8 rfl)
theorem dX13_ranked_41 : decode cX13_ranked 41 = .ok (.getfield 239, 3) := zo_180 (zi_at zh_dX13_ranked_32_32 9 rfl) (zi_at zh_dX13_ranked_32_32 10 rfl) (zi_at zh_dX13_ranked_32_32 11 rfl) rfl
theorem dX13_ranked_44 : decode cX13_ranked 44 = .ok (.if_icmp .ge 45, 3) := zo_162 (zi_at zh_dX13_ranked_32_32 12 rfl) (zi_at zh_dX13_ranked_32_32 13 rfl) (zi_at zh_dX13_ranked_32_32 14 rfl) rfl
theorem dX13_ranked_47 : decode cX13_ranked 47 = .ok (.iload 4, 2) := zo_21 (zi_at zh_dX13_ranked_32_32 15 rfl) (zi_at zh_dX13_ranked_47_48 0 rfl)
theorem dX13_ranked_49 : decode cX13_ranked 49 = .ok (.iload 5, 2) := zo_21 (zi_at zh_dX13_ranked_47_48 1 rfl) (zi_at zh_dX13_ranked_47_48 2 rfl)
theorem dX13_ranked_51 : decode cX13_ranked 51 = .ok (.iload_n 3, 1) := zo_29 (zi_at zh_dX13_ranked_47_48 3 rfl)
theorem dX13_ranked_52 : decode cX13_ranked 52 = .ok (.if_icmp .eq 27, 3) := zo_159 (zi_at zh_dX13_ranked_47_48 4 rfl) (zi_at zh_dX13_ranked_47_48 5 rfl) (zi_at zh_dX13_ranked_47_48 6 rfl) rfl
theorem dX13_ranked_55 : decode cX13_ranked 55 = .ok (.aload_n 0, 1) := zo_42 (zi_at zh_dX13_ranked_47_48 7 rfl)
theorem dX13_ranked_56 : decode cX13_ranked 56 = .ok (.getfield 123, 3) := zo_180 (zi_at zh_dX13_ranked_47_48 8 rfl) (zi_at zh_dX13_ranked_47_48 9 rfl) (zi_at zh_dX13_ranked_47_48 10 rfl) rfl
theorem dX13_ranked_59 : decode cX13_ranked 59 = .ok (.iload 5, 2) := zo_21 (zi_at zh_dX13_ranked_47_48 11 rfl) (zi_at zh_dX13_ranked_47_48 12 rfl)
theorem dX13_ranked_61 : decode cX13_ranked 61 = .ok (.baload, 1) := zo_51 (zi_at zh_dX13_ranked_47_48 13 rfl)
theorem dX13_ranked_62 : decode cX13_ranked 62 = .ok (.ifCond .eq 17, 3) := zo_153 (zi_at zh_dX13_ranked_47_48 14 rfl) (zi_at zh_dX13_ranked_47_48 15 rfl) (zi_at zh_dX13_ranked_62_64 0 rfl) rfl
theorem dX13_ranked_65 : decode cX13_ranked 65 = .ok (.aload_n 0, 1) := zo_42 (zi_at zh_dX13_ranked_62_64 1 rfl)
theorem dX13_ranked_66 : decode cX13_ranked 66 = .ok (.iload 5, 2) := zo_21 (zi_at zh_dX13_ranked_62_64 2 rfl) (zi_at zh_dX13_ranked_62_64 3 rfl)
theorem dX13_ranked_68 : decode cX13_ranked 68 = .ok (.iload_n 3, 1) := zo_29 (zi_at zh_dX13_ranked_62_64 4 rfl)
theorem dX13_ranked_69 : decode cX13_ranked 69 = .ok (.invokevirtual 457, 3) := zo_182 (zi_at zh_dX13_ranked_62_64 5 rfl) (zi_at zh_dX13_ranked_62_64 6 rfl) (zi_at zh_dX13_ranked_62_64 7 rfl) rfl
theorem dX13_ranked_72 : decode cX13_ranked 72 = .ok (.ifCond .eq 7, 3) := zo_153 (zi_at zh_dX13_ranked_62_64 8 rfl) (zi_at zh_dX13_ranked_62_64 9 rfl) (zi_at zh_dX13_ranked_62_64 10 rfl) rfl
theorem dX13_ranked_75 : decode cX13_ranked 75 = .ok (.iconst 1, 1) := zo_4 (zi_at zh_dX13_ranked_62_64 11 rfl)
theorem dX13_ranked_76 : decode cX13_ranked 76 = .ok (.goto 4, 3) := zo_167 (zi_at zh_dX13_ranked_62_64 12 rfl) (zi_at zh_dX13_ranked_62_64 13 rfl) (zi_at zh_dX13_ranked_62_64 14 rfl) rfl
theorem dX13_ranked_79 : decode cX13_ranked 79 = .ok (.iconst 0, 1) := zo_3 (zi_at zh_dX13_ranked_62_64 15 rfl)
theorem dX13_ranked_80 : decode cX13_ranked 80 = .ok (.iadd, 1) := zo_96 (zi_at zh_dX13_ranked_80_80 0 rfl)
theorem dX13_ranked_81 : decode cX13_ranked 81 = .ok (.istore 4, 2) := zo_54 (zi_at zh_dX13_ranked_80_80 1 rfl) (zi_at zh_dX13_ranked_80_80 2 rfl)
theorem dX13_ranked_83 : decode cX13_ranked 83 = .ok (.iinc 5 1, 3) := zo_132 (zi_at zh_dX13_ranked_80_80 3 rfl) (zi_at zh_dX13_ranked_80_80 4 rfl) (zi_at zh_dX13_ranked_80_80 5 rfl) rfl
theorem dX13_ranked_86 : decode cX13_ranked 86 = .ok (.goto (-48), 3) := zo_167 (zi_at zh_dX13_ranked_80_80 6 rfl) (zi_at zh_dX13_ranked_80_80 7 rfl) (zi_at zh_dX13_ranked_80_80 8 rfl) rfl
theorem dX13_ranked_89 : decode cX13_ranked 89 = .ok (.iload 4, 2) := zo_21 (zi_at zh_dX13_ranked_80_80 9 rfl) (zi_at zh_dX13_ranked_80_80 10 rfl)
theorem dX13_ranked_91 : decode cX13_ranked 91 = .ok (.iload_n 1, 1) := zo_27 (zi_at zh_dX13_ranked_80_80 11 rfl)
theorem dX13_ranked_92 : decode cX13_ranked 92 = .ok (.if_icmp .ne 5, 3) := zo_160 (zi_at zh_dX13_ranked_80_80 12 rfl) (zi_at zh_dX13_ranked_80_80 13 rfl) (zi_at zh_dX13_ranked_80_80 14 rfl) rfl
theorem dX13_ranked_95 : decode cX13_ranked 95 = .ok (.iload_n 3, 1) := zo_29 (zi_at zh_dX13_ranked_80_80 15 rfl)
theorem dX13_ranked_96 : decode cX13_ranked 96 = .ok (.ireturn, 1) := zo_172 (zi_at zh_dX13_ranked_96_96 0 rfl)
theorem dX13_ranked_97 : decode cX13_ranked 97 = .ok (.iinc 3 1, 3) := zo_132 (zi_at zh_dX13_ranked_96_96 1 rfl) (zi_at zh_dX13_ranked_96_96 2 rfl) (zi_at zh_dX13_ranked_96_96 3 rfl) rfl
theorem dX13_ranked_100 : decode cX13_ranked 100 = .ok (.goto (-88), 3) := zo_167 (zi_at zh_dX13_ranked_96_96 4 rfl) (zi_at zh_dX13_ranked_96_96 5 rfl) (zi_at zh_dX13_ranked_96_96 6 rfl) rfl
theorem dX13_ranked_103 : decode cX13_ranked 103 = .ok (.iconst (-1), 1) := zo_2 (zi_at zh_dX13_ranked_96_96 7 rfl)
theorem dX13_ranked_104 : decode cX13_ranked 104 = .ok (.ireturn, 1) := zo_172 (zi_at zh_dX13_ranked_96_96 8 rfl)
theorem hz_yX13_score_1 : yX13_score.cls ≠ "java/lang/invoke/MethodHandle" ∧ yX13_score.cls ≠ "java/lang/invoke/VarHandle" ∧ (parseMethodDescriptor yX13_score.desc).map (fun d => d.parameters.length) = some 1 := by decide +kernel
theorem hz_yX13_sorted_2 : yX13_sorted.cls ≠ "java/lang/invoke/MethodHandle" ∧ yX13_sorted.cls ≠ "java/lang/invoke/VarHandle" ∧ (parseMethodDescriptor yX13_sorted.desc).map (fun d => d.parameters.length) = some 2 := by decide +kernel
theorem hz_yX13_isBetter_2 : yX13_isBetter.cls ≠ "java/lang/invoke/MethodHandle" ∧ yX13_isBetter.cls ≠ "java/lang/invoke/VarHandle" ∧ (parseMethodDescriptor yX13_isBetter.desc).map (fun d => d.parameters.length) = some 2 := by decide +kernel

def v_thrownM : List Cond := .code yX13_thrown cX13_thrown 4 (some .int) :: vA
abbrev rm_thrownM : Room := { frames := 77, cells := 0, slots := 0, locals := 3080 }
def w_thrownM : Nat → Nat → Bool := wl [12, 32, 33, 36, 37] [(0, 0), (0, 18), (0, 19), (0, 20), (0, 21), (0, 22), (0, 23), (0, 24), (0, 25), (0, 26), (0, 55)]
set_option maxHeartbeats 4000000 in
set_option maxRecDepth 100000 in
theorem q_thrownM (l : Launch) (dC : Nat → ClassId) (dI : Nat → Nat → Nat) (cT : Nat → ClassId) (ad : Nat → Nat) (E : Nat → va_E) (sz : Nat) (a0 : Int32) (a1 : Int32) (a2 : Int32) (hI0 : IX cT shM spM 72 ad E) (hh0 : TXM E) : Met l yX13_thrown v_thrownM rm_thrownM (va_Pc [.ref (ad 0), .int a0, .int a1, .int a2] (HW dC dI (TYM cT) 72 ad E sz)) (va_Qi (S := Nat → va_E) (fun r u => IX cT shM spM 72 ad u ∧ Kp w_thrownM E u ∧ (((((0 ≤ a2.toInt ∧ a2.toInt ≤ (xi (E 0) 1).toInt) → (∃ (K9 o9 : Int32) (P9 T9 S9 O9 : Nat → Int32), TaM E a2 K9 o9 P9 T9 S9 O9 ∧ (((0 ≤ a0.toInt ∧ a0.toInt < K9.toInt) ∧ (0 ≤ a1.toInt ∧ a1.toInt < (xi (E 0) 8).toInt) ∧ (S9 a1.toNatClampNeg).toInt = 1) → r = T9 (16 * a0.toNatClampNeg + a1.toNatClampNeg)) ∧ (¬ ((0 ≤ a0.toInt ∧ a0.toInt < K9.toInt) ∧ (0 ≤ a1.toInt ∧ a1.toInt < (xi (E 0) 8).toInt) ∧ (S9 a1.toNatClampNeg).toInt = 1) → r = -1))) ∧ (¬ (0 ≤ a2.toInt ∧ a2.toInt ≤ (xi (E 0) 1).toInt) → (r = -1)))))) (HB dC dI 72 ad) (va_A (WX 72 ad E) sz)) 0 0 (va_A (WX 72 ad E) sz) := by
  refine Met.ofW (cc := cX13_thrown) (maxL := 4) (ret := (some .int)) (by decide) rfl ?_
  intro p e s m args below meth c s₁ B hml hv
  obtain ⟨hargs, hsz, hP, hK, hD0, hEV⟩ := hv
  subst hsz
  have hx := B.exec
  have hb := B.bytes
  have hr := B.returns
  have hts := atoms_spec (ws := v_thrownM) B.pre
  have hown : s.vm.findClass RX13 = some m.cls := findClass_of_methodNamed B.named
  have hlocks := B.notSynchronized
  have hinX13 : ∀ w ∈ u_ws RX13 TX13 97, w ∈ v_thrownM := fun w h => vA_in _ w (in_X13 w h)
  generalize hAe : va_A (WX 72 ad E) s.heap.size = A at hEV ⊢
  have hA : ∀ q : Nat, s.heap.size ≤ q → A q := fun q h => by rw [← hAe]; exact Or.inr h
  have hD : va_D A (WX 72 ad E) := by rw [← hAe]; exact hD0.self
  have hS : va_S A s.heap s.heap [] := va_S.rf
  have hI := hI0
  have hKp : Kp w_thrownM E E := Kp.rf
  have hl := lv_entry ([.ref (ad 0), .int a0, .int a1, .int a2]) (n := 4) (Nat.le_of_ble_eq_true rfl)
  obtain ⟨Q, hQ⟩ : ∃ Q, Q = MQ below (va_Qi (S := Nat → va_E) (fun r u => IX cT shM spM 72 ad u ∧ Kp w_thrownM E u ∧ (((((0 ≤ a2.toInt ∧ a2.toInt ≤ (xi (E 0) 1).toInt) → (∃ (K9 o9 : Int32) (P9 T9 S9 O9 : Nat → Int32), TaM E a2 K9 o9 P9 T9 S9 O9 ∧ (((0 ≤ a0.toInt ∧ a0.toInt < K9.toInt) ∧ (0 ≤ a1.toInt ∧ a1.toInt < (xi (E 0) 8).toInt) ∧ (S9 a1.toNatClampNeg).toInt = 1) → r = T9 (16 * a0.toNatClampNeg + a1.toNatClampNeg)) ∧ (¬ ((0 ≤ a0.toInt ∧ a0.toInt < K9.toInt) ∧ (0 ≤ a1.toInt ∧ a1.toInt < (xi (E 0) 8).toInt) ∧ (S9 a1.toNatClampNeg).toInt = 1) → r = -1))) ∧ (¬ (0 ≤ a2.toInt ∧ a2.toInt ≤ (xi (E 0) 1).toInt) → (r = -1)))))) (HB dC dI 72 ad) (A)) args s 0 0 (A) := ⟨_, rfl⟩
  rw [← hQ, show entryFrame m args 4 = _ from (congrArg (fun z => entryFrame m z 4) hargs).trans (lg_entry_eq _ _ _)]
  generalize (lg_sl ([.ref (ad 0), .int a0, .int a1, .int a2]) ++ List.replicate (4 - (lg_sl ([.ref (ad 0), .int a0, .int a1, .int a2])).length) Slot.unset).toArray = ls at hl ⊢
  have hl : lv_has ls 4 [(0, .ref (ad 0)), (1, .int a0), (2, .int a1), (3, .int a2)] := hl
  have z0z : (0 : Int32).toInt = 0 := rfl
  have ib8 : 0 ≤ (xi (E 0) 8).toInt ∧ (xi (E 0) 8).toInt ≤ 16 := hI0.iv 0 (Nat.le_of_ble_eq_true rfl) rfl (Nat.le_of_ble_eq_true rfl) rfl
  have ib46 : 0 ≤ (xi (E 0) 46).toInt ∧ (xi (E 0) 46).toInt ≤ 20 := hI0.iv 0 (Nat.le_of_ble_eq_true rfl) rfl (Nat.le_of_ble_eq_true rfl) rfl
  have hN16 : (xi (E 0) 8).toNatClampNeg ≤ 16 := by rw [tn_]; omega
  have z0 := ln_0
  have z1 := ln_1
  have zm1 := ln_m1
  refine lv_aload_n hx hb dX13_thrown_0 rfl (lv_at hl 0 rfl) ?_
  refine lv_iload_n hx hb dX13_thrown_1 rfl (lv_at hl 3 rfl) ?_
  refine th_i (va_runV (As := [.int a2]) (rest := []) ⟨hx, hb, hml, hown, hts⟩ (q_scoreM l dC dI cT ad E s.heap.size a2 hI (by exact hh0)) (cwV 1 hts (gi_V (in_33 _ (zs4 (zs4 (zs4 (zs1 (zs0)))))) (in_33 _ (zs4 (zs4 (zs4 (zs1 (zs1 (zs0))))))) (in_33 _ (zs4 (zs4 (zs4 (zs1 (zs1 (zs1 (zs0)))))))) (in_24 _ (zs4 (zs4 (zs4 (zs1 (zs1 (zs1 (zs0)))))))) (in_33 _ (zs16 (zs0)))) rfl rfl rfl ⟨rfl, hz_yX13_score_1⟩ ⟨Nat.le_of_ble_eq_true rfl, Nat.le_of_ble_eq_true rfl⟩) ⟨HW_bl, va_recv hK hP (ci := 14) (q0 := 0) rfl (hI.ob 0 (Nat.le_of_ble_eq_true rfl) rfl), (HW_wi hP hK (WX_D hD) hS hA hEV)⟩ rfl rfl hl.1 rfl (lv_room (Nat.le_of_ble_eq_true rfl)) dX13_thrown_2 ⟨Nat.le_of_ble_eq_true rfl, Nat.le_of_ble_eq_true rfl⟩) (WX_D hD) hS hA (fun r1 E2 H locs hw hP hS => ?_)
  obtain ⟨hI, kq3, hw⟩ := hw
  have hKb := hKp
  have hKp := hKp.tr kq3 (wl_sub rfl rfl)
  rcases hw with hw | hw
  · -- scoreM, case 0
    obtain ⟨rfl, f4, f5⟩ := hw
    have i6 : 0 ≤ (xi (E 0) 1).toInt ∧ (xi (E 0) 1).toInt ≤ 400 := (show 0 ≤ (xi (E 0) 1).toInt ∧ (xi (E 0) 1).toInt ≤ 400 from hI0.iv 0 (Nat.le_of_ble_eq_true rfl) rfl (Nat.le_of_ble_eq_true rfl) rfl)
    have i7 : 0 ≤ (xi (E 0) 8).toInt ∧ (xi (E 0) 8).toInt ≤ 16 := (show 0 ≤ (xi (E 0) 8).toInt ∧ (xi (E 0) 8).toInt ≤ 16 from hI0.iv 0 (Nat.le_of_ble_eq_true rfl) rfl (Nat.le_of_ble_eq_true rfl) rfl)
    have i8 : 0 ≤ (xi (E 0) 46).toInt ∧ (xi (E 0) 46).toInt ≤ 20 := (show 0 ≤ (xi (E 0) 46).toInt ∧ (xi (E 0) 46).toInt ≤ 20 from hI0.iv 0 (Nat.le_of_ble_eq_true rfl) rfl (Nat.le_of_ble_eq_true rfl) rfl)
    obtain ⟨y9, ey9⟩ : ∃ y, xi (E2 0) 55 = y := ⟨_, rfl⟩
    have fy9 : xv (E2 0) 55 = .int y9 := (hI.fi 0 (Nat.le_of_ble_eq_true rfl) rfl (Nat.le_of_ble_eq_true rfl) rfl).trans (congrArg Value.int ey9)
    have iy9 : 0 ≤ y9.toInt ∧ y9.toInt ≤ 20 := by rw [← ey9]; exact hI.iv 0 (Nat.le_of_ble_eq_true rfl) rfl (Nat.le_of_ble_eq_true rfl) rfl
    refine lv_if_eq (tgt := 39) hx hb dX13_thrown_5 (by decide) (fun c10 => ?_) (fun c10 => ?_)
    · --5 taken
      exact absurd c10 (by decide)
    · --5 not
      refine lv_iload_n hx hb dX13_thrown_8 rfl (lv_at hl 1 rfl) ?_
      refine lv_iconst (v := 0) hx hb dX13_thrown_9 (by decide) ?_
      refine lv_aload_n hx hb dX13_thrown_10 rfl (lv_at hl 0 rfl) ?_
      refine th_get (ci := 14) (C := RX13) (T := TX13) (N := 97) (v := .int y9) hx hb hts hinX13 hown hK hP hI 0 (Nat.le_of_ble_eq_true rfl) rfl rfl 55 (Nat.le_of_ble_eq_true rfl) (hts _ (vA_in _ _ (in_32 _ (zs16 (zs1 (zs1 (zs1 (zs0)))))))) (fun _ h9 => h9) fy9 dX13_thrown_11 ?_
      refine lv_iconst (v := 1) hx hb dX13_thrown_14 (by decide) ?_
      refine lv_isub hx hb dX13_thrown_15 ?_
      refine lv_topi (fun y11 ey11 => ?_)
      obtain ⟨ty11, iy11⟩ := ti_sub (e := (-1)) (f := 19) iy9 ln_1 ey11 (by decide)
      have ty11 : y11.toInt = y9.toInt - 1 := ty11
      have iy11 : -1 ≤ y11.toInt ∧ y11.toInt ≤ 19 := iy11
      refine th_pi (va_runS (As := [.int a0, .int 0, .int y11]) (rest := []) ⟨hx, hb, hml, hown, hts⟩ (q_isIn l a0 (0 : Int32) y11) (va_cwS 3 hts (gi_S (in_24 _ (zs16 (zs4 (zs4 (zs4 (zs0)))))) (in_24 _ (zs16 (zs4 (zs4 (zs4 (zs1 (zs0))))))) (in_24 _ (zs4 (zs4 (zs4 (zs1 (zs1 (zs1 (zs0)))))))) (in_24 _ (zs16 (zs4 (zs4 (zs4 (zs1 (zs1 (zs0))))))))) rfl rfl rfl hz_yX13_isIn_3 ⟨Nat.le_of_ble_eq_true rfl, Nat.le_of_ble_eq_true rfl⟩) ⟨fun _ _ _ _ q => q, fun _ _ _ => ⟨rfl, trivial⟩⟩ rfl rfl hl.1 rfl (lv_room (Nat.le_of_ble_eq_true rfl)) dX13_thrown_16 ⟨Nat.le_of_ble_eq_true rfl, Nat.le_of_ble_eq_true rfl⟩) hS (fun r12 H1 locs1 hw hk1 hS => ?_)
      have hP := ub_keep hP hk1
      generalize H1 = H at hP hS ⊢
      generalize locs1 = locs at hS ⊢
      rcases hw with hw | hw
      · -- isIn, case 0
        obtain ⟨rfl, f13⟩ := hw
        have t14 : (0 : Int) ≤ a0.toInt := f13.1
        have t15 : a0.toInt ≤ y11.toInt := f13.2
        have i16 : 0 ≤ a0.toInt ∧ a0.toInt ≤ 2147483647 := iv_le_r t14 (il_ 0) (iv_all _) (by decide)
        have i17 : 0 ≤ a0.toInt ∧ a0.toInt ≤ 19 := iv_le_l t15 i16 iy11 (by decide)
        have i18 : 0 ≤ y11.toInt ∧ y11.toInt ≤ 19 := iv_le_r t15 i16 iy11 (by decide)
        refine lv_if_eq (tgt := 39) hx hb dX13_thrown_19 (by decide) (fun c19 => ?_) (fun c19 => ?_)
        · --19 taken
          exact absurd c19 (by decide)
        · --19 not
          refine lv_aload_n hx hb dX13_thrown_22 rfl (lv_at hl 0 rfl) ?_
          refine lv_iload_n hx hb dX13_thrown_23 rfl (lv_at hl 2 rfl) ?_
          refine th_ri (va_runV (As := [.int a1]) (rest := []) ⟨hx, hb, hml, hown, hts⟩ (q_isBoat l dC dI cT ad E2 H.size a1 hI) (cwV 1 hts (gi_V (in_24 _ (zs16 (zs1 (zs1 (zs0))))) (in_24 _ (zs16 (zs1 (zs1 (zs1 (zs0)))))) (in_24 _ (zs16 (zs4 (zs0)))) (in_24 _ (zs4 (zs4 (zs4 (zs1 (zs1 (zs1 (zs0)))))))) (in_24 _ (zs16 (zs4 (zs1 (zs0)))))) rfl rfl rfl ⟨rfl, hz_yX13_isBoat_1⟩ ⟨Nat.le_of_ble_eq_true rfl, Nat.le_of_ble_eq_true rfl⟩) ⟨HW_bl, va_recv hK hP (ci := 14) (q0 := 0) rfl (hI.ob 0 (Nat.le_of_ble_eq_true rfl) rfl), (HW_wi hP hK (WX_D hD) hS hA hEV)⟩ rfl rfl hl.1 rfl (lv_room (Nat.le_of_ble_eq_true rfl)) dX13_thrown_24 ⟨Nat.le_of_ble_eq_true rfl, Nat.le_of_ble_eq_true rfl⟩) hS hP (fun r20 H locs hw hP hS => ?_)
          rcases hw with hw | hw
          · -- isBoat, case 0
            obtain ⟨rfl, f21, f22⟩ := hw
            try rw [hKp.ei 0 8 rfl] at f21
            refine lv_if_eq (tgt := 39) hx hb dX13_thrown_27 (by decide) (fun c23 => ?_) (fun c23 => ?_)
            · --27 taken
              exact absurd c23 (by decide)
            · --27 not
              refine lv_aload_n hx hb dX13_thrown_30 rfl (lv_at hl 0 rfl) ?_
              refine th_get (ci := 14) (C := RX13) (T := TX13) (N := 97) (v := .ref (ad 37)) hx hb hts hinX13 hown hK hP hI 0 (Nat.le_of_ble_eq_true rfl) rfl rfl 54 (Nat.le_of_ble_eq_true rfl) (hts _ (vA_in _ _ (in_32 _ (zs4 (zs4 (zs4 (zs1 (zs1 (zs0))))))))) (fun _ h9 => h9) (hI.fr 0 (Nat.le_of_ble_eq_true rfl) rfl (Nat.le_of_ble_eq_true rfl) 37 rfl) dX13_thrown_31 ?_
              refine lv_iload_n hx hb dX13_thrown_34 rfl (lv_at hl 2 rfl) ?_
              have n25 : vp_in a1 16 := (iv_in (n := 16) f22 (by decide))
              refine th_zald hx hb hK hP hI 37 (Nat.le_of_ble_eq_true rfl) rfl rfl n25 dX13_thrown_35 (fun y24 ey24 => ?_)
              have iy24 : 0 ≤ y24.toInt ∧ y24.toInt ≤ 1 := hI.el 37 (Nat.le_of_ble_eq_true rfl) rfl n25 (fun _ => rfl) ey24
              refine lv_if_ne (tgt := 41) hx hb dX13_thrown_36 (by decide) (fun c26 => ?_) (fun c26 => ?_)
              · --36 taken
                have t27 : ¬ y24.toInt = 0 := ti_ne c26
                have i28 : 1 ≤ y24.toInt ∧ y24.toInt ≤ 1 := iv_ne_l t27 iy24 (il_ 0)
                refine lv_aload_n hx hb dX13_thrown_41 rfl (lv_at hl 0 rfl) ?_
                refine th_get (ci := 14) (C := RX13) (T := TX13) (N := 97) (v := .ref (ad 36)) hx hb hts hinX13 hown hK hP hI 0 (Nat.le_of_ble_eq_true rfl) rfl rfl 53 (Nat.le_of_ble_eq_true rfl) (hts _ (vA_in _ _ (in_32 _ (zs4 (zs4 (zs4 (zs1 (zs0)))))))) (fun _ h9 => h9) (hI.fr 0 (Nat.le_of_ble_eq_true rfl) rfl (Nat.le_of_ble_eq_true rfl) 36 rfl) dX13_thrown_42 ?_
                refine lv_bipush (v := 16) hx hb dX13_thrown_45 (by decide) ?_
                refine lv_iload_n hx hb dX13_thrown_47 rfl (lv_at hl 1 rfl) ?_
                refine lv_imul hx hb dX13_thrown_48 ?_
                refine lv_topi (fun y29 ey29 => ?_)
                obtain ⟨ty29, iy29⟩ := ti_mul (e := 0) (f := 304) ln_16 i17 ey29 (by decide)
                have ty29 : y29.toInt = 16 * a0.toInt := ty29
                have iy29 : 0 ≤ y29.toInt ∧ y29.toInt ≤ 304 := iy29
                refine lv_iload_n hx hb dX13_thrown_49 rfl (lv_at hl 2 rfl) ?_
                refine lv_iadd hx hb dX13_thrown_50 ?_
                refine lv_topi (fun y30 ey30 => ?_)
                obtain ⟨ty30, iy30⟩ := ti_add (e := 0) (f := 319) iy29 f22 ey30 (by decide)
                have ty30 : y30.toInt = y29.toInt + a1.toInt := ty30
                have iy30 : 0 ≤ y30.toInt ∧ y30.toInt ≤ 319 := iy30
                have n32 : vp_in y30 320 := (iv_in (n := 320) iy30 (by decide))
                refine th_zald hx hb hK hP hI 36 (Nat.le_of_ble_eq_true rfl) rfl rfl n32 dX13_thrown_51 (fun y31 ey31 => ?_)
                have iy31 : 0 ≤ y31.toInt ∧ y31.toInt ≤ 1 := hI.el 36 (Nat.le_of_ble_eq_true rfl) rfl n32 (fun _ => rfl) ey31
                refine lv_if_eq (tgt := 59) hx hb dX13_thrown_52 (by decide) (fun c33 => ?_) (fun c33 => ?_)
                · --52 taken
                  have t34 : y31.toInt = 0 := ti_eq c33
                  have i35 : 0 ≤ y31.toInt ∧ y31.toInt ≤ 0 := iv_eqi t34 iy31 (il_ 0) (by decide)
                  refine lv_iconst (v := 0) hx hb dX13_thrown_59 (by decide) ?_
                  rw [hQ]
                  exact W.iret (v := 0) hx hb hr (fun t ht hW => ⟨⟨0, E2, rfl, ⟨hI, hKp, ⟨fun _ => by obtain ⟨K9, o9, h8, h9⟩ := f5; rw [show xi (E2 0) 55 = y9 from vi_e fy9] at h8; subst h8; exact ⟨_, o9, _, _, _, _, h9, ⟨fun _ => (show (0 : Int32) = y31 from Int32.toInt_inj.mp (by have z0 : (0 : Int32).toInt = 0 := rfl; have z1 : (1 : Int32).toInt = 1 := rfl; omega)).trans (show y31 = xi (E2 36) (16 * a0.toNatClampNeg + a1.toNatClampNeg) by rw [ey31, (show y30.toNatClampNeg = 16 * a0.toNatClampNeg + a1.toNatClampNeg by rw [tn_ y30, tn_ a0, tn_ a1]; omega)]), fun q9 => by exfalso; refine q9 ⟨by omega, by omega, ?_⟩; rw [← ey24]; omega⟩⟩, fun g9 => by exfalso; omega⟩⟩, by show va_P (dC, dI) vwCl (WX 72 ad E2) t.heap; rw [ht]; exact hP⟩, hS.F ht⟩) hS.2.2 dX13_thrown_60
                · --52 not
                  have t36 : ¬ y31.toInt = 0 := ti_ne c33
                  have i37 : 1 ≤ y31.toInt ∧ y31.toInt ≤ 1 := iv_ne_l t36 iy31 (il_ 0)
                  refine lv_iconst (v := 1) hx hb dX13_thrown_55 (by decide) ?_
                  refine lv_goto (tgt := 60) hx hb dX13_thrown_56 (by decide) ?_
                  rw [hQ]
                  exact W.iret (v := 1) hx hb hr (fun t ht hW => ⟨⟨1, E2, rfl, ⟨hI, hKp, ⟨fun _ => by obtain ⟨K9, o9, h8, h9⟩ := f5; rw [show xi (E2 0) 55 = y9 from vi_e fy9] at h8; subst h8; exact ⟨_, o9, _, _, _, _, h9, ⟨fun _ => (show (1 : Int32) = y31 from Int32.toInt_inj.mp (by have z0 : (0 : Int32).toInt = 0 := rfl; have z1 : (1 : Int32).toInt = 1 := rfl; omega)).trans (show y31 = xi (E2 36) (16 * a0.toNatClampNeg + a1.toNatClampNeg) by rw [ey31, (show y30.toNatClampNeg = 16 * a0.toNatClampNeg + a1.toNatClampNeg by rw [tn_ y30, tn_ a0, tn_ a1]; omega)]), fun q9 => by exfalso; refine q9 ⟨by omega, by omega, ?_⟩; rw [← ey24]; omega⟩⟩, fun g9 => by exfalso; omega⟩⟩, by show va_P (dC, dI) vwCl (WX 72 ad E2) t.heap; rw [ht]; exact hP⟩, hS.F ht⟩) hS.2.2 dX13_thrown_60
              · --36 not
                have t38 : y24.toInt = 0 := ti_eq c26
                have i39 : 0 ≤ y24.toInt ∧ y24.toInt ≤ 0 := iv_eqi t38 iy24 (il_ 0) (by decide)
                refine lv_iconst (v := -1) hx hb dX13_thrown_39 (by decide) ?_
                rw [hQ]
                exact W.iret (v := (-1)) hx hb hr (fun t ht hW => ⟨⟨(-1), E2, rfl, ⟨hI, hKp, ⟨fun _ => by obtain ⟨K9, o9, h8, h9⟩ := f5; rw [show xi (E2 0) 55 = y9 from vi_e fy9] at h8; subst h8; exact ⟨_, o9, _, _, _, _, h9, ⟨fun q9 => by exfalso; obtain ⟨q8, q7, q6⟩ := q9; have q5 := congrArg Int32.toInt ey24; omega, fun _ => rfl⟩⟩, fun g9 => by exfalso; omega⟩⟩, by show va_P (dC, dI) vwCl (WX 72 ad E2) t.heap; rw [ht]; exact hP⟩, hS.F ht⟩) hS.2.2 dX13_thrown_40
          · -- isBoat, case 1
            obtain ⟨rfl, f40⟩ := hw
            try rw [hKp.ei 0 8 rfl] at f40
            refine lv_if_eq (tgt := 39) hx hb dX13_thrown_27 (by decide) (fun c41 => ?_) (fun c41 => ?_)
            · --27 taken
              refine lv_iconst (v := -1) hx hb dX13_thrown_39 (by decide) ?_
              rw [hQ]
              exact W.iret (v := (-1)) hx hb hr (fun t ht hW => ⟨⟨(-1), E2, rfl, ⟨hI, hKp, ⟨fun _ => by obtain ⟨K9, o9, h8, h9⟩ := f5; rw [show xi (E2 0) 55 = y9 from vi_e fy9] at h8; subst h8; exact ⟨_, o9, _, _, _, _, h9, ⟨fun q9 => by exfalso; obtain ⟨q8, q7, q6⟩ := q9; omega, fun _ => rfl⟩⟩, fun g9 => by exfalso; omega⟩⟩, by show va_P (dC, dI) vwCl (WX 72 ad E2) t.heap; rw [ht]; exact hP⟩, hS.F ht⟩) hS.2.2 dX13_thrown_40
            · --27 not
              exact absurd c41 (by decide)
      · -- isIn, case 1
        obtain ⟨rfl, f42⟩ := hw
        have t43 : ¬ ((0 : Int) ≤ a0.toInt ∧ a0.toInt ≤ y11.toInt) := f42
        refine lv_if_eq (tgt := 39) hx hb dX13_thrown_19 (by decide) (fun c44 => ?_) (fun c44 => ?_)
        · --19 taken
          refine lv_iconst (v := -1) hx hb dX13_thrown_39 (by decide) ?_
          rw [hQ]
          exact W.iret (v := (-1)) hx hb hr (fun t ht hW => ⟨⟨(-1), E2, rfl, ⟨hI, hKp, ⟨fun _ => by obtain ⟨K9, o9, h8, h9⟩ := f5; rw [show xi (E2 0) 55 = y9 from vi_e fy9] at h8; subst h8; exact ⟨_, o9, _, _, _, _, h9, ⟨fun q9 => by exfalso; obtain ⟨q8, q7, q6⟩ := q9; omega, fun _ => rfl⟩⟩, fun g9 => by exfalso; omega⟩⟩, by show va_P (dC, dI) vwCl (WX 72 ad E2) t.heap; rw [ht]; exact hP⟩, hS.F ht⟩) hS.2.2 dX13_thrown_40
        · --19 not
          exact absurd c44 (by decide)
  · -- scoreM, case 1
    obtain ⟨rfl, f45⟩ := hw
    have i46 : 0 ≤ (xi (E 0) 1).toInt ∧ (xi (E 0) 1).toInt ≤ 400 := (show 0 ≤ (xi (E 0) 1).toInt ∧ (xi (E 0) 1).toInt ≤ 400 from hI0.iv 0 (Nat.le_of_ble_eq_true rfl) rfl (Nat.le_of_ble_eq_true rfl) rfl)
    have i47 : 0 ≤ (xi (E 0) 8).toInt ∧ (xi (E 0) 8).toInt ≤ 16 := (show 0 ≤ (xi (E 0) 8).toInt ∧ (xi (E 0) 8).toInt ≤ 16 from hI0.iv 0 (Nat.le_of_ble_eq_true rfl) rfl (Nat.le_of_ble_eq_true rfl) rfl)
    have i48 : 0 ≤ (xi (E 0) 46).toInt ∧ (xi (E 0) 46).toInt ≤ 20 := (show 0 ≤ (xi (E 0) 46).toInt ∧ (xi (E 0) 46).toInt ≤ 20 from hI0.iv 0 (Nat.le_of_ble_eq_true rfl) rfl (Nat.le_of_ble_eq_true rfl) rfl)
    refine lv_if_eq (tgt := 39) hx hb dX13_thrown_5 (by decide) (fun c49 => ?_) (fun c49 => ?_)
    · --5 taken
      refine lv_iconst (v := -1) hx hb dX13_thrown_39 (by decide) ?_
      rw [hQ]
      exact W.iret (v := (-1)) hx hb hr (fun t ht hW => ⟨⟨(-1), E2, rfl, ⟨hI, hKp, ⟨fun g9 => by exfalso; omega, fun _ => rfl⟩⟩, by show va_P (dC, dI) vwCl (WX 72 ad E2) t.heap; rw [ht]; exact hP⟩, hS.F ht⟩) hS.2.2 dX13_thrown_40
    · --5 not
      exact absurd c49 (by decide)
def v_totalM : List Cond := .code yX13_total cX13_total 3 (some .int) :: vA
abbrev rm_totalM : Room := { frames := 77, cells := 0, slots := 0, locals := 3080 }
def w_totalM : Nat → Nat → Bool := wl [12, 32, 33, 36, 37] [(0, 0), (0, 18), (0, 19), (0, 20), (0, 21), (0, 22), (0, 23), (0, 24), (0, 25), (0, 26), (0, 55)]
set_option maxHeartbeats 4000000 in
set_option maxRecDepth 100000 in
theorem q_totalM (l : Launch) (dC : Nat → ClassId) (dI : Nat → Nat → Nat) (cT : Nat → ClassId) (ad : Nat → Nat) (E : Nat → va_E) (sz : Nat) (a0 : Int32) (a1 : Int32) (hI0 : IX cT shM spM 72 ad E) (hh0 : TXM E) : Met l yX13_total v_totalM rm_totalM (va_Pc [.ref (ad 0), .int a0, .int a1] (HW dC dI (TYM cT) 72 ad E sz)) (va_Qi (S := Nat → va_E) (fun r u => IX cT shM spM 72 ad u ∧ Kp w_totalM E u ∧ (((((0 ≤ a1.toInt ∧ a1.toInt ≤ (xi (E 0) 1).toInt) → (∃ (K9 o9 : Int32) (P9 T9 S9 O9 : Nat → Int32), TaM E a1 K9 o9 P9 T9 S9 O9 ∧ (((0 ≤ a0.toInt ∧ a0.toInt < (xi (E 0) 8).toInt) ∧ (S9 a0.toNatClampNeg).toInt = 1) → r = O9 a0.toNatClampNeg) ∧ (¬ ((0 ≤ a0.toInt ∧ a0.toInt < (xi (E 0) 8).toInt) ∧ (S9 a0.toNatClampNeg).toInt = 1) → r = -1))) ∧ (¬ (0 ≤ a1.toInt ∧ a1.toInt ≤ (xi (E 0) 1).toInt) → (r = -1)))))) (HB dC dI 72 ad) (va_A (WX 72 ad E) sz)) 0 0 (va_A (WX 72 ad E) sz) := by
  refine Met.ofW (cc := cX13_total) (maxL := 3) (ret := (some .int)) (by decide) rfl ?_
  intro p e s m args below meth c s₁ B hml hv
  obtain ⟨hargs, hsz, hP, hK, hD0, hEV⟩ := hv
  subst hsz
  have hx := B.exec
  have hb := B.bytes
  have hr := B.returns
  have hts := atoms_spec (ws := v_totalM) B.pre
  have hown : s.vm.findClass RX13 = some m.cls := findClass_of_methodNamed B.named
  have hlocks := B.notSynchronized
  have hinX13 : ∀ w ∈ u_ws RX13 TX13 97, w ∈ v_totalM := fun w h => vA_in _ w (in_X13 w h)
  generalize hAe : va_A (WX 72 ad E) s.heap.size = A at hEV ⊢
  have hA : ∀ q : Nat, s.heap.size ≤ q → A q := fun q h => by rw [← hAe]; exact Or.inr h
  have hD : va_D A (WX 72 ad E) := by rw [← hAe]; exact hD0.self
  have hS : va_S A s.heap s.heap [] := va_S.rf
  have hI := hI0
  have hKp : Kp w_totalM E E := Kp.rf
  have hl := lv_entry ([.ref (ad 0), .int a0, .int a1]) (n := 3) (Nat.le_of_ble_eq_true rfl)
  obtain ⟨Q, hQ⟩ : ∃ Q, Q = MQ below (va_Qi (S := Nat → va_E) (fun r u => IX cT shM spM 72 ad u ∧ Kp w_totalM E u ∧ (((((0 ≤ a1.toInt ∧ a1.toInt ≤ (xi (E 0) 1).toInt) → (∃ (K9 o9 : Int32) (P9 T9 S9 O9 : Nat → Int32), TaM E a1 K9 o9 P9 T9 S9 O9 ∧ (((0 ≤ a0.toInt ∧ a0.toInt < (xi (E 0) 8).toInt) ∧ (S9 a0.toNatClampNeg).toInt = 1) → r = O9 a0.toNatClampNeg) ∧ (¬ ((0 ≤ a0.toInt ∧ a0.toInt < (xi (E 0) 8).toInt) ∧ (S9 a0.toNatClampNeg).toInt = 1) → r = -1))) ∧ (¬ (0 ≤ a1.toInt ∧ a1.toInt ≤ (xi (E 0) 1).toInt) → (r = -1)))))) (HB dC dI 72 ad) (A)) args s 0 0 (A) := ⟨_, rfl⟩
  rw [← hQ, show entryFrame m args 3 = _ from (congrArg (fun z => entryFrame m z 3) hargs).trans (lg_entry_eq _ _ _)]
  generalize (lg_sl ([.ref (ad 0), .int a0, .int a1]) ++ List.replicate (3 - (lg_sl ([.ref (ad 0), .int a0, .int a1])).length) Slot.unset).toArray = ls at hl ⊢
  have hl : lv_has ls 3 [(0, .ref (ad 0)), (1, .int a0), (2, .int a1)] := hl
  have z0z : (0 : Int32).toInt = 0 := rfl
  have ib8 : 0 ≤ (xi (E 0) 8).toInt ∧ (xi (E 0) 8).toInt ≤ 16 := hI0.iv 0 (Nat.le_of_ble_eq_true rfl) rfl (Nat.le_of_ble_eq_true rfl) rfl
  have ib46 : 0 ≤ (xi (E 0) 46).toInt ∧ (xi (E 0) 46).toInt ≤ 20 := hI0.iv 0 (Nat.le_of_ble_eq_true rfl) rfl (Nat.le_of_ble_eq_true rfl) rfl
  have hN16 : (xi (E 0) 8).toNatClampNeg ≤ 16 := by rw [tn_]; omega
  have z0 := ln_0
  have z1 := ln_1
  have zm1 := ln_m1
  refine lv_aload_n hx hb dX13_total_0 rfl (lv_at hl 0 rfl) ?_
  refine lv_iload_n hx hb dX13_total_1 rfl (lv_at hl 2 rfl) ?_
  refine th_i (va_runV (As := [.int a1]) (rest := []) ⟨hx, hb, hml, hown, hts⟩ (q_scoreM l dC dI cT ad E s.heap.size a1 hI (by exact hh0)) (cwV 1 hts (gi_V (in_33 _ (zs4 (zs4 (zs4 (zs1 (zs0)))))) (in_33 _ (zs4 (zs4 (zs4 (zs1 (zs1 (zs0))))))) (in_33 _ (zs4 (zs4 (zs4 (zs1 (zs1 (zs1 (zs0)))))))) (in_24 _ (zs4 (zs4 (zs4 (zs1 (zs1 (zs1 (zs0)))))))) (in_33 _ (zs16 (zs0)))) rfl rfl rfl ⟨rfl, hz_yX13_score_1⟩ ⟨Nat.le_of_ble_eq_true rfl, Nat.le_of_ble_eq_true rfl⟩) ⟨HW_bl, va_recv hK hP (ci := 14) (q0 := 0) rfl (hI.ob 0 (Nat.le_of_ble_eq_true rfl) rfl), (HW_wi hP hK (WX_D hD) hS hA hEV)⟩ rfl rfl hl.1 rfl (lv_room (Nat.le_of_ble_eq_true rfl)) dX13_total_2 ⟨Nat.le_of_ble_eq_true rfl, Nat.le_of_ble_eq_true rfl⟩) (WX_D hD) hS hA (fun r1 E2 H locs hw hP hS => ?_)
  obtain ⟨hI, kq3, hw⟩ := hw
  have hKb := hKp
  have hKp := hKp.tr kq3 (wl_sub rfl rfl)
  rcases hw with hw | hw
  · -- scoreM, case 0
    obtain ⟨rfl, f4, f5⟩ := hw
    have i6 : 0 ≤ (xi (E 0) 1).toInt ∧ (xi (E 0) 1).toInt ≤ 400 := (show 0 ≤ (xi (E 0) 1).toInt ∧ (xi (E 0) 1).toInt ≤ 400 from hI0.iv 0 (Nat.le_of_ble_eq_true rfl) rfl (Nat.le_of_ble_eq_true rfl) rfl)
    have i7 : 0 ≤ (xi (E 0) 8).toInt ∧ (xi (E 0) 8).toInt ≤ 16 := (show 0 ≤ (xi (E 0) 8).toInt ∧ (xi (E 0) 8).toInt ≤ 16 from hI0.iv 0 (Nat.le_of_ble_eq_true rfl) rfl (Nat.le_of_ble_eq_true rfl) rfl)
    have i8 : 0 ≤ (xi (E 0) 46).toInt ∧ (xi (E 0) 46).toInt ≤ 20 := (show 0 ≤ (xi (E 0) 46).toInt ∧ (xi (E 0) 46).toInt ≤ 20 from hI0.iv 0 (Nat.le_of_ble_eq_true rfl) rfl (Nat.le_of_ble_eq_true rfl) rfl)
    refine lv_if_eq (tgt := 34) hx hb dX13_total_5 (by decide) (fun c9 => ?_) (fun c9 => ?_)
    · --5 taken
      exact absurd c9 (by decide)
    · --5 not
      refine lv_aload_n hx hb dX13_total_8 rfl (lv_at hl 0 rfl) ?_
      refine lv_iload_n hx hb dX13_total_9 rfl (lv_at hl 1 rfl) ?_
      refine th_ri (va_runV (As := [.int a0]) (rest := []) ⟨hx, hb, hml, hown, hts⟩ (q_isBoat l dC dI cT ad E2 H.size a0 hI) (cwV 1 hts (gi_V (in_24 _ (zs16 (zs1 (zs1 (zs0))))) (in_24 _ (zs16 (zs1 (zs1 (zs1 (zs0)))))) (in_24 _ (zs16 (zs4 (zs0)))) (in_24 _ (zs4 (zs4 (zs4 (zs1 (zs1 (zs1 (zs0)))))))) (in_24 _ (zs16 (zs4 (zs1 (zs0)))))) rfl rfl rfl ⟨rfl, hz_yX13_isBoat_1⟩ ⟨Nat.le_of_ble_eq_true rfl, Nat.le_of_ble_eq_true rfl⟩) ⟨HW_bl, va_recv hK hP (ci := 14) (q0 := 0) rfl (hI.ob 0 (Nat.le_of_ble_eq_true rfl) rfl), (HW_wi hP hK (WX_D hD) hS hA hEV)⟩ rfl rfl hl.1 rfl (lv_room (Nat.le_of_ble_eq_true rfl)) dX13_total_10 ⟨Nat.le_of_ble_eq_true rfl, Nat.le_of_ble_eq_true rfl⟩) hS hP (fun r10 H locs hw hP hS => ?_)
      rcases hw with hw | hw
      · -- isBoat, case 0
        obtain ⟨rfl, f11, f12⟩ := hw
        try rw [hKp.ei 0 8 rfl] at f11
        refine lv_if_eq (tgt := 34) hx hb dX13_total_13 (by decide) (fun c13 => ?_) (fun c13 => ?_)
        · --13 taken
          exact absurd c13 (by decide)
        · --13 not
          refine lv_aload_n hx hb dX13_total_16 rfl (lv_at hl 0 rfl) ?_
          refine th_get (ci := 14) (C := RX13) (T := TX13) (N := 97) (v := .ref (ad 37)) hx hb hts hinX13 hown hK hP hI 0 (Nat.le_of_ble_eq_true rfl) rfl rfl 54 (Nat.le_of_ble_eq_true rfl) (hts _ (vA_in _ _ (in_32 _ (zs4 (zs4 (zs4 (zs1 (zs1 (zs0))))))))) (fun _ h9 => h9) (hI.fr 0 (Nat.le_of_ble_eq_true rfl) rfl (Nat.le_of_ble_eq_true rfl) 37 rfl) dX13_total_17 ?_
          refine lv_iload_n hx hb dX13_total_20 rfl (lv_at hl 1 rfl) ?_
          have n15 : vp_in a0 16 := (iv_in (n := 16) f12 (by decide))
          refine th_zald hx hb hK hP hI 37 (Nat.le_of_ble_eq_true rfl) rfl rfl n15 dX13_total_21 (fun y14 ey14 => ?_)
          have iy14 : 0 ≤ y14.toInt ∧ y14.toInt ≤ 1 := hI.el 37 (Nat.le_of_ble_eq_true rfl) rfl n15 (fun _ => rfl) ey14
          refine lv_if_eq (tgt := 34) hx hb dX13_total_22 (by decide) (fun c16 => ?_) (fun c16 => ?_)
          · --22 taken
            have t17 : y14.toInt = 0 := ti_eq c16
            have i18 : 0 ≤ y14.toInt ∧ y14.toInt ≤ 0 := iv_eqi t17 iy14 (il_ 0) (by decide)
            refine lv_iconst (v := -1) hx hb dX13_total_34 (by decide) ?_
            rw [hQ]
            exact W.iret (v := (-1)) hx hb hr (fun t ht hW => ⟨⟨(-1), E2, rfl, ⟨hI, hKp, ⟨fun _ => by obtain ⟨K9, o9, h8, h9⟩ := f5; exact ⟨_, o9, _, _, _, _, h9, ⟨fun q9 => by exfalso; obtain ⟨q8, q6⟩ := q9; have q5 := congrArg Int32.toInt ey14; omega, fun _ => rfl⟩⟩, fun g9 => by exfalso; omega⟩⟩, by show va_P (dC, dI) vwCl (WX 72 ad E2) t.heap; rw [ht]; exact hP⟩, hS.F ht⟩) hS.2.2 dX13_total_35
          · --22 not
            have t19 : ¬ y14.toInt = 0 := ti_ne c16
            have i20 : 1 ≤ y14.toInt ∧ y14.toInt ≤ 1 := iv_ne_l t19 iy14 (il_ 0)
            refine lv_aload_n hx hb dX13_total_25 rfl (lv_at hl 0 rfl) ?_
            refine th_get (ci := 14) (C := RX13) (T := TX13) (N := 97) (v := .ref (ad 33)) hx hb hts hinX13 hown hK hP hI 0 (Nat.le_of_ble_eq_true rfl) rfl rfl 50 (Nat.le_of_ble_eq_true rfl) (hts _ (vA_in _ _ (in_32 _ (zs4 (zs4 (zs1 (zs1 (zs0)))))))) (fun _ h9 => h9) (hI.fr 0 (Nat.le_of_ble_eq_true rfl) rfl (Nat.le_of_ble_eq_true rfl) 33 rfl) dX13_total_26 ?_
            refine lv_iload_n hx hb dX13_total_29 rfl (lv_at hl 1 rfl) ?_
            have n22 : vp_in a0 16 := (iv_in (n := 16) f12 (by decide))
            refine th_iald hx hb hK hP hI 33 (Nat.le_of_ble_eq_true rfl) rfl rfl n22 dX13_total_30 (fun y21 ey21 => ?_)
            refine lv_goto (tgt := 35) hx hb dX13_total_31 (by decide) ?_
            rw [hQ]
            exact W.iret (v := y21) hx hb hr (fun t ht hW => ⟨⟨y21, E2, rfl, ⟨hI, hKp, ⟨fun _ => by obtain ⟨K9, o9, h8, h9⟩ := f5; exact ⟨_, o9, _, _, _, _, h9, ⟨fun _ => ey21, fun q9 => by exfalso; refine q9 ⟨by omega, ?_⟩; rw [← ey14]; omega⟩⟩, fun g9 => by exfalso; omega⟩⟩, by show va_P (dC, dI) vwCl (WX 72 ad E2) t.heap; rw [ht]; exact hP⟩, hS.F ht⟩) hS.2.2 dX13_total_35
      · -- isBoat, case 1
        obtain ⟨rfl, f23⟩ := hw
        try rw [hKp.ei 0 8 rfl] at f23
        refine lv_if_eq (tgt := 34) hx hb dX13_total_13 (by decide) (fun c24 => ?_) (fun c24 => ?_)
        · --13 taken
          refine lv_iconst (v := -1) hx hb dX13_total_34 (by decide) ?_
          rw [hQ]
          exact W.iret (v := (-1)) hx hb hr (fun t ht hW => ⟨⟨(-1), E2, rfl, ⟨hI, hKp, ⟨fun _ => by obtain ⟨K9, o9, h8, h9⟩ := f5; exact ⟨_, o9, _, _, _, _, h9, ⟨fun q9 => by exfalso; obtain ⟨q8, q6⟩ := q9; omega, fun _ => rfl⟩⟩, fun g9 => by exfalso; omega⟩⟩, by show va_P (dC, dI) vwCl (WX 72 ad E2) t.heap; rw [ht]; exact hP⟩, hS.F ht⟩) hS.2.2 dX13_total_35
        · --13 not
          exact absurd c24 (by decide)
  · -- scoreM, case 1
    obtain ⟨rfl, f25⟩ := hw
    have i26 : 0 ≤ (xi (E 0) 1).toInt ∧ (xi (E 0) 1).toInt ≤ 400 := (show 0 ≤ (xi (E 0) 1).toInt ∧ (xi (E 0) 1).toInt ≤ 400 from hI0.iv 0 (Nat.le_of_ble_eq_true rfl) rfl (Nat.le_of_ble_eq_true rfl) rfl)
    have i27 : 0 ≤ (xi (E 0) 8).toInt ∧ (xi (E 0) 8).toInt ≤ 16 := (show 0 ≤ (xi (E 0) 8).toInt ∧ (xi (E 0) 8).toInt ≤ 16 from hI0.iv 0 (Nat.le_of_ble_eq_true rfl) rfl (Nat.le_of_ble_eq_true rfl) rfl)
    have i28 : 0 ≤ (xi (E 0) 46).toInt ∧ (xi (E 0) 46).toInt ≤ 20 := (show 0 ≤ (xi (E 0) 46).toInt ∧ (xi (E 0) 46).toInt ≤ 20 from hI0.iv 0 (Nat.le_of_ble_eq_true rfl) rfl (Nat.le_of_ble_eq_true rfl) rfl)
    refine lv_if_eq (tgt := 34) hx hb dX13_total_5 (by decide) (fun c29 => ?_) (fun c29 => ?_)
    · --5 taken
      refine lv_iconst (v := -1) hx hb dX13_total_34 (by decide) ?_
      rw [hQ]
      exact W.iret (v := (-1)) hx hb hr (fun t ht hW => ⟨⟨(-1), E2, rfl, ⟨hI, hKp, ⟨fun g9 => by exfalso; omega, fun _ => rfl⟩⟩, by show va_P (dC, dI) vwCl (WX 72 ad E2) t.heap; rw [ht]; exact hP⟩, hS.F ht⟩) hS.2.2 dX13_total_35
    · --5 not
      exact absurd c29 (by decide)
def v_sortedLX : List Cond := .code yX13_sorted cX13_sorted 6 (some .int) :: vA
abbrev rm_sortedLX : Room := { frames := 0, cells := 0, slots := 0, locals := 0 }
def w_sortedLX : Nat → Nat → Bool := wl [34] []
set_option maxHeartbeats 4000000 in
set_option maxRecDepth 100000 in
theorem q_sortedLX (l : Launch) (dC : Nat → ClassId) (dI : Nat → Nat → Nat) (cT : Nat → ClassId) (ad : Nat → Nat) (E : Nat → va_E) (sz : Nat) (a0 : Int32) (hI0 : IX cT shM spM 72 ad E) (hh0 : 0 ≤ a0.toInt ∧ a0.toInt ≤ 15) : Met l yX13_sorted v_sortedLX rm_sortedLX (va_Pc [.ref (ad 0), .int a0, .ref (ad 34)] (HW dC dI (TYM cT) 72 ad E sz)) (va_Qi (S := Nat → va_E) (fun r u => IX cT shM spM 72 ad u ∧ Kp w_sortedLX E u ∧ ((0 ≤ r.toInt ∧ r.toInt ≤ 20) ∧ (KpR (xi (E 32)) (xi (E 36)) (xi (E 0) 55).toNatClampNeg a0.toNatClampNeg r.toNatClampNeg (xi (u 34))))) (HB dC dI 72 ad) (va_A (WX 72 ad E) sz)) 0 0 (va_A (WX 72 ad E) sz) := by
  refine Met.ofW (cc := cX13_sorted) (maxL := 6) (ret := (some .int)) (by decide) rfl ?_
  intro p e s m args below meth c s₁ B hml hv
  obtain ⟨hargs, hsz, hP, hK, hD0, hEV⟩ := hv
  subst hsz
  have hx := B.exec
  have hb := B.bytes
  have hr := B.returns
  have hts := atoms_spec (ws := v_sortedLX) B.pre
  have hown : s.vm.findClass RX13 = some m.cls := findClass_of_methodNamed B.named
  have hlocks := B.notSynchronized
  have hinX13 : ∀ w ∈ u_ws RX13 TX13 97, w ∈ v_sortedLX := fun w h => vA_in _ w (in_X13 w h)
  generalize hAe : va_A (WX 72 ad E) s.heap.size = A at hEV ⊢
  have hA : ∀ q : Nat, s.heap.size ≤ q → A q := fun q h => by rw [← hAe]; exact Or.inr h
  have hD : va_D A (WX 72 ad E) := by rw [← hAe]; exact hD0.self
  have hS : va_S A s.heap s.heap [] := va_S.rf
  have hI := hI0
  have hKp : Kp w_sortedLX E E := Kp.rf
  have hl := lv_entry ([.ref (ad 0), .int a0, .ref (ad 34)]) (n := 6) (Nat.le_of_ble_eq_true rfl)
  obtain ⟨Q, hQ⟩ : ∃ Q, Q = MQ below (va_Qi (S := Nat → va_E) (fun r u => IX cT shM spM 72 ad u ∧ Kp w_sortedLX E u ∧ ((0 ≤ r.toInt ∧ r.toInt ≤ 20) ∧ (KpR (xi (E 32)) (xi (E 36)) (xi (E 0) 55).toNatClampNeg a0.toNatClampNeg r.toNatClampNeg (xi (u 34))))) (HB dC dI 72 ad) (A)) args s 0 0 (A) := ⟨_, rfl⟩
  rw [← hQ, show entryFrame m args 6 = _ from (congrArg (fun z => entryFrame m z 6) hargs).trans (lg_entry_eq _ _ _)]
  generalize (lg_sl ([.ref (ad 0), .int a0, .ref (ad 34)]) ++ List.replicate (6 - (lg_sl ([.ref (ad 0), .int a0, .ref (ad 34)])).length) Slot.unset).toArray = ls at hl ⊢
  have hl : lv_has ls 6 [(0, .ref (ad 0)), (1, .int a0), (2, .ref (ad 34))] := hl
  obtain ⟨g1, hg1⟩ : ∃ g, xi (E 34) = g := ⟨_, rfl⟩
  have z0z : (0 : Int32).toInt = 0 := rfl
  have ib8 : 0 ≤ (xi (E 0) 8).toInt ∧ (xi (E 0) 8).toInt ≤ 16 := hI0.iv 0 (Nat.le_of_ble_eq_true rfl) rfl (Nat.le_of_ble_eq_true rfl) rfl
  have ib46 : 0 ≤ (xi (E 0) 46).toInt ∧ (xi (E 0) 46).toInt ≤ 20 := hI0.iv 0 (Nat.le_of_ble_eq_true rfl) rfl (Nat.le_of_ble_eq_true rfl) rfl
  have hN16 : (xi (E 0) 8).toNatClampNeg ≤ 16 := by rw [tn_]; omega
  have z0 := ln_0
  have z1 := ln_1
  have zm1 := ln_m1
  have iKm : 0 ≤ (xi (E 0) 55).toInt ∧ (xi (E 0) 55).toInt ≤ 20 := hI0.iv 0 (Nat.le_of_ble_eq_true rfl) rfl (Nat.le_of_ble_eq_true rfl) rfl
  refine lv_iconst (v := 0) hx hb dX13_sorted_0 (by decide) ?_
  refine lv_istore_n (lv' := [(3, .int 0), (0, .ref (ad 0)), (1, .int a0), (2, .ref (ad 34))]) hx hb dX13_sorted_1 rfl hl (by decide) rfl (fun ls hl => ?_)
  refine lv_iconst (v := 0) hx hb dX13_sorted_2 (by decide) ?_
  refine lv_istore (lv' := [(4, .int 0), (3, .int 0), (0, .ref (ad 0)), (1, .int a0), (2, .ref (ad 34))]) hx hb dX13_sorted_3 hl (by decide) rfl (fun ls hl => ?_)
  have hL5 : ∀ d : Nat, ∀ (g5_34 : Nat → Int32) (v5_4 : Int32) (v5_3 : Int32) (E5_ : Nat → va_E) (H : Heap) (locs : List Loc) (ls : Array Slot), 0 ≤ v5_4.toInt ∧ v5_4.toInt ≤ 20 → 0 ≤ v5_3.toInt ∧ v5_3.toInt ≤ 20 → MR (fun r9 : Nat => xi (E 36) (16 * r9 + a0.toNatClampNeg) = 0) (fun r9 : Nat => xi (E 32) (16 * r9 + a0.toNatClampNeg)) 99 v5_4.toNatClampNeg v5_3.toNatClampNeg g5_34 → v5_3.toInt ≤ v5_4.toInt → v5_4.toInt ≤ (xi (E 0) 55).toInt → 20 - v5_4.toInt < (d : Int) → IX cT shM spM 72 ad E5_ → Kp w_sortedLX E E5_ → xi (E5_ 34) = g5_34 → va_P (dC, dI) vwCl (WX 72 ad E5_) H → va_S A s.heap H locs → lv_has ls 6 [(4, .int v5_4), (3, .int v5_3), (0, .ref (ad 0)), (1, .int a0), (2, .ref (ad 34))] → W p l e (headSpec v_sortedLX rm_sortedLX).room s m args below meth c H locs 0 0 Q (F0 m 5 ls []) := by
    intro d
    induction d with
    | zero =>
      intro g5_34 v5_4 v5_3 E5_ H locs ls hv5_4 hv5_3 hx5_0 hx5_1 hx5_2 hx5_3 hI hKp hr5_34 hP hS hl
      exact absurd hx5_3 (by first | exact ms_zu hv5_4.2 | omega)
    | succ d ih5 =>
      intro g5_34 v5_4 v5_3 E5_ H locs ls hv5_4 hv5_3 hx5_0 hx5_1 hx5_2 hx5_3 hI hKp hr5_34 hP hS hl
      refine lv_iload hx hb dX13_sorted_5 (lv_at hl 0 rfl) ?_
      refine lv_aload_n hx hb dX13_sorted_7 rfl (lv_at hl 2 rfl) ?_
      have i2 : 0 ≤ (xi (E 0) 55).toInt ∧ (xi (E 0) 55).toInt ≤ 20 := hI0.iv 0 (Nat.le_of_ble_eq_true rfl) rfl (Nat.le_of_ble_eq_true rfl) rfl
      refine th_get (ci := 14) (C := RX13) (T := TX13) (N := 97) (v := .int (xi (E 0) 55)) hx hb hts hinX13 hown hK hP hI 0 (Nat.le_of_ble_eq_true rfl) rfl rfl 55 (Nat.le_of_ble_eq_true rfl) (hts _ (vA_in _ _ (in_32 _ (zs16 (zs1 (zs1 (zs1 (zs0)))))))) (fun _ h9 => h9) (th_v0 hKp hI0 0 (Nat.le_of_ble_eq_true rfl) rfl (Nat.le_of_ble_eq_true rfl) rfl rfl) dX13_sorted_8 ?_
      refine lv_icmp_ge (tgt := 102) hx hb dX13_sorted_11 (by decide) (fun c3 => ?_) (fun c3 => ?_)
      · --11 taken
        have t4 : (xi (E 0) 55).toInt ≤ v5_4.toInt := ti_le c3
        refine lv_iload_n hx hb dX13_sorted_102 rfl (lv_at hl 1 rfl) ?_
        rw [hQ]
        exact W.iret (v := v5_3) hx hb hr (fun t ht hW => ⟨⟨v5_3, E5_, rfl, ⟨hI, hKp, ⟨hv5_3, (by rw [show xi (E5_ 34) = g5_34 from hr5_34]; have h8 := hx5_0; rw [show v5_4.toNatClampNeg = (xi (E 0) 55).toNatClampNeg by rw [tn_, tn_]; omega] at h8; exact h8)⟩⟩, by show va_P (dC, dI) vwCl (WX 72 ad E5_) t.heap; rw [ht]; exact hP⟩, hS.F ht⟩) hS.2.2 dX13_sorted_103
      · --11 not
        have t5 : v5_4.toInt < (xi (E 0) 55).toInt := ti_nle c3
        have i6 : 0 ≤ v5_4.toInt ∧ v5_4.toInt ≤ 19 := iv_lt_l t5 hv5_4 i2 (by decide)
        have i7 : 1 ≤ (xi (E 0) 55).toInt ∧ (xi (E 0) 55).toInt ≤ 20 := iv_lt_r t5 hv5_4 i2 (by decide)
        refine lv_aload_n hx hb dX13_sorted_14 rfl (lv_at hl 2 rfl) ?_
        refine th_get (ci := 14) (C := RX13) (T := TX13) (N := 97) (v := .ref (ad 36)) hx hb hts hinX13 hown hK hP hI 0 (Nat.le_of_ble_eq_true rfl) rfl rfl 53 (Nat.le_of_ble_eq_true rfl) (hts _ (vA_in _ _ (in_32 _ (zs4 (zs4 (zs4 (zs1 (zs0)))))))) (fun _ h9 => h9) (hI.fr 0 (Nat.le_of_ble_eq_true rfl) rfl (Nat.le_of_ble_eq_true rfl) 36 rfl) dX13_sorted_15 ?_
        refine lv_bipush (v := 16) hx hb dX13_sorted_18 (by decide) ?_
        refine lv_iload hx hb dX13_sorted_20 (lv_at hl 0 rfl) ?_
        refine lv_imul hx hb dX13_sorted_22 ?_
        refine lv_topi (fun y8 ey8 => ?_)
        obtain ⟨ty8, iy8⟩ := ti_mul (e := 0) (f := 304) ln_16 i6 ey8 (by decide)
        have ty8 : y8.toInt = 16 * v5_4.toInt := ty8
        have iy8 : 0 ≤ y8.toInt ∧ y8.toInt ≤ 304 := iy8
        refine lv_iload_n hx hb dX13_sorted_23 rfl (lv_at hl 3 rfl) ?_
        refine lv_iadd hx hb dX13_sorted_24 ?_
        refine lv_topi (fun y9 ey9 => ?_)
        obtain ⟨ty9, iy9⟩ := ti_add (e := 0) (f := 319) iy8 hh0 ey9 (by decide)
        have ty9 : y9.toInt = y8.toInt + a0.toInt := ty9
        have iy9 : 0 ≤ y9.toInt ∧ y9.toInt ≤ 319 := iy9
        have n11 : vp_in y9 320 := (iv_in (n := 320) iy9 (by decide))
        refine th_zald hx hb hK hP hI 36 (Nat.le_of_ble_eq_true rfl) rfl rfl n11 dX13_sorted_25 (fun y10 ey10 => ?_)
        have iy10 : 0 ≤ y10.toInt ∧ y10.toInt ≤ 1 := hI.el 36 (Nat.le_of_ble_eq_true rfl) rfl n11 (fun _ => rfl) ey10
        have ey10 := ey10.trans (hKp.ei 36 _ rfl)
        refine lv_if_eq (tgt := 32) hx hb dX13_sorted_26 (by decide) (fun c12 => ?_) (fun c12 => ?_)
        · --26 taken
          have t13 : y10.toInt = 0 := ti_eq c12
          have i14 : 0 ≤ y10.toInt ∧ y10.toInt ≤ 0 := iv_eqi t13 iy10 (il_ 0) (by decide)
          have i15 : 0 ≤ v5_3.toInt ∧ v5_3.toInt ≤ 19 := by omega
          refine lv_iload_n hx hb dX13_sorted_32 rfl (lv_at hl 1 rfl) ?_
          refine lv_istore (lv' := [(5, .int v5_3), (4, .int v5_4), (3, .int v5_3), (0, .ref (ad 0)), (1, .int a0), (2, .ref (ad 34))]) hx hb dX13_sorted_33 hl (by decide) rfl (fun ls hl => ?_)
          have hL35 : ∀ d : Nat, ∀ (g35_34 : Nat → Int32) (v35_5 : Int32) (E35_ : Nat → va_E) (H : Heap) (locs : List Loc) (ls : Array Slot), 0 ≤ v35_5.toInt ∧ v35_5.toInt ≤ 19 → shf g5_34 (xi (E 32) (16 * v5_4.toNatClampNeg + a0.toNatClampNeg)) v5_3.toNatClampNeg = shf g35_34 (xi (E 32) (16 * v5_4.toNatClampNeg + a0.toNatClampNeg)) v35_5.toNatClampNeg → v35_5.toInt ≤ v5_3.toInt → v35_5.toInt - 0 < (d : Int) → IX cT shM spM 72 ad E35_ → Kp w_sortedLX E E35_ → xi (E35_ 34) = g35_34 → va_P (dC, dI) vwCl (WX 72 ad E35_) H → va_S A s.heap H locs → lv_has ls 6 [(5, .int v35_5), (4, .int v5_4), (3, .int v5_3), (0, .ref (ad 0)), (1, .int a0), (2, .ref (ad 34))] → W p l e (headSpec v_sortedLX rm_sortedLX).room s m args below meth c H locs 0 0 Q (F0 m 35 ls []) := by
            intro d
            induction d with
            | zero =>
              intro g35_34 v35_5 E35_ H locs ls hv35_5 hx35_0 hx35_1 hx35_2 hI hKp hr35_34 hP hS hl
              exact absurd hx35_2 (by first | exact ms_zd hv35_5.1 | omega)
            | succ d ih35 =>
              intro g35_34 v35_5 E35_ H locs ls hv35_5 hx35_0 hx35_1 hx35_2 hI hKp hr35_34 hP hS hl
              refine lv_iload hx hb dX13_sorted_35 (lv_at hl 0 rfl) ?_
              refine lv_if_le (tgt := 77) hx hb dX13_sorted_37 (by decide) (fun c16 => ?_) (fun c16 => ?_)
              · --37 taken
                have t17 : v35_5.toInt ≤ 0 := ti_le c16
                have i18 : 0 ≤ v35_5.toInt ∧ v35_5.toInt ≤ 0 := iv_le_l t17 hv35_5 (il_ 0) (by decide)
                refine lv_aload_n hx hb dX13_sorted_77 rfl (lv_at hl 5 rfl) ?_
                refine lv_iload hx hb dX13_sorted_78 (lv_at hl 0 rfl) ?_
                refine lv_aload_n hx hb dX13_sorted_80 rfl (lv_at hl 3 rfl) ?_
                refine th_get (ci := 14) (C := RX13) (T := TX13) (N := 97) (v := .ref (ad 32)) hx hb hts hinX13 hown hK hP hI 0 (Nat.le_of_ble_eq_true rfl) rfl rfl 49 (Nat.le_of_ble_eq_true rfl) (hts _ (vA_in _ _ (in_32 _ (zs4 (zs4 (zs1 (zs0))))))) (fun _ h9 => h9) (hI.fr 0 (Nat.le_of_ble_eq_true rfl) rfl (Nat.le_of_ble_eq_true rfl) 32 rfl) dX13_sorted_81 ?_
                refine lv_bipush (v := 16) hx hb dX13_sorted_84 (by decide) ?_
                refine lv_iload hx hb dX13_sorted_86 (lv_at hl 1 rfl) ?_
                refine lv_imul hx hb dX13_sorted_88 ?_
                refine lv_topi (fun y19 ey19 => ?_)
                obtain ⟨ty19, iy19⟩ := ti_mul (e := 0) (f := 304) ln_16 i6 ey19 (by decide)
                have ty19 : y19.toInt = 16 * v5_4.toInt := ty19
                have iy19 : 0 ≤ y19.toInt ∧ y19.toInt ≤ 304 := iy19
                refine lv_iload_n hx hb dX13_sorted_89 rfl (lv_at hl 4 rfl) ?_
                refine lv_iadd hx hb dX13_sorted_90 ?_
                refine lv_topi (fun y20 ey20 => ?_)
                obtain ⟨ty20, iy20⟩ := ti_add (e := 0) (f := 319) iy19 hh0 ey20 (by decide)
                have ty20 : y20.toInt = y19.toInt + a0.toInt := ty20
                have iy20 : 0 ≤ y20.toInt ∧ y20.toInt ≤ 319 := iy20
                have n22 : vp_in y20 320 := (iv_in (n := 320) iy20 (by decide))
                refine th_iald hx hb hK hP hI 32 (Nat.le_of_ble_eq_true rfl) rfl rfl n22 dX13_sorted_91 (fun y21 ey21 => ?_)
                have ey21 := ey21.trans (hKp.ei 32 _ rfl)
                have n23 : vp_in v35_5 20 := (iv_in (n := 20) i18 (by decide))
                refine th_iast hx hb hK hP (WX_D hD) hS hI 34 (Nat.le_of_ble_eq_true rfl) rfl rfl n23 (okI rfl (iv_all _)) dX13_sorted_92 (fun H locs E24 pw25 hI hP hS => ?_)
                have hKp := hKp.pw pw25 rfl
                obtain ⟨g26, eg26⟩ : ∃ z : Nat → Int32, z = upd g35_34 v35_5.toNatClampNeg y21 := ⟨_, rfl⟩
                have hg26 : xi (E24 34) = g26 := by rw [pw25.eu, hr35_34, eg26]
                obtain ⟨y27, ey27⟩ : ∃ y : Int32, y = v5_3 + (1 : Int32) := ⟨_, rfl⟩
                obtain ⟨ty27, iy27⟩ := ti_add (e := 1) (f := 20) i15 ln_1 ey27 (by decide)
                have ty27 : y27.toInt = v5_3.toInt + 1 := ty27
                have iy27 : 1 ≤ y27.toInt ∧ y27.toInt ≤ 20 := iy27
                refine lv_iinc (v := y27) (lv' := [(3, .int y27), (5, .int v35_5), (4, .int v5_4), (0, .ref (ad 0)), (1, .int a0), (2, .ref (ad 34))]) hx hb dX13_sorted_93 hl (k := 2) rfl (by rw [ey27]; rfl) (by decide) rfl (fun ls hl => ?_)
                obtain ⟨y28, ey28⟩ : ∃ y : Int32, y = v5_4 + (1 : Int32) := ⟨_, rfl⟩
                obtain ⟨ty28, iy28⟩ := ti_add (e := 1) (f := 20) i6 ln_1 ey28 (by decide)
                have ty28 : y28.toInt = v5_4.toInt + 1 := ty28
                have iy28 : 1 ≤ y28.toInt ∧ y28.toInt ≤ 20 := iy28
                refine lv_iinc (v := y28) (lv' := [(4, .int y28), (3, .int y27), (5, .int v35_5), (0, .ref (ad 0)), (1, .int a0), (2, .ref (ad 34))]) hx hb dX13_sorted_96 hl (k := 2) rfl (by rw [ey28]; rfl) (by decide) rfl (fun ls hl => ?_)
                refine lv_goto (tgt := 5) hx hb dX13_sorted_99 (by decide) ?_
                exact ih5 g26 y28 y27 E24 _ _ _ (iv_w iy28 (by decide)) (iv_w iy27 (by decide)) (hx5_0.one ⟨(by rw [tn_]; omega), (show xi (E 36) (16 * v5_4.toNatClampNeg + a0.toNatClampNeg) = 0 by rw [← (show y10 = xi (E 36) (16 * v5_4.toNatClampNeg + a0.toNatClampNeg) by rw [ey10, (show y9.toNatClampNeg = 16 * v5_4.toNatClampNeg + a0.toNatClampNeg by rw [tn_ y9, tn_ v5_4, tn_ a0]; omega)])]; exact Int32.toInt_inj.mp (show y10.toInt = (0 : Int32).toInt by have z9 : (0 : Int32).toInt = 0 := rfl; omega))⟩ (fun i9 _ => by rw [(show g26 = shf g5_34 (xi (E 32) (16 * v5_4.toNatClampNeg + a0.toNatClampNeg)) v5_3.toNatClampNeg by rw [eg26, (show y21 = (xi (E 32) (16 * v5_4.toNatClampNeg + a0.toNatClampNeg)) by rw [ey21, (show y20.toNatClampNeg = 16 * v5_4.toNatClampNeg + a0.toNatClampNeg by rw [tn_ y20, tn_ v5_4, tn_ a0]; omega)])]; exact Eq.symm (by rw [hx35_0]; rw [show v35_5.toNatClampNeg = 0 by rw [tn_]; omega]; exact shf_0))]) (by rw [tn_ y27, tn_ v5_3]; omega) (by rw [tn_ y28, tn_ v5_4]; omega)) (by omega) (by omega) (by first | exact ms_su hx5_3 ty28 (by decide) | omega) hI hKp hg26 hP hS (lv_sub hl [0, 1, 3, 4, 5] rfl)
              · --37 not
                have t29 : (0 : Int) < v35_5.toInt := ti_nle c16
                have i30 : 1 ≤ v35_5.toInt ∧ v35_5.toInt ≤ 19 := iv_lt_r t29 (il_ 0) hv35_5 (by decide)
                refine lv_aload_n hx hb dX13_sorted_40 rfl (lv_at hl 5 rfl) ?_
                refine lv_iload hx hb dX13_sorted_41 (lv_at hl 0 rfl) ?_
                refine lv_iconst (v := 1) hx hb dX13_sorted_43 (by decide) ?_
                refine lv_isub hx hb dX13_sorted_44 ?_
                refine lv_topi (fun y31 ey31 => ?_)
                obtain ⟨ty31, iy31⟩ := ti_sub (e := 0) (f := 18) i30 ln_1 ey31 (by decide)
                have ty31 : y31.toInt = v35_5.toInt - 1 := ty31
                have iy31 : 0 ≤ y31.toInt ∧ y31.toInt ≤ 18 := iy31
                have n33 : vp_in y31 20 := (iv_in (n := 20) iy31 (by decide))
                refine th_iald hx hb hK hP hI 34 (Nat.le_of_ble_eq_true rfl) rfl rfl n33 dX13_sorted_45 (fun y32 ey32 => ?_)
                have ey32 := ey32.trans (congrFun hr35_34 _)
                refine lv_aload_n hx hb dX13_sorted_46 rfl (lv_at hl 3 rfl) ?_
                refine th_get (ci := 14) (C := RX13) (T := TX13) (N := 97) (v := .ref (ad 32)) hx hb hts hinX13 hown hK hP hI 0 (Nat.le_of_ble_eq_true rfl) rfl rfl 49 (Nat.le_of_ble_eq_true rfl) (hts _ (vA_in _ _ (in_32 _ (zs4 (zs4 (zs1 (zs0))))))) (fun _ h9 => h9) (hI.fr 0 (Nat.le_of_ble_eq_true rfl) rfl (Nat.le_of_ble_eq_true rfl) 32 rfl) dX13_sorted_47 ?_
                refine lv_bipush (v := 16) hx hb dX13_sorted_50 (by decide) ?_
                refine lv_iload hx hb dX13_sorted_52 (lv_at hl 1 rfl) ?_
                refine lv_imul hx hb dX13_sorted_54 ?_
                refine lv_topi (fun y34 ey34 => ?_)
                obtain ⟨ty34, iy34⟩ := ti_mul (e := 0) (f := 304) ln_16 i6 ey34 (by decide)
                have ty34 : y34.toInt = 16 * v5_4.toInt := ty34
                have iy34 : 0 ≤ y34.toInt ∧ y34.toInt ≤ 304 := iy34
                refine lv_iload_n hx hb dX13_sorted_55 rfl (lv_at hl 4 rfl) ?_
                refine lv_iadd hx hb dX13_sorted_56 ?_
                refine lv_topi (fun y35 ey35 => ?_)
                obtain ⟨ty35, iy35⟩ := ti_add (e := 0) (f := 319) iy34 hh0 ey35 (by decide)
                have ty35 : y35.toInt = y34.toInt + a0.toInt := ty35
                have iy35 : 0 ≤ y35.toInt ∧ y35.toInt ≤ 319 := iy35
                have n37 : vp_in y35 320 := (iv_in (n := 320) iy35 (by decide))
                refine th_iald hx hb hK hP hI 32 (Nat.le_of_ble_eq_true rfl) rfl rfl n37 dX13_sorted_57 (fun y36 ey36 => ?_)
                have ey36 := ey36.trans (hKp.ei 32 _ rfl)
                refine lv_icmp_le (tgt := 77) hx hb dX13_sorted_58 (by decide) (fun c38 => ?_) (fun c38 => ?_)
                · --58 taken
                  have t39 : y32.toInt ≤ y36.toInt := ti_le c38
                  refine lv_aload_n hx hb dX13_sorted_77 rfl (lv_at hl 5 rfl) ?_
                  refine lv_iload hx hb dX13_sorted_78 (lv_at hl 0 rfl) ?_
                  refine lv_aload_n hx hb dX13_sorted_80 rfl (lv_at hl 3 rfl) ?_
                  refine th_get (ci := 14) (C := RX13) (T := TX13) (N := 97) (v := .ref (ad 32)) hx hb hts hinX13 hown hK hP hI 0 (Nat.le_of_ble_eq_true rfl) rfl rfl 49 (Nat.le_of_ble_eq_true rfl) (hts _ (vA_in _ _ (in_32 _ (zs4 (zs4 (zs1 (zs0))))))) (fun _ h9 => h9) (hI.fr 0 (Nat.le_of_ble_eq_true rfl) rfl (Nat.le_of_ble_eq_true rfl) 32 rfl) dX13_sorted_81 ?_
                  refine lv_bipush (v := 16) hx hb dX13_sorted_84 (by decide) ?_
                  refine lv_iload hx hb dX13_sorted_86 (lv_at hl 1 rfl) ?_
                  refine lv_imul hx hb dX13_sorted_88 ?_
                  refine lv_topi (fun y40 ey40 => ?_)
                  obtain ⟨ty40, iy40⟩ := ti_mul (e := 0) (f := 304) ln_16 i6 ey40 (by decide)
                  have ty40 : y40.toInt = 16 * v5_4.toInt := ty40
                  have iy40 : 0 ≤ y40.toInt ∧ y40.toInt ≤ 304 := iy40
                  refine lv_iload_n hx hb dX13_sorted_89 rfl (lv_at hl 4 rfl) ?_
                  refine lv_iadd hx hb dX13_sorted_90 ?_
                  refine lv_topi (fun y41 ey41 => ?_)
                  obtain ⟨ty41, iy41⟩ := ti_add (e := 0) (f := 319) iy40 hh0 ey41 (by decide)
                  have ty41 : y41.toInt = y40.toInt + a0.toInt := ty41
                  have iy41 : 0 ≤ y41.toInt ∧ y41.toInt ≤ 319 := iy41
                  have n43 : vp_in y41 320 := (iv_in (n := 320) iy41 (by decide))
                  refine th_iald hx hb hK hP hI 32 (Nat.le_of_ble_eq_true rfl) rfl rfl n43 dX13_sorted_91 (fun y42 ey42 => ?_)
                  have ey42 := ey42.trans (hKp.ei 32 _ rfl)
                  have n44 : vp_in v35_5 20 := (iv_in (n := 20) i30 (by decide))
                  refine th_iast hx hb hK hP (WX_D hD) hS hI 34 (Nat.le_of_ble_eq_true rfl) rfl rfl n44 (okI rfl (iv_all _)) dX13_sorted_92 (fun H locs E45 pw46 hI hP hS => ?_)
                  have hKp := hKp.pw pw46 rfl
                  obtain ⟨g47, eg47⟩ : ∃ z : Nat → Int32, z = upd g35_34 v35_5.toNatClampNeg y42 := ⟨_, rfl⟩
                  have hg47 : xi (E45 34) = g47 := by rw [pw46.eu, hr35_34, eg47]
                  obtain ⟨y48, ey48⟩ : ∃ y : Int32, y = v5_3 + (1 : Int32) := ⟨_, rfl⟩
                  obtain ⟨ty48, iy48⟩ := ti_add (e := 1) (f := 20) i15 ln_1 ey48 (by decide)
                  have ty48 : y48.toInt = v5_3.toInt + 1 := ty48
                  have iy48 : 1 ≤ y48.toInt ∧ y48.toInt ≤ 20 := iy48
                  refine lv_iinc (v := y48) (lv' := [(3, .int y48), (5, .int v35_5), (4, .int v5_4), (0, .ref (ad 0)), (1, .int a0), (2, .ref (ad 34))]) hx hb dX13_sorted_93 hl (k := 2) rfl (by rw [ey48]; rfl) (by decide) rfl (fun ls hl => ?_)
                  obtain ⟨y49, ey49⟩ : ∃ y : Int32, y = v5_4 + (1 : Int32) := ⟨_, rfl⟩
                  obtain ⟨ty49, iy49⟩ := ti_add (e := 1) (f := 20) i6 ln_1 ey49 (by decide)
                  have ty49 : y49.toInt = v5_4.toInt + 1 := ty49
                  have iy49 : 1 ≤ y49.toInt ∧ y49.toInt ≤ 20 := iy49
                  refine lv_iinc (v := y49) (lv' := [(4, .int y49), (3, .int y48), (5, .int v35_5), (0, .ref (ad 0)), (1, .int a0), (2, .ref (ad 34))]) hx hb dX13_sorted_96 hl (k := 2) rfl (by rw [ey49]; rfl) (by decide) rfl (fun ls hl => ?_)
                  refine lv_goto (tgt := 5) hx hb dX13_sorted_99 (by decide) ?_
                  exact ih5 g47 y49 y48 E45 _ _ _ (iv_w iy49 (by decide)) (iv_w iy48 (by decide)) (hx5_0.one ⟨(by rw [tn_]; omega), (show xi (E 36) (16 * v5_4.toNatClampNeg + a0.toNatClampNeg) = 0 by rw [← (show y10 = xi (E 36) (16 * v5_4.toNatClampNeg + a0.toNatClampNeg) by rw [ey10, (show y9.toNatClampNeg = 16 * v5_4.toNatClampNeg + a0.toNatClampNeg by rw [tn_ y9, tn_ v5_4, tn_ a0]; omega)])]; exact Int32.toInt_inj.mp (show y10.toInt = (0 : Int32).toInt by have z9 : (0 : Int32).toInt = 0 := rfl; omega))⟩ (fun i9 _ => by rw [(show g47 = shf g5_34 (xi (E 32) (16 * v5_4.toNatClampNeg + a0.toNatClampNeg)) v5_3.toNatClampNeg by rw [eg47, (show y42 = (xi (E 32) (16 * v5_4.toNatClampNeg + a0.toNatClampNeg)) by rw [ey42, (show y41.toNatClampNeg = 16 * v5_4.toNatClampNeg + a0.toNatClampNeg by rw [tn_ y41, tn_ v5_4, tn_ a0]; omega)])]; exact Eq.symm (by rw [hx35_0]; rw [(show v35_5.toNatClampNeg = y31.toNatClampNeg + 1 by rw [tn_ v35_5, tn_ y31]; omega)]; exact shf_e (by rw [← (show y36 = (xi (E 32) (16 * v5_4.toNatClampNeg + a0.toNatClampNeg)) by rw [ey36, (show y35.toNatClampNeg = 16 * v5_4.toNatClampNeg + a0.toNatClampNeg by rw [tn_ y35, tn_ v5_4, tn_ a0]; omega)]), ← ey32]; omega)))]) (by rw [tn_ y48, tn_ v5_3]; omega) (by rw [tn_ y49, tn_ v5_4]; omega)) (by omega) (by omega) (by first | exact ms_su hx5_3 ty49 (by decide) | omega) hI hKp hg47 hP hS (lv_sub hl [0, 1, 3, 4, 5] rfl)
                · --58 not
                  have t50 : y36.toInt < y32.toInt := ti_nle c38
                  have i51 : -2147483648 ≤ y36.toInt ∧ y36.toInt ≤ 2147483646 := iv_lt_l t50 (iv_all _) (iv_all _) (by decide)
                  have i52 : -2147483647 ≤ y32.toInt ∧ y32.toInt ≤ 2147483647 := iv_lt_r t50 (iv_all _) (iv_all _) (by decide)
                  refine lv_aload_n hx hb dX13_sorted_61 rfl (lv_at hl 5 rfl) ?_
                  refine lv_iload hx hb dX13_sorted_62 (lv_at hl 0 rfl) ?_
                  refine lv_aload_n hx hb dX13_sorted_64 rfl (lv_at hl 5 rfl) ?_
                  refine lv_iload hx hb dX13_sorted_65 (lv_at hl 0 rfl) ?_
                  refine lv_iconst (v := 1) hx hb dX13_sorted_67 (by decide) ?_
                  refine lv_isub hx hb dX13_sorted_68 ?_
                  refine lv_topi (fun y53 ey53 => ?_)
                  obtain ⟨ty53, iy53⟩ := ti_sub (e := 0) (f := 18) i30 ln_1 ey53 (by decide)
                  have ty53 : y53.toInt = v35_5.toInt - 1 := ty53
                  have iy53 : 0 ≤ y53.toInt ∧ y53.toInt ≤ 18 := iy53
                  have n55 : vp_in y53 20 := (iv_in (n := 20) iy53 (by decide))
                  refine th_iald hx hb hK hP hI 34 (Nat.le_of_ble_eq_true rfl) rfl rfl n55 dX13_sorted_69 (fun y54 ey54 => ?_)
                  have ey54 := ey54.trans (congrFun hr35_34 _)
                  have n56 : vp_in v35_5 20 := (iv_in (n := 20) i30 (by decide))
                  refine th_iast hx hb hK hP (WX_D hD) hS hI 34 (Nat.le_of_ble_eq_true rfl) rfl rfl n56 (okI rfl (iv_all _)) dX13_sorted_70 (fun H locs E57 pw58 hI hP hS => ?_)
                  have hKp := hKp.pw pw58 rfl
                  obtain ⟨g59, eg59⟩ : ∃ z : Nat → Int32, z = upd g35_34 v35_5.toNatClampNeg y54 := ⟨_, rfl⟩
                  have hg59 : xi (E57 34) = g59 := by rw [pw58.eu, hr35_34, eg59]
                  obtain ⟨y60, ey60⟩ : ∃ y : Int32, y = v35_5 + (-1 : Int32) := ⟨_, rfl⟩
                  obtain ⟨ty60, iy60⟩ := ti_add (e := 0) (f := 18) i30 ln_m1 ey60 (by decide)
                  have ty60 : y60.toInt = v35_5.toInt + (-1) := ty60
                  have iy60 : 0 ≤ y60.toInt ∧ y60.toInt ≤ 18 := iy60
                  refine lv_iinc (v := y60) (lv' := [(5, .int y60), (4, .int v5_4), (3, .int v5_3), (0, .ref (ad 0)), (1, .int a0), (2, .ref (ad 34))]) hx hb dX13_sorted_71 hl (k := 0) rfl (by rw [ey60]; rfl) (by decide) rfl (fun ls hl => ?_)
                  refine lv_goto (tgt := 35) hx hb dX13_sorted_74 (by decide) ?_
                  exact ih35 g59 y60 E57 _ _ _ (iv_w iy60 (by decide)) (by rw [hx35_0, (show v35_5.toNatClampNeg = y60.toNatClampNeg + 1 by rw [tn_ v35_5, tn_ y60]; omega), shf_s (show (xi (E 32) (16 * v5_4.toNatClampNeg + a0.toNatClampNeg)).toInt < (g35_34 y60.toNatClampNeg).toInt by rw [← (show y36 = (xi (E 32) (16 * v5_4.toNatClampNeg + a0.toNatClampNeg)) by rw [ey36, (show y35.toNatClampNeg = 16 * v5_4.toNatClampNeg + a0.toNatClampNeg by rw [tn_ y35, tn_ v5_4, tn_ a0]; omega)]), ← (show y31.toNatClampNeg = y60.toNatClampNeg by rw [tn_ y31, tn_ y60]; omega), ← ey32]; omega)]; congr 1; rw [eg59, (show v35_5.toNatClampNeg = y60.toNatClampNeg + 1 by rw [tn_ v35_5, tn_ y60]; omega), ey54, (show y53.toNatClampNeg = y60.toNatClampNeg by rw [tn_ y53, tn_ y60]; omega)]) (by omega) (by first | exact ms_sd hx35_2 ty60 (by decide) | exact ms_sd2 hx35_2 ty60 | omega) hI hKp hg59 hP hS (lv_sub hl [0, 1, 2, 3, 4, 5] rfl)
          exact hL35 (20) g5_34 v5_3 E5_ _ _ _ i15 rfl (by omega) (by have h9 := i15; first | exact ms_bd h9.2 (by decide) | omega) hI hKp hr5_34 hP hS (lv_sub hl [0, 1, 2, 3, 4, 5] rfl)
        · --26 not
          have t61 : ¬ y10.toInt = 0 := ti_ne c12
          have i62 : 1 ≤ y10.toInt ∧ y10.toInt ≤ 1 := iv_ne_l t61 iy10 (il_ 0)
          refine lv_goto (tgt := 96) hx hb dX13_sorted_29 (by decide) ?_
          obtain ⟨y63, ey63⟩ : ∃ y : Int32, y = v5_4 + (1 : Int32) := ⟨_, rfl⟩
          obtain ⟨ty63, iy63⟩ := ti_add (e := 1) (f := 20) i6 ln_1 ey63 (by decide)
          have ty63 : y63.toInt = v5_4.toInt + 1 := ty63
          have iy63 : 1 ≤ y63.toInt ∧ y63.toInt ≤ 20 := iy63
          refine lv_iinc (v := y63) (lv' := [(4, .int y63), (3, .int v5_3), (0, .ref (ad 0)), (1, .int a0), (2, .ref (ad 34))]) hx hb dX13_sorted_96 hl (k := 0) rfl (by rw [ey63]; rfl) (by decide) rfl (fun ls hl => ?_)
          refine lv_goto (tgt := 5) hx hb dX13_sorted_99 (by decide) ?_
          exact ih5 g5_34 y63 v5_3 E5_ _ _ _ (iv_w iy63 (by decide)) hv5_3 (hx5_0.no (fun q9 => by have q8 : xi (E 36) (16 * v5_4.toNatClampNeg + a0.toNatClampNeg) = 0 := q9.2; have q7 := congrArg Int32.toInt ((show y10 = xi (E 36) (16 * v5_4.toNatClampNeg + a0.toNatClampNeg) by rw [ey10, (show y9.toNatClampNeg = 16 * v5_4.toNatClampNeg + a0.toNatClampNeg by rw [tn_ y9, tn_ v5_4, tn_ a0]; omega)]).trans q8); have z9 : (0 : Int32).toInt = 0 := rfl; omega) (by rw [tn_ y63, tn_ v5_4]; omega)) (by omega) (by omega) (by first | exact ms_su hx5_3 ty63 (by decide) | omega) hI hKp hr5_34 hP hS (lv_sub hl [0, 1, 2, 3, 4] rfl)
  exact hL5 (21) g1 (0 : Int32) (0 : Int32) E _ _ _ (iv_w ln_0 (by decide)) (iv_w ln_0 (by decide)) (show MR (fun r9 : Nat => xi (E 36) (16 * r9 + a0.toNatClampNeg) = 0) (fun r9 : Nat => xi (E 32) (16 * r9 + a0.toNatClampNeg)) 99 0 0 _ from rfl) (by have z9 := ln_0; omega) (by have z9 := ln_0; omega) (by have h9 := ln_0; first | exact ms_bu h9.1 (by decide) | omega) hI hKp hg1 hP hS (lv_sub hl [0, 1, 2, 3, 4] rfl)
def v_sortedOX : List Cond := .code yX13_sorted cX13_sorted 6 (some .int) :: vA
abbrev rm_sortedOX : Room := { frames := 0, cells := 0, slots := 0, locals := 0 }
def w_sortedOX : Nat → Nat → Bool := wl [35] []
set_option maxHeartbeats 4000000 in
set_option maxRecDepth 100000 in
theorem q_sortedOX (l : Launch) (dC : Nat → ClassId) (dI : Nat → Nat → Nat) (cT : Nat → ClassId) (ad : Nat → Nat) (E : Nat → va_E) (sz : Nat) (a0 : Int32) (hI0 : IX cT shM spM 72 ad E) (hh0 : 0 ≤ a0.toInt ∧ a0.toInt ≤ 15) : Met l yX13_sorted v_sortedOX rm_sortedOX (va_Pc [.ref (ad 0), .int a0, .ref (ad 35)] (HW dC dI (TYM cT) 72 ad E sz)) (va_Qi (S := Nat → va_E) (fun r u => IX cT shM spM 72 ad u ∧ Kp w_sortedOX E u ∧ ((0 ≤ r.toInt ∧ r.toInt ≤ 20) ∧ (KpR (xi (E 32)) (xi (E 36)) (xi (E 0) 55).toNatClampNeg a0.toNatClampNeg r.toNatClampNeg (xi (u 35))))) (HB dC dI 72 ad) (va_A (WX 72 ad E) sz)) 0 0 (va_A (WX 72 ad E) sz) := by
  refine Met.ofW (cc := cX13_sorted) (maxL := 6) (ret := (some .int)) (by decide) rfl ?_
  intro p e s m args below meth c s₁ B hml hv
  obtain ⟨hargs, hsz, hP, hK, hD0, hEV⟩ := hv
  subst hsz
  have hx := B.exec
  have hb := B.bytes
  have hr := B.returns
  have hts := atoms_spec (ws := v_sortedOX) B.pre
  have hown : s.vm.findClass RX13 = some m.cls := findClass_of_methodNamed B.named
  have hlocks := B.notSynchronized
  have hinX13 : ∀ w ∈ u_ws RX13 TX13 97, w ∈ v_sortedOX := fun w h => vA_in _ w (in_X13 w h)
  generalize hAe : va_A (WX 72 ad E) s.heap.size = A at hEV ⊢
  have hA : ∀ q : Nat, s.heap.size ≤ q → A q := fun q h => by rw [← hAe]; exact Or.inr h
  have hD : va_D A (WX 72 ad E) := by rw [← hAe]; exact hD0.self
  have hS : va_S A s.heap s.heap [] := va_S.rf
  have hI := hI0
  have hKp : Kp w_sortedOX E E := Kp.rf
  have hl := lv_entry ([.ref (ad 0), .int a0, .ref (ad 35)]) (n := 6) (Nat.le_of_ble_eq_true rfl)
  obtain ⟨Q, hQ⟩ : ∃ Q, Q = MQ below (va_Qi (S := Nat → va_E) (fun r u => IX cT shM spM 72 ad u ∧ Kp w_sortedOX E u ∧ ((0 ≤ r.toInt ∧ r.toInt ≤ 20) ∧ (KpR (xi (E 32)) (xi (E 36)) (xi (E 0) 55).toNatClampNeg a0.toNatClampNeg r.toNatClampNeg (xi (u 35))))) (HB dC dI 72 ad) (A)) args s 0 0 (A) := ⟨_, rfl⟩
  rw [← hQ, show entryFrame m args 6 = _ from (congrArg (fun z => entryFrame m z 6) hargs).trans (lg_entry_eq _ _ _)]
  generalize (lg_sl ([.ref (ad 0), .int a0, .ref (ad 35)]) ++ List.replicate (6 - (lg_sl ([.ref (ad 0), .int a0, .ref (ad 35)])).length) Slot.unset).toArray = ls at hl ⊢
  have hl : lv_has ls 6 [(0, .ref (ad 0)), (1, .int a0), (2, .ref (ad 35))] := hl
  obtain ⟨g1, hg1⟩ : ∃ g, xi (E 35) = g := ⟨_, rfl⟩
  have z0z : (0 : Int32).toInt = 0 := rfl
  have ib8 : 0 ≤ (xi (E 0) 8).toInt ∧ (xi (E 0) 8).toInt ≤ 16 := hI0.iv 0 (Nat.le_of_ble_eq_true rfl) rfl (Nat.le_of_ble_eq_true rfl) rfl
  have ib46 : 0 ≤ (xi (E 0) 46).toInt ∧ (xi (E 0) 46).toInt ≤ 20 := hI0.iv 0 (Nat.le_of_ble_eq_true rfl) rfl (Nat.le_of_ble_eq_true rfl) rfl
  have hN16 : (xi (E 0) 8).toNatClampNeg ≤ 16 := by rw [tn_]; omega
  have z0 := ln_0
  have z1 := ln_1
  have zm1 := ln_m1
  have iKm : 0 ≤ (xi (E 0) 55).toInt ∧ (xi (E 0) 55).toInt ≤ 20 := hI0.iv 0 (Nat.le_of_ble_eq_true rfl) rfl (Nat.le_of_ble_eq_true rfl) rfl
  refine lv_iconst (v := 0) hx hb dX13_sorted_0 (by decide) ?_
  refine lv_istore_n (lv' := [(3, .int 0), (0, .ref (ad 0)), (1, .int a0), (2, .ref (ad 35))]) hx hb dX13_sorted_1 rfl hl (by decide) rfl (fun ls hl => ?_)
  refine lv_iconst (v := 0) hx hb dX13_sorted_2 (by decide) ?_
  refine lv_istore (lv' := [(4, .int 0), (3, .int 0), (0, .ref (ad 0)), (1, .int a0), (2, .ref (ad 35))]) hx hb dX13_sorted_3 hl (by decide) rfl (fun ls hl => ?_)
  have hL5 : ∀ d : Nat, ∀ (g5_35 : Nat → Int32) (v5_4 : Int32) (v5_3 : Int32) (E5_ : Nat → va_E) (H : Heap) (locs : List Loc) (ls : Array Slot), 0 ≤ v5_4.toInt ∧ v5_4.toInt ≤ 20 → 0 ≤ v5_3.toInt ∧ v5_3.toInt ≤ 20 → MR (fun r9 : Nat => xi (E 36) (16 * r9 + a0.toNatClampNeg) = 0) (fun r9 : Nat => xi (E 32) (16 * r9 + a0.toNatClampNeg)) 99 v5_4.toNatClampNeg v5_3.toNatClampNeg g5_35 → v5_3.toInt ≤ v5_4.toInt → v5_4.toInt ≤ (xi (E 0) 55).toInt → 20 - v5_4.toInt < (d : Int) → IX cT shM spM 72 ad E5_ → Kp w_sortedOX E E5_ → xi (E5_ 35) = g5_35 → va_P (dC, dI) vwCl (WX 72 ad E5_) H → va_S A s.heap H locs → lv_has ls 6 [(4, .int v5_4), (3, .int v5_3), (0, .ref (ad 0)), (1, .int a0), (2, .ref (ad 35))] → W p l e (headSpec v_sortedOX rm_sortedOX).room s m args below meth c H locs 0 0 Q (F0 m 5 ls []) := by
    intro d
    induction d with
    | zero =>
      intro g5_35 v5_4 v5_3 E5_ H locs ls hv5_4 hv5_3 hx5_0 hx5_1 hx5_2 hx5_3 hI hKp hr5_35 hP hS hl
      exact absurd hx5_3 (by first | exact ms_zu hv5_4.2 | omega)
    | succ d ih5 =>
      intro g5_35 v5_4 v5_3 E5_ H locs ls hv5_4 hv5_3 hx5_0 hx5_1 hx5_2 hx5_3 hI hKp hr5_35 hP hS hl
      refine lv_iload hx hb dX13_sorted_5 (lv_at hl 0 rfl) ?_
      refine lv_aload_n hx hb dX13_sorted_7 rfl (lv_at hl 2 rfl) ?_
      have i2 : 0 ≤ (xi (E 0) 55).toInt ∧ (xi (E 0) 55).toInt ≤ 20 := hI0.iv 0 (Nat.le_of_ble_eq_true rfl) rfl (Nat.le_of_ble_eq_true rfl) rfl
      refine th_get (ci := 14) (C := RX13) (T := TX13) (N := 97) (v := .int (xi (E 0) 55)) hx hb hts hinX13 hown hK hP hI 0 (Nat.le_of_ble_eq_true rfl) rfl rfl 55 (Nat.le_of_ble_eq_true rfl) (hts _ (vA_in _ _ (in_32 _ (zs16 (zs1 (zs1 (zs1 (zs0)))))))) (fun _ h9 => h9) (th_v0 hKp hI0 0 (Nat.le_of_ble_eq_true rfl) rfl (Nat.le_of_ble_eq_true rfl) rfl rfl) dX13_sorted_8 ?_
      refine lv_icmp_ge (tgt := 102) hx hb dX13_sorted_11 (by decide) (fun c3 => ?_) (fun c3 => ?_)
      · --11 taken
        have t4 : (xi (E 0) 55).toInt ≤ v5_4.toInt := ti_le c3
        refine lv_iload_n hx hb dX13_sorted_102 rfl (lv_at hl 1 rfl) ?_
        rw [hQ]
        exact W.iret (v := v5_3) hx hb hr (fun t ht hW => ⟨⟨v5_3, E5_, rfl, ⟨hI, hKp, ⟨hv5_3, (by rw [show xi (E5_ 35) = g5_35 from hr5_35]; have h8 := hx5_0; rw [show v5_4.toNatClampNeg = (xi (E 0) 55).toNatClampNeg by rw [tn_, tn_]; omega] at h8; exact h8)⟩⟩, by show va_P (dC, dI) vwCl (WX 72 ad E5_) t.heap; rw [ht]; exact hP⟩, hS.F ht⟩) hS.2.2 dX13_sorted_103
      · --11 not
        have t5 : v5_4.toInt < (xi (E 0) 55).toInt := ti_nle c3
        have i6 : 0 ≤ v5_4.toInt ∧ v5_4.toInt ≤ 19 := iv_lt_l t5 hv5_4 i2 (by decide)
        have i7 : 1 ≤ (xi (E 0) 55).toInt ∧ (xi (E 0) 55).toInt ≤ 20 := iv_lt_r t5 hv5_4 i2 (by decide)
        refine lv_aload_n hx hb dX13_sorted_14 rfl (lv_at hl 2 rfl) ?_
        refine th_get (ci := 14) (C := RX13) (T := TX13) (N := 97) (v := .ref (ad 36)) hx hb hts hinX13 hown hK hP hI 0 (Nat.le_of_ble_eq_true rfl) rfl rfl 53 (Nat.le_of_ble_eq_true rfl) (hts _ (vA_in _ _ (in_32 _ (zs4 (zs4 (zs4 (zs1 (zs0)))))))) (fun _ h9 => h9) (hI.fr 0 (Nat.le_of_ble_eq_true rfl) rfl (Nat.le_of_ble_eq_true rfl) 36 rfl) dX13_sorted_15 ?_
        refine lv_bipush (v := 16) hx hb dX13_sorted_18 (by decide) ?_
        refine lv_iload hx hb dX13_sorted_20 (lv_at hl 0 rfl) ?_
        refine lv_imul hx hb dX13_sorted_22 ?_
        refine lv_topi (fun y8 ey8 => ?_)
        obtain ⟨ty8, iy8⟩ := ti_mul (e := 0) (f := 304) ln_16 i6 ey8 (by decide)
        have ty8 : y8.toInt = 16 * v5_4.toInt := ty8
        have iy8 : 0 ≤ y8.toInt ∧ y8.toInt ≤ 304 := iy8
        refine lv_iload_n hx hb dX13_sorted_23 rfl (lv_at hl 3 rfl) ?_
        refine lv_iadd hx hb dX13_sorted_24 ?_
        refine lv_topi (fun y9 ey9 => ?_)
        obtain ⟨ty9, iy9⟩ := ti_add (e := 0) (f := 319) iy8 hh0 ey9 (by decide)
        have ty9 : y9.toInt = y8.toInt + a0.toInt := ty9
        have iy9 : 0 ≤ y9.toInt ∧ y9.toInt ≤ 319 := iy9
        have n11 : vp_in y9 320 := (iv_in (n := 320) iy9 (by decide))
        refine th_zald hx hb hK hP hI 36 (Nat.le_of_ble_eq_true rfl) rfl rfl n11 dX13_sorted_25 (fun y10 ey10 => ?_)
        have iy10 : 0 ≤ y10.toInt ∧ y10.toInt ≤ 1 := hI.el 36 (Nat.le_of_ble_eq_true rfl) rfl n11 (fun _ => rfl) ey10
        have ey10 := ey10.trans (hKp.ei 36 _ rfl)
        refine lv_if_eq (tgt := 32) hx hb dX13_sorted_26 (by decide) (fun c12 => ?_) (fun c12 => ?_)
        · --26 taken
          have t13 : y10.toInt = 0 := ti_eq c12
          have i14 : 0 ≤ y10.toInt ∧ y10.toInt ≤ 0 := iv_eqi t13 iy10 (il_ 0) (by decide)
          have i15 : 0 ≤ v5_3.toInt ∧ v5_3.toInt ≤ 19 := by omega
          refine lv_iload_n hx hb dX13_sorted_32 rfl (lv_at hl 1 rfl) ?_
          refine lv_istore (lv' := [(5, .int v5_3), (4, .int v5_4), (3, .int v5_3), (0, .ref (ad 0)), (1, .int a0), (2, .ref (ad 35))]) hx hb dX13_sorted_33 hl (by decide) rfl (fun ls hl => ?_)
          have hL35 : ∀ d : Nat, ∀ (g35_35 : Nat → Int32) (v35_5 : Int32) (E35_ : Nat → va_E) (H : Heap) (locs : List Loc) (ls : Array Slot), 0 ≤ v35_5.toInt ∧ v35_5.toInt ≤ 19 → shf g5_35 (xi (E 32) (16 * v5_4.toNatClampNeg + a0.toNatClampNeg)) v5_3.toNatClampNeg = shf g35_35 (xi (E 32) (16 * v5_4.toNatClampNeg + a0.toNatClampNeg)) v35_5.toNatClampNeg → v35_5.toInt ≤ v5_3.toInt → v35_5.toInt - 0 < (d : Int) → IX cT shM spM 72 ad E35_ → Kp w_sortedOX E E35_ → xi (E35_ 35) = g35_35 → va_P (dC, dI) vwCl (WX 72 ad E35_) H → va_S A s.heap H locs → lv_has ls 6 [(5, .int v35_5), (4, .int v5_4), (3, .int v5_3), (0, .ref (ad 0)), (1, .int a0), (2, .ref (ad 35))] → W p l e (headSpec v_sortedOX rm_sortedOX).room s m args below meth c H locs 0 0 Q (F0 m 35 ls []) := by
            intro d
            induction d with
            | zero =>
              intro g35_35 v35_5 E35_ H locs ls hv35_5 hx35_0 hx35_1 hx35_2 hI hKp hr35_35 hP hS hl
              exact absurd hx35_2 (by first | exact ms_zd hv35_5.1 | omega)
            | succ d ih35 =>
              intro g35_35 v35_5 E35_ H locs ls hv35_5 hx35_0 hx35_1 hx35_2 hI hKp hr35_35 hP hS hl
              refine lv_iload hx hb dX13_sorted_35 (lv_at hl 0 rfl) ?_
              refine lv_if_le (tgt := 77) hx hb dX13_sorted_37 (by decide) (fun c16 => ?_) (fun c16 => ?_)
              · --37 taken
                have t17 : v35_5.toInt ≤ 0 := ti_le c16
                have i18 : 0 ≤ v35_5.toInt ∧ v35_5.toInt ≤ 0 := iv_le_l t17 hv35_5 (il_ 0) (by decide)
                refine lv_aload_n hx hb dX13_sorted_77 rfl (lv_at hl 5 rfl) ?_
                refine lv_iload hx hb dX13_sorted_78 (lv_at hl 0 rfl) ?_
                refine lv_aload_n hx hb dX13_sorted_80 rfl (lv_at hl 3 rfl) ?_
                refine th_get (ci := 14) (C := RX13) (T := TX13) (N := 97) (v := .ref (ad 32)) hx hb hts hinX13 hown hK hP hI 0 (Nat.le_of_ble_eq_true rfl) rfl rfl 49 (Nat.le_of_ble_eq_true rfl) (hts _ (vA_in _ _ (in_32 _ (zs4 (zs4 (zs1 (zs0))))))) (fun _ h9 => h9) (hI.fr 0 (Nat.le_of_ble_eq_true rfl) rfl (Nat.le_of_ble_eq_true rfl) 32 rfl) dX13_sorted_81 ?_
                refine lv_bipush (v := 16) hx hb dX13_sorted_84 (by decide) ?_
                refine lv_iload hx hb dX13_sorted_86 (lv_at hl 1 rfl) ?_
                refine lv_imul hx hb dX13_sorted_88 ?_
                refine lv_topi (fun y19 ey19 => ?_)
                obtain ⟨ty19, iy19⟩ := ti_mul (e := 0) (f := 304) ln_16 i6 ey19 (by decide)
                have ty19 : y19.toInt = 16 * v5_4.toInt := ty19
                have iy19 : 0 ≤ y19.toInt ∧ y19.toInt ≤ 304 := iy19
                refine lv_iload_n hx hb dX13_sorted_89 rfl (lv_at hl 4 rfl) ?_
                refine lv_iadd hx hb dX13_sorted_90 ?_
                refine lv_topi (fun y20 ey20 => ?_)
                obtain ⟨ty20, iy20⟩ := ti_add (e := 0) (f := 319) iy19 hh0 ey20 (by decide)
                have ty20 : y20.toInt = y19.toInt + a0.toInt := ty20
                have iy20 : 0 ≤ y20.toInt ∧ y20.toInt ≤ 319 := iy20
                have n22 : vp_in y20 320 := (iv_in (n := 320) iy20 (by decide))
                refine th_iald hx hb hK hP hI 32 (Nat.le_of_ble_eq_true rfl) rfl rfl n22 dX13_sorted_91 (fun y21 ey21 => ?_)
                have ey21 := ey21.trans (hKp.ei 32 _ rfl)
                have n23 : vp_in v35_5 20 := (iv_in (n := 20) i18 (by decide))
                refine th_iast hx hb hK hP (WX_D hD) hS hI 35 (Nat.le_of_ble_eq_true rfl) rfl rfl n23 (okI rfl (iv_all _)) dX13_sorted_92 (fun H locs E24 pw25 hI hP hS => ?_)
                have hKp := hKp.pw pw25 rfl
                obtain ⟨g26, eg26⟩ : ∃ z : Nat → Int32, z = upd g35_35 v35_5.toNatClampNeg y21 := ⟨_, rfl⟩
                have hg26 : xi (E24 35) = g26 := by rw [pw25.eu, hr35_35, eg26]
                obtain ⟨y27, ey27⟩ : ∃ y : Int32, y = v5_3 + (1 : Int32) := ⟨_, rfl⟩
                obtain ⟨ty27, iy27⟩ := ti_add (e := 1) (f := 20) i15 ln_1 ey27 (by decide)
                have ty27 : y27.toInt = v5_3.toInt + 1 := ty27
                have iy27 : 1 ≤ y27.toInt ∧ y27.toInt ≤ 20 := iy27
                refine lv_iinc (v := y27) (lv' := [(3, .int y27), (5, .int v35_5), (4, .int v5_4), (0, .ref (ad 0)), (1, .int a0), (2, .ref (ad 35))]) hx hb dX13_sorted_93 hl (k := 2) rfl (by rw [ey27]; rfl) (by decide) rfl (fun ls hl => ?_)
                obtain ⟨y28, ey28⟩ : ∃ y : Int32, y = v5_4 + (1 : Int32) := ⟨_, rfl⟩
                obtain ⟨ty28, iy28⟩ := ti_add (e := 1) (f := 20) i6 ln_1 ey28 (by decide)
                have ty28 : y28.toInt = v5_4.toInt + 1 := ty28
                have iy28 : 1 ≤ y28.toInt ∧ y28.toInt ≤ 20 := iy28
                refine lv_iinc (v := y28) (lv' := [(4, .int y28), (3, .int y27), (5, .int v35_5), (0, .ref (ad 0)), (1, .int a0), (2, .ref (ad 35))]) hx hb dX13_sorted_96 hl (k := 2) rfl (by rw [ey28]; rfl) (by decide) rfl (fun ls hl => ?_)
                refine lv_goto (tgt := 5) hx hb dX13_sorted_99 (by decide) ?_
                exact ih5 g26 y28 y27 E24 _ _ _ (iv_w iy28 (by decide)) (iv_w iy27 (by decide)) (hx5_0.one ⟨(by rw [tn_]; omega), (show xi (E 36) (16 * v5_4.toNatClampNeg + a0.toNatClampNeg) = 0 by rw [← (show y10 = xi (E 36) (16 * v5_4.toNatClampNeg + a0.toNatClampNeg) by rw [ey10, (show y9.toNatClampNeg = 16 * v5_4.toNatClampNeg + a0.toNatClampNeg by rw [tn_ y9, tn_ v5_4, tn_ a0]; omega)])]; exact Int32.toInt_inj.mp (show y10.toInt = (0 : Int32).toInt by have z9 : (0 : Int32).toInt = 0 := rfl; omega))⟩ (fun i9 _ => by rw [(show g26 = shf g5_35 (xi (E 32) (16 * v5_4.toNatClampNeg + a0.toNatClampNeg)) v5_3.toNatClampNeg by rw [eg26, (show y21 = (xi (E 32) (16 * v5_4.toNatClampNeg + a0.toNatClampNeg)) by rw [ey21, (show y20.toNatClampNeg = 16 * v5_4.toNatClampNeg + a0.toNatClampNeg by rw [tn_ y20, tn_ v5_4, tn_ a0]; omega)])]; exact Eq.symm (by rw [hx35_0]; rw [show v35_5.toNatClampNeg = 0 by rw [tn_]; omega]; exact shf_0))]) (by rw [tn_ y27, tn_ v5_3]; omega) (by rw [tn_ y28, tn_ v5_4]; omega)) (by omega) (by omega) (by first | exact ms_su hx5_3 ty28 (by decide) | omega) hI hKp hg26 hP hS (lv_sub hl [0, 1, 3, 4, 5] rfl)
              · --37 not
                have t29 : (0 : Int) < v35_5.toInt := ti_nle c16
                have i30 : 1 ≤ v35_5.toInt ∧ v35_5.toInt ≤ 19 := iv_lt_r t29 (il_ 0) hv35_5 (by decide)
                refine lv_aload_n hx hb dX13_sorted_40 rfl (lv_at hl 5 rfl) ?_
                refine lv_iload hx hb dX13_sorted_41 (lv_at hl 0 rfl) ?_
                refine lv_iconst (v := 1) hx hb dX13_sorted_43 (by decide) ?_
                refine lv_isub hx hb dX13_sorted_44 ?_
                refine lv_topi (fun y31 ey31 => ?_)
                obtain ⟨ty31, iy31⟩ := ti_sub (e := 0) (f := 18) i30 ln_1 ey31 (by decide)
                have ty31 : y31.toInt = v35_5.toInt - 1 := ty31
                have iy31 : 0 ≤ y31.toInt ∧ y31.toInt ≤ 18 := iy31
                have n33 : vp_in y31 20 := (iv_in (n := 20) iy31 (by decide))
                refine th_iald hx hb hK hP hI 35 (Nat.le_of_ble_eq_true rfl) rfl rfl n33 dX13_sorted_45 (fun y32 ey32 => ?_)
                have ey32 := ey32.trans (congrFun hr35_35 _)
                refine lv_aload_n hx hb dX13_sorted_46 rfl (lv_at hl 3 rfl) ?_
                refine th_get (ci := 14) (C := RX13) (T := TX13) (N := 97) (v := .ref (ad 32)) hx hb hts hinX13 hown hK hP hI 0 (Nat.le_of_ble_eq_true rfl) rfl rfl 49 (Nat.le_of_ble_eq_true rfl) (hts _ (vA_in _ _ (in_32 _ (zs4 (zs4 (zs1 (zs0))))))) (fun _ h9 => h9) (hI.fr 0 (Nat.le_of_ble_eq_true rfl) rfl (Nat.le_of_ble_eq_true rfl) 32 rfl) dX13_sorted_47 ?_
                refine lv_bipush (v := 16) hx hb dX13_sorted_50 (by decide) ?_
                refine lv_iload hx hb dX13_sorted_52 (lv_at hl 1 rfl) ?_
                refine lv_imul hx hb dX13_sorted_54 ?_
                refine lv_topi (fun y34 ey34 => ?_)
                obtain ⟨ty34, iy34⟩ := ti_mul (e := 0) (f := 304) ln_16 i6 ey34 (by decide)
                have ty34 : y34.toInt = 16 * v5_4.toInt := ty34
                have iy34 : 0 ≤ y34.toInt ∧ y34.toInt ≤ 304 := iy34
                refine lv_iload_n hx hb dX13_sorted_55 rfl (lv_at hl 4 rfl) ?_
                refine lv_iadd hx hb dX13_sorted_56 ?_
                refine lv_topi (fun y35 ey35 => ?_)
                obtain ⟨ty35, iy35⟩ := ti_add (e := 0) (f := 319) iy34 hh0 ey35 (by decide)
                have ty35 : y35.toInt = y34.toInt + a0.toInt := ty35
                have iy35 : 0 ≤ y35.toInt ∧ y35.toInt ≤ 319 := iy35
                have n37 : vp_in y35 320 := (iv_in (n := 320) iy35 (by decide))
                refine th_iald hx hb hK hP hI 32 (Nat.le_of_ble_eq_true rfl) rfl rfl n37 dX13_sorted_57 (fun y36 ey36 => ?_)
                have ey36 := ey36.trans (hKp.ei 32 _ rfl)
                refine lv_icmp_le (tgt := 77) hx hb dX13_sorted_58 (by decide) (fun c38 => ?_) (fun c38 => ?_)
                · --58 taken
                  have t39 : y32.toInt ≤ y36.toInt := ti_le c38
                  refine lv_aload_n hx hb dX13_sorted_77 rfl (lv_at hl 5 rfl) ?_
                  refine lv_iload hx hb dX13_sorted_78 (lv_at hl 0 rfl) ?_
                  refine lv_aload_n hx hb dX13_sorted_80 rfl (lv_at hl 3 rfl) ?_
                  refine th_get (ci := 14) (C := RX13) (T := TX13) (N := 97) (v := .ref (ad 32)) hx hb hts hinX13 hown hK hP hI 0 (Nat.le_of_ble_eq_true rfl) rfl rfl 49 (Nat.le_of_ble_eq_true rfl) (hts _ (vA_in _ _ (in_32 _ (zs4 (zs4 (zs1 (zs0))))))) (fun _ h9 => h9) (hI.fr 0 (Nat.le_of_ble_eq_true rfl) rfl (Nat.le_of_ble_eq_true rfl) 32 rfl) dX13_sorted_81 ?_
                  refine lv_bipush (v := 16) hx hb dX13_sorted_84 (by decide) ?_
                  refine lv_iload hx hb dX13_sorted_86 (lv_at hl 1 rfl) ?_
                  refine lv_imul hx hb dX13_sorted_88 ?_
                  refine lv_topi (fun y40 ey40 => ?_)
                  obtain ⟨ty40, iy40⟩ := ti_mul (e := 0) (f := 304) ln_16 i6 ey40 (by decide)
                  have ty40 : y40.toInt = 16 * v5_4.toInt := ty40
                  have iy40 : 0 ≤ y40.toInt ∧ y40.toInt ≤ 304 := iy40
                  refine lv_iload_n hx hb dX13_sorted_89 rfl (lv_at hl 4 rfl) ?_
                  refine lv_iadd hx hb dX13_sorted_90 ?_
                  refine lv_topi (fun y41 ey41 => ?_)
                  obtain ⟨ty41, iy41⟩ := ti_add (e := 0) (f := 319) iy40 hh0 ey41 (by decide)
                  have ty41 : y41.toInt = y40.toInt + a0.toInt := ty41
                  have iy41 : 0 ≤ y41.toInt ∧ y41.toInt ≤ 319 := iy41
                  have n43 : vp_in y41 320 := (iv_in (n := 320) iy41 (by decide))
                  refine th_iald hx hb hK hP hI 32 (Nat.le_of_ble_eq_true rfl) rfl rfl n43 dX13_sorted_91 (fun y42 ey42 => ?_)
                  have ey42 := ey42.trans (hKp.ei 32 _ rfl)
                  have n44 : vp_in v35_5 20 := (iv_in (n := 20) i30 (by decide))
                  refine th_iast hx hb hK hP (WX_D hD) hS hI 35 (Nat.le_of_ble_eq_true rfl) rfl rfl n44 (okI rfl (iv_all _)) dX13_sorted_92 (fun H locs E45 pw46 hI hP hS => ?_)
                  have hKp := hKp.pw pw46 rfl
                  obtain ⟨g47, eg47⟩ : ∃ z : Nat → Int32, z = upd g35_35 v35_5.toNatClampNeg y42 := ⟨_, rfl⟩
                  have hg47 : xi (E45 35) = g47 := by rw [pw46.eu, hr35_35, eg47]
                  obtain ⟨y48, ey48⟩ : ∃ y : Int32, y = v5_3 + (1 : Int32) := ⟨_, rfl⟩
                  obtain ⟨ty48, iy48⟩ := ti_add (e := 1) (f := 20) i15 ln_1 ey48 (by decide)
                  have ty48 : y48.toInt = v5_3.toInt + 1 := ty48
                  have iy48 : 1 ≤ y48.toInt ∧ y48.toInt ≤ 20 := iy48
                  refine lv_iinc (v := y48) (lv' := [(3, .int y48), (5, .int v35_5), (4, .int v5_4), (0, .ref (ad 0)), (1, .int a0), (2, .ref (ad 35))]) hx hb dX13_sorted_93 hl (k := 2) rfl (by rw [ey48]; rfl) (by decide) rfl (fun ls hl => ?_)
                  obtain ⟨y49, ey49⟩ : ∃ y : Int32, y = v5_4 + (1 : Int32) := ⟨_, rfl⟩
                  obtain ⟨ty49, iy49⟩ := ti_add (e := 1) (f := 20) i6 ln_1 ey49 (by decide)
                  have ty49 : y49.toInt = v5_4.toInt + 1 := ty49
                  have iy49 : 1 ≤ y49.toInt ∧ y49.toInt ≤ 20 := iy49
                  refine lv_iinc (v := y49) (lv' := [(4, .int y49), (3, .int y48), (5, .int v35_5), (0, .ref (ad 0)), (1, .int a0), (2, .ref (ad 35))]) hx hb dX13_sorted_96 hl (k := 2) rfl (by rw [ey49]; rfl) (by decide) rfl (fun ls hl => ?_)
                  refine lv_goto (tgt := 5) hx hb dX13_sorted_99 (by decide) ?_
                  exact ih5 g47 y49 y48 E45 _ _ _ (iv_w iy49 (by decide)) (iv_w iy48 (by decide)) (hx5_0.one ⟨(by rw [tn_]; omega), (show xi (E 36) (16 * v5_4.toNatClampNeg + a0.toNatClampNeg) = 0 by rw [← (show y10 = xi (E 36) (16 * v5_4.toNatClampNeg + a0.toNatClampNeg) by rw [ey10, (show y9.toNatClampNeg = 16 * v5_4.toNatClampNeg + a0.toNatClampNeg by rw [tn_ y9, tn_ v5_4, tn_ a0]; omega)])]; exact Int32.toInt_inj.mp (show y10.toInt = (0 : Int32).toInt by have z9 : (0 : Int32).toInt = 0 := rfl; omega))⟩ (fun i9 _ => by rw [(show g47 = shf g5_35 (xi (E 32) (16 * v5_4.toNatClampNeg + a0.toNatClampNeg)) v5_3.toNatClampNeg by rw [eg47, (show y42 = (xi (E 32) (16 * v5_4.toNatClampNeg + a0.toNatClampNeg)) by rw [ey42, (show y41.toNatClampNeg = 16 * v5_4.toNatClampNeg + a0.toNatClampNeg by rw [tn_ y41, tn_ v5_4, tn_ a0]; omega)])]; exact Eq.symm (by rw [hx35_0]; rw [(show v35_5.toNatClampNeg = y31.toNatClampNeg + 1 by rw [tn_ v35_5, tn_ y31]; omega)]; exact shf_e (by rw [← (show y36 = (xi (E 32) (16 * v5_4.toNatClampNeg + a0.toNatClampNeg)) by rw [ey36, (show y35.toNatClampNeg = 16 * v5_4.toNatClampNeg + a0.toNatClampNeg by rw [tn_ y35, tn_ v5_4, tn_ a0]; omega)]), ← ey32]; omega)))]) (by rw [tn_ y48, tn_ v5_3]; omega) (by rw [tn_ y49, tn_ v5_4]; omega)) (by omega) (by omega) (by first | exact ms_su hx5_3 ty49 (by decide) | omega) hI hKp hg47 hP hS (lv_sub hl [0, 1, 3, 4, 5] rfl)
                · --58 not
                  have t50 : y36.toInt < y32.toInt := ti_nle c38
                  have i51 : -2147483648 ≤ y36.toInt ∧ y36.toInt ≤ 2147483646 := iv_lt_l t50 (iv_all _) (iv_all _) (by decide)
                  have i52 : -2147483647 ≤ y32.toInt ∧ y32.toInt ≤ 2147483647 := iv_lt_r t50 (iv_all _) (iv_all _) (by decide)
                  refine lv_aload_n hx hb dX13_sorted_61 rfl (lv_at hl 5 rfl) ?_
                  refine lv_iload hx hb dX13_sorted_62 (lv_at hl 0 rfl) ?_
                  refine lv_aload_n hx hb dX13_sorted_64 rfl (lv_at hl 5 rfl) ?_
                  refine lv_iload hx hb dX13_sorted_65 (lv_at hl 0 rfl) ?_
                  refine lv_iconst (v := 1) hx hb dX13_sorted_67 (by decide) ?_
                  refine lv_isub hx hb dX13_sorted_68 ?_
                  refine lv_topi (fun y53 ey53 => ?_)
                  obtain ⟨ty53, iy53⟩ := ti_sub (e := 0) (f := 18) i30 ln_1 ey53 (by decide)
                  have ty53 : y53.toInt = v35_5.toInt - 1 := ty53
                  have iy53 : 0 ≤ y53.toInt ∧ y53.toInt ≤ 18 := iy53
                  have n55 : vp_in y53 20 := (iv_in (n := 20) iy53 (by decide))
                  refine th_iald hx hb hK hP hI 35 (Nat.le_of_ble_eq_true rfl) rfl rfl n55 dX13_sorted_69 (fun y54 ey54 => ?_)
                  have ey54 := ey54.trans (congrFun hr35_35 _)
                  have n56 : vp_in v35_5 20 := (iv_in (n := 20) i30 (by decide))
                  refine th_iast hx hb hK hP (WX_D hD) hS hI 35 (Nat.le_of_ble_eq_true rfl) rfl rfl n56 (okI rfl (iv_all _)) dX13_sorted_70 (fun H locs E57 pw58 hI hP hS => ?_)
                  have hKp := hKp.pw pw58 rfl
                  obtain ⟨g59, eg59⟩ : ∃ z : Nat → Int32, z = upd g35_35 v35_5.toNatClampNeg y54 := ⟨_, rfl⟩
                  have hg59 : xi (E57 35) = g59 := by rw [pw58.eu, hr35_35, eg59]
                  obtain ⟨y60, ey60⟩ : ∃ y : Int32, y = v35_5 + (-1 : Int32) := ⟨_, rfl⟩
                  obtain ⟨ty60, iy60⟩ := ti_add (e := 0) (f := 18) i30 ln_m1 ey60 (by decide)
                  have ty60 : y60.toInt = v35_5.toInt + (-1) := ty60
                  have iy60 : 0 ≤ y60.toInt ∧ y60.toInt ≤ 18 := iy60
                  refine lv_iinc (v := y60) (lv' := [(5, .int y60), (4, .int v5_4), (3, .int v5_3), (0, .ref (ad 0)), (1, .int a0), (2, .ref (ad 35))]) hx hb dX13_sorted_71 hl (k := 0) rfl (by rw [ey60]; rfl) (by decide) rfl (fun ls hl => ?_)
                  refine lv_goto (tgt := 35) hx hb dX13_sorted_74 (by decide) ?_
                  exact ih35 g59 y60 E57 _ _ _ (iv_w iy60 (by decide)) (by rw [hx35_0, (show v35_5.toNatClampNeg = y60.toNatClampNeg + 1 by rw [tn_ v35_5, tn_ y60]; omega), shf_s (show (xi (E 32) (16 * v5_4.toNatClampNeg + a0.toNatClampNeg)).toInt < (g35_35 y60.toNatClampNeg).toInt by rw [← (show y36 = (xi (E 32) (16 * v5_4.toNatClampNeg + a0.toNatClampNeg)) by rw [ey36, (show y35.toNatClampNeg = 16 * v5_4.toNatClampNeg + a0.toNatClampNeg by rw [tn_ y35, tn_ v5_4, tn_ a0]; omega)]), ← (show y31.toNatClampNeg = y60.toNatClampNeg by rw [tn_ y31, tn_ y60]; omega), ← ey32]; omega)]; congr 1; rw [eg59, (show v35_5.toNatClampNeg = y60.toNatClampNeg + 1 by rw [tn_ v35_5, tn_ y60]; omega), ey54, (show y53.toNatClampNeg = y60.toNatClampNeg by rw [tn_ y53, tn_ y60]; omega)]) (by omega) (by first | exact ms_sd hx35_2 ty60 (by decide) | exact ms_sd2 hx35_2 ty60 | omega) hI hKp hg59 hP hS (lv_sub hl [0, 1, 2, 3, 4, 5] rfl)
          exact hL35 (20) g5_35 v5_3 E5_ _ _ _ i15 rfl (by omega) (by have h9 := i15; first | exact ms_bd h9.2 (by decide) | omega) hI hKp hr5_35 hP hS (lv_sub hl [0, 1, 2, 3, 4, 5] rfl)
        · --26 not
          have t61 : ¬ y10.toInt = 0 := ti_ne c12
          have i62 : 1 ≤ y10.toInt ∧ y10.toInt ≤ 1 := iv_ne_l t61 iy10 (il_ 0)
          refine lv_goto (tgt := 96) hx hb dX13_sorted_29 (by decide) ?_
          obtain ⟨y63, ey63⟩ : ∃ y : Int32, y = v5_4 + (1 : Int32) := ⟨_, rfl⟩
          obtain ⟨ty63, iy63⟩ := ti_add (e := 1) (f := 20) i6 ln_1 ey63 (by decide)
          have ty63 : y63.toInt = v5_4.toInt + 1 := ty63
          have iy63 : 1 ≤ y63.toInt ∧ y63.toInt ≤ 20 := iy63
          refine lv_iinc (v := y63) (lv' := [(4, .int y63), (3, .int v5_3), (0, .ref (ad 0)), (1, .int a0), (2, .ref (ad 35))]) hx hb dX13_sorted_96 hl (k := 0) rfl (by rw [ey63]; rfl) (by decide) rfl (fun ls hl => ?_)
          refine lv_goto (tgt := 5) hx hb dX13_sorted_99 (by decide) ?_
          exact ih5 g5_35 y63 v5_3 E5_ _ _ _ (iv_w iy63 (by decide)) hv5_3 (hx5_0.no (fun q9 => by have q8 : xi (E 36) (16 * v5_4.toNatClampNeg + a0.toNatClampNeg) = 0 := q9.2; have q7 := congrArg Int32.toInt ((show y10 = xi (E 36) (16 * v5_4.toNatClampNeg + a0.toNatClampNeg) by rw [ey10, (show y9.toNatClampNeg = 16 * v5_4.toNatClampNeg + a0.toNatClampNeg by rw [tn_ y9, tn_ v5_4, tn_ a0]; omega)]).trans q8); have z9 : (0 : Int32).toInt = 0 := rfl; omega) (by rw [tn_ y63, tn_ v5_4]; omega)) (by omega) (by omega) (by first | exact ms_su hx5_3 ty63 (by decide) | omega) hI hKp hr5_35 hP hS (lv_sub hl [0, 1, 2, 3, 4] rfl)
  exact hL5 (21) g1 (0 : Int32) (0 : Int32) E _ _ _ (iv_w ln_0 (by decide)) (iv_w ln_0 (by decide)) (show MR (fun r9 : Nat => xi (E 36) (16 * r9 + a0.toNatClampNeg) = 0) (fun r9 : Nat => xi (E 32) (16 * r9 + a0.toNatClampNeg)) 99 0 0 _ from rfl) (by have z9 := ln_0; omega) (by have z9 := ln_0; omega) (by have h9 := ln_0; first | exact ms_bu h9.1 (by decide) | omega) hI hKp hg1 hP hS (lv_sub hl [0, 1, 2, 3, 4] rfl)
def v_isBetterM : List Cond := .code yX13_isBetter cX13_isBetter 6 (some .boolean) :: vA
abbrev rm_isBetterM : Room := { frames := 1, cells := 0, slots := 0, locals := 40 }
def w_isBetterM : Nat → Nat → Bool := wl [34, 35] []
set_option maxHeartbeats 4000000 in
set_option maxRecDepth 100000 in
theorem q_isBetterM (l : Launch) (dC : Nat → ClassId) (dI : Nat → Nat → Nat) (cT : Nat → ClassId) (ad : Nat → Nat) (E : Nat → va_E) (sz : Nat) (a0 : Int32) (a1 : Int32) (hI0 : IX cT shM spM 72 ad E) (hh0 : 0 ≤ a0.toInt ∧ a0.toInt ≤ 15) (hh1 : 0 ≤ a1.toInt ∧ a1.toInt ≤ 15) (hh2 : KeQ (xi (E 32)) (xi (E 36)) (xi (E 0) 55).toNatClampNeg a0.toNatClampNeg a1.toNatClampNeg) : Met l yX13_isBetter v_isBetterM rm_isBetterM (va_Pc [.ref (ad 0), .int a0, .int a1] (HW dC dI (TYM cT) 72 ad E sz)) (va_Qi (S := Nat → va_E) (fun r u => IX cT shM spM 72 ad u ∧ Kp w_isBetterM E u ∧ ((0 ≤ r.toInt ∧ r.toInt ≤ 1) ∧ (r.toInt = 1 ↔ BtP (xi (E 32)) (xi (E 36)) (xi (E 33)) (xi (E 0) 55).toNatClampNeg a0.toNatClampNeg a1.toNatClampNeg))) (HB dC dI 72 ad) (va_A (WX 72 ad E) sz)) 0 0 (va_A (WX 72 ad E) sz) := by
  refine Met.ofW (cc := cX13_isBetter) (maxL := 6) (ret := (some .boolean)) (by decide) rfl ?_
  intro p e s m args below meth c s₁ B hml hv
  obtain ⟨hargs, hsz, hP, hK, hD0, hEV⟩ := hv
  subst hsz
  have hx := B.exec
  have hb := B.bytes
  have hr := B.returns
  have hts := atoms_spec (ws := v_isBetterM) B.pre
  have hown : s.vm.findClass RX13 = some m.cls := findClass_of_methodNamed B.named
  have hlocks := B.notSynchronized
  have hinX13 : ∀ w ∈ u_ws RX13 TX13 97, w ∈ v_isBetterM := fun w h => vA_in _ w (in_X13 w h)
  generalize hAe : va_A (WX 72 ad E) s.heap.size = A at hEV ⊢
  have hA : ∀ q : Nat, s.heap.size ≤ q → A q := fun q h => by rw [← hAe]; exact Or.inr h
  have hD : va_D A (WX 72 ad E) := by rw [← hAe]; exact hD0.self
  have hS : va_S A s.heap s.heap [] := va_S.rf
  have hI := hI0
  have hKp : Kp w_isBetterM E E := Kp.rf
  have hl := lv_entry ([.ref (ad 0), .int a0, .int a1]) (n := 6) (Nat.le_of_ble_eq_true rfl)
  obtain ⟨Q, hQ⟩ : ∃ Q, Q = MQ below (va_Qi (S := Nat → va_E) (fun r u => IX cT shM spM 72 ad u ∧ Kp w_isBetterM E u ∧ ((0 ≤ r.toInt ∧ r.toInt ≤ 1) ∧ (r.toInt = 1 ↔ BtP (xi (E 32)) (xi (E 36)) (xi (E 33)) (xi (E 0) 55).toNatClampNeg a0.toNatClampNeg a1.toNatClampNeg))) (HB dC dI 72 ad) (A)) args s 0 0 (A) := ⟨_, rfl⟩
  rw [← hQ, show entryFrame m args 6 = _ from (congrArg (fun z => entryFrame m z 6) hargs).trans (lg_entry_eq _ _ _)]
  generalize (lg_sl ([.ref (ad 0), .int a0, .int a1]) ++ List.replicate (6 - (lg_sl ([.ref (ad 0), .int a0, .int a1])).length) Slot.unset).toArray = ls at hl ⊢
  have hl : lv_has ls 6 [(0, .ref (ad 0)), (1, .int a0), (2, .int a1)] := hl
  have z0z : (0 : Int32).toInt = 0 := rfl
  have ib8 : 0 ≤ (xi (E 0) 8).toInt ∧ (xi (E 0) 8).toInt ≤ 16 := hI0.iv 0 (Nat.le_of_ble_eq_true rfl) rfl (Nat.le_of_ble_eq_true rfl) rfl
  have ib46 : 0 ≤ (xi (E 0) 46).toInt ∧ (xi (E 0) 46).toInt ≤ 20 := hI0.iv 0 (Nat.le_of_ble_eq_true rfl) rfl (Nat.le_of_ble_eq_true rfl) rfl
  have hN16 : (xi (E 0) 8).toNatClampNeg ≤ 16 := by rw [tn_]; omega
  have z0 := ln_0
  have z1 := ln_1
  have zm1 := ln_m1
  have iKm : 0 ≤ (xi (E 0) 55).toInt ∧ (xi (E 0) 55).toInt ≤ 20 := hI0.iv 0 (Nat.le_of_ble_eq_true rfl) rfl (Nat.le_of_ble_eq_true rfl) rfl
  refine lv_aload_n hx hb dX13_isBetter_0 rfl (lv_at hl 0 rfl) ?_
  refine th_get (ci := 14) (C := RX13) (T := TX13) (N := 97) (v := .ref (ad 33)) hx hb hts hinX13 hown hK hP hI 0 (Nat.le_of_ble_eq_true rfl) rfl rfl 50 (Nat.le_of_ble_eq_true rfl) (hts _ (vA_in _ _ (in_32 _ (zs4 (zs4 (zs1 (zs1 (zs0)))))))) (fun _ h9 => h9) (hI.fr 0 (Nat.le_of_ble_eq_true rfl) rfl (Nat.le_of_ble_eq_true rfl) 33 rfl) dX13_isBetter_1 ?_
  refine lv_iload_n hx hb dX13_isBetter_4 rfl (lv_at hl 1 rfl) ?_
  have n2 : vp_in a0 16 := (iv_in (n := 16) hh0 (by decide))
  refine th_iald hx hb hK hP hI 33 (Nat.le_of_ble_eq_true rfl) rfl rfl n2 dX13_isBetter_5 (fun y1 ey1 => ?_)
  have ey1 := ey1.trans (hKp.ei 33 _ rfl)
  refine lv_aload_n hx hb dX13_isBetter_6 rfl (lv_at hl 0 rfl) ?_
  refine th_get (ci := 14) (C := RX13) (T := TX13) (N := 97) (v := .ref (ad 33)) hx hb hts hinX13 hown hK hP hI 0 (Nat.le_of_ble_eq_true rfl) rfl rfl 50 (Nat.le_of_ble_eq_true rfl) (hts _ (vA_in _ _ (in_32 _ (zs4 (zs4 (zs1 (zs1 (zs0)))))))) (fun _ h9 => h9) (hI.fr 0 (Nat.le_of_ble_eq_true rfl) rfl (Nat.le_of_ble_eq_true rfl) 33 rfl) dX13_isBetter_7 ?_
  refine lv_iload_n hx hb dX13_isBetter_10 rfl (lv_at hl 2 rfl) ?_
  have n4 : vp_in a1 16 := (iv_in (n := 16) hh1 (by decide))
  refine th_iald hx hb hK hP hI 33 (Nat.le_of_ble_eq_true rfl) rfl rfl n4 dX13_isBetter_11 (fun y3 ey3 => ?_)
  have ey3 := ey3.trans (hKp.ei 33 _ rfl)
  refine lv_icmp_eq (tgt := 36) hx hb dX13_isBetter_12 (by decide) (fun c5 => ?_) (fun c5 => ?_)
  · --12 taken
    have t6 : y1.toInt = y3.toInt := ti_eq c5
    have k7 : (xi (E 33) a0.toNatClampNeg).toInt = (xi (E 33) a1.toNatClampNeg).toInt := by rw [← ey1, ← ey3]; omega
    refine lv_aload_n hx hb dX13_isBetter_36 rfl (lv_at hl 0 rfl) ?_
    refine lv_iload_n hx hb dX13_isBetter_37 rfl (lv_at hl 1 rfl) ?_
    refine lv_aload_n hx hb dX13_isBetter_38 rfl (lv_at hl 0 rfl) ?_
    refine th_get (ci := 14) (C := RX13) (T := TX13) (N := 97) (v := .ref (ad 34)) hx hb hts hinX13 hown hK hP hI 0 (Nat.le_of_ble_eq_true rfl) rfl rfl 51 (Nat.le_of_ble_eq_true rfl) (hts _ (vA_in _ _ (in_32 _ (zs4 (zs4 (zs1 (zs1 (zs1 (zs0))))))))) (fun _ h9 => h9) (hI.fr 0 (Nat.le_of_ble_eq_true rfl) rfl (Nat.le_of_ble_eq_true rfl) 34 rfl) dX13_isBetter_39 ?_
    refine th_i (va_runV (As := [.int a0, .ref (ad 34)]) (rest := []) ⟨hx, hb, hml, hown, hts⟩ (q_sortedLX l dC dI cT ad E s.heap.size a0 hI hh0) (cwV 2 hts (gi_V (in_32 _ (zs16 (zs4 (zs0)))) (in_32 _ (zs16 (zs4 (zs1 (zs0))))) (in_32 _ (zs16 (zs4 (zs1 (zs1 (zs0)))))) (in_24 _ (zs4 (zs4 (zs4 (zs1 (zs1 (zs1 (zs0)))))))) (in_32 _ (zs16 (zs4 (zs1 (zs1 (zs1 (zs0)))))))) rfl rfl rfl ⟨rfl, hz_yX13_sorted_2⟩ ⟨Nat.le_of_ble_eq_true rfl, Nat.le_of_ble_eq_true rfl⟩) ⟨HW_bl, va_recv hK hP (ci := 14) (q0 := 0) rfl (hI.ob 0 (Nat.le_of_ble_eq_true rfl) rfl), (HW_wi hP hK (WX_D hD) hS hA hEV)⟩ rfl rfl hl.1 rfl (lv_room (Nat.le_of_ble_eq_true rfl)) dX13_isBetter_42 ⟨Nat.le_of_ble_eq_true rfl, Nat.le_of_ble_eq_true rfl⟩) (WX_D hD) hS hA (fun r8 E9 H locs hw hP hS => ?_)
    obtain ⟨hI, kq10, hw⟩ := hw
    have hKb := hKp
    have hKp := hKp.tr kq10 (wl_sub rfl rfl)
    obtain ⟨f11, f12⟩ := hw
    have i13 : 0 ≤ (xi (E 0) 55).toInt ∧ (xi (E 0) 55).toInt ≤ 20 := (show 0 ≤ (xi (E 0) 55).toInt ∧ (xi (E 0) 55).toInt ≤ 20 from hI0.iv 0 (Nat.le_of_ble_eq_true rfl) rfl (Nat.le_of_ble_eq_true rfl) rfl)
    obtain ⟨g14, hg14⟩ : ∃ g, xi (E9 34) = g := ⟨_, rfl⟩
    refine lv_istore_n (lv' := [(3, .int r8), (0, .ref (ad 0)), (1, .int a0), (2, .int a1)]) hx hb dX13_isBetter_45 rfl hl (by decide) rfl (fun ls hl => ?_)
    refine lv_aload_n hx hb dX13_isBetter_46 rfl (lv_at hl 1 rfl) ?_
    refine lv_iload_n hx hb dX13_isBetter_47 rfl (lv_at hl 3 rfl) ?_
    refine lv_aload_n hx hb dX13_isBetter_48 rfl (lv_at hl 1 rfl) ?_
    refine th_get (ci := 14) (C := RX13) (T := TX13) (N := 97) (v := .ref (ad 35)) hx hb hts hinX13 hown hK hP hI 0 (Nat.le_of_ble_eq_true rfl) rfl rfl 52 (Nat.le_of_ble_eq_true rfl) (hts _ (vA_in _ _ (in_32 _ (zs4 (zs4 (zs4 (zs0))))))) (fun _ h9 => h9) (hI.fr 0 (Nat.le_of_ble_eq_true rfl) rfl (Nat.le_of_ble_eq_true rfl) 35 rfl) dX13_isBetter_49 ?_
    refine th_i (va_runV (As := [.int a1, .ref (ad 35)]) (rest := []) ⟨hx, hb, hml, hown, hts⟩ (q_sortedOX l dC dI cT ad E9 H.size a1 hI hh1) (cwV 2 hts (gi_V (in_32 _ (zs16 (zs4 (zs0)))) (in_32 _ (zs16 (zs4 (zs1 (zs0))))) (in_32 _ (zs16 (zs4 (zs1 (zs1 (zs0)))))) (in_24 _ (zs4 (zs4 (zs4 (zs1 (zs1 (zs1 (zs0)))))))) (in_32 _ (zs16 (zs4 (zs1 (zs1 (zs1 (zs0)))))))) rfl rfl rfl ⟨rfl, hz_yX13_sorted_2⟩ ⟨Nat.le_of_ble_eq_true rfl, Nat.le_of_ble_eq_true rfl⟩) ⟨HW_bl, va_recv hK hP (ci := 14) (q0 := 0) rfl (hI.ob 0 (Nat.le_of_ble_eq_true rfl) rfl), (HW_wi hP hK (WX_D hD) hS hA hEV)⟩ rfl rfl hl.1 rfl (lv_room (Nat.le_of_ble_eq_true rfl)) dX13_isBetter_52 ⟨Nat.le_of_ble_eq_true rfl, Nat.le_of_ble_eq_true rfl⟩) (WX_D hD) hS hA (fun r15 E16 H locs hw hP hS => ?_)
    obtain ⟨hI, kq17, hw⟩ := hw
    have hKb := hKp
    have hKp := hKp.tr kq17 (wl_sub rfl rfl)
    obtain ⟨f18, f19⟩ := hw
    try rw [hKb.ei 0 55 rfl] at f19
    try rw [hKb.ef 32 (fun _ => rfl)] at f19
    try rw [hKb.ef 36 (fun _ => rfl)] at f19
    obtain ⟨g20, hg20⟩ : ∃ g, xi (E16 35) = g := ⟨_, rfl⟩
    have k21 : KpR (xi (E 32)) (xi (E 36)) (xi (E 0) 55).toNatClampNeg a0.toNatClampNeg r8.toNatClampNeg g14 := by have h9 := f12; rw [show xi (E9 34) = g14 from hg14] at h9; exact h9
    have k22 : KpR (xi (E 32)) (xi (E 36)) (xi (E 0) 55).toNatClampNeg a1.toNatClampNeg r15.toNatClampNeg g20 := by have h9 := f19; rw [show xi (E16 35) = g20 from hg20] at h9; exact h9
    have k23 := Bt_iff (O := xi (E 33)) k7 k21 k22 hh2
    have k24 : r8.toInt = r15.toInt := by have h9 := hh2 _ _ _ _ k21 k22; rw [tn_, tn_] at h9; omega
    refine lv_istore (lv' := [(4, .int r15), (3, .int r8), (0, .ref (ad 0)), (1, .int a0), (2, .int a1)]) hx hb dX13_isBetter_55 hl (by decide) rfl (fun ls hl => ?_)
    refine lv_iconst (v := 0) hx hb dX13_isBetter_57 (by decide) ?_
    refine lv_istore (lv' := [(5, .int 0), (4, .int r15), (3, .int r8), (0, .ref (ad 0)), (1, .int a0), (2, .int a1)]) hx hb dX13_isBetter_58 hl (by decide) rfl (fun ls hl => ?_)
    have hL60 : ∀ d : Nat, ∀ (v60_5 : Int32) (H : Heap) (locs : List Loc) (ls : Array Slot), 0 ≤ v60_5.toInt ∧ v60_5.toInt ≤ 20 → (∀ j9 : Nat, j9 < v60_5.toNatClampNeg → g14 j9 = g20 j9) → v60_5.toInt ≤ r8.toInt → 20 - v60_5.toInt < (d : Int) → va_P (dC, dI) vwCl (WX 72 ad E16) H → va_S A s.heap H locs → lv_has ls 6 [(5, .int v60_5), (4, .int r15), (3, .int r8), (0, .ref (ad 0)), (1, .int a0), (2, .int a1)] → W p l e (headSpec v_isBetterM rm_isBetterM).room s m args below meth c H locs 0 0 Q (F0 m 60 ls []) := by
      intro d
      induction d with
      | zero =>
        intro v60_5 H locs ls hv60_5 hx60_0 hx60_1 hx60_2 hP hS hl
        exact absurd hx60_2 (by first | exact ms_zu hv60_5.2 | omega)
      | succ d ih60 =>
        intro v60_5 H locs ls hv60_5 hx60_0 hx60_1 hx60_2 hP hS hl
        refine lv_iload hx hb dX13_isBetter_60 (lv_at hl 0 rfl) ?_
        refine lv_iload_n hx hb dX13_isBetter_62 rfl (lv_at hl 2 rfl) ?_
        refine lv_icmp_ge (tgt := 119) hx hb dX13_isBetter_63 (by decide) (fun c25 => ?_) (fun c25 => ?_)
        · --63 taken
          have t26 : r8.toInt ≤ v60_5.toInt := ti_le c25
          refine lv_aload_n hx hb dX13_isBetter_119 rfl (lv_at hl 3 rfl) ?_
          refine th_get (ci := 14) (C := RX13) (T := TX13) (N := 97) (v := .int (xi (E 0) 55)) hx hb hts hinX13 hown hK hP hI 0 (Nat.le_of_ble_eq_true rfl) rfl rfl 55 (Nat.le_of_ble_eq_true rfl) (hts _ (vA_in _ _ (in_32 _ (zs16 (zs1 (zs1 (zs1 (zs0)))))))) (fun _ h9 => h9) (th_v0 hKp hI0 0 (Nat.le_of_ble_eq_true rfl) rfl (Nat.le_of_ble_eq_true rfl) rfl rfl) dX13_isBetter_120 ?_
          refine lv_iconst (v := 1) hx hb dX13_isBetter_123 (by decide) ?_
          refine lv_isub hx hb dX13_isBetter_124 ?_
          refine lv_topi (fun y27 ey27 => ?_)
          obtain ⟨ty27, iy27⟩ := ti_sub (e := (-1)) (f := 19) i13 ln_1 ey27 (by decide)
          have ty27 : y27.toInt = (xi (E 0) 55).toInt - 1 := ty27
          have iy27 : -1 ≤ y27.toInt ∧ y27.toInt ≤ 19 := iy27
          refine lv_istore (lv' := [(5, .int y27), (4, .int r15), (3, .int r8), (0, .ref (ad 0)), (1, .int a0), (2, .int a1)]) hx hb dX13_isBetter_125 hl (by decide) rfl (fun ls hl => ?_)
          have hL127 : ∀ d : Nat, ∀ (v127_5 : Int32) (H : Heap) (locs : List Loc) (ls : Array Slot), -1 ≤ v127_5.toInt ∧ v127_5.toInt ≤ 19 → (∀ j9 : Nat, v127_5.toInt < (j9 : Int) → j9 < (xi (E 0) 55).toNatClampNeg → xi (E 32) (16 * j9 + a0.toNatClampNeg) = xi (E 32) (16 * j9 + a1.toNatClampNeg)) → v127_5.toInt < (xi (E 0) 55).toInt → v127_5.toInt - (-1) < (d : Int) → va_P (dC, dI) vwCl (WX 72 ad E16) H → va_S A s.heap H locs → lv_has ls 6 [(5, .int v127_5), (4, .int r15), (3, .int r8), (0, .ref (ad 0)), (1, .int a0), (2, .int a1)] → W p l e (headSpec v_isBetterM rm_isBetterM).room s m args below meth c H locs 0 0 Q (F0 m 127 ls []) := by
            intro d
            induction d with
            | zero =>
              intro v127_5 H locs ls hv127_5 hx127_0 hx127_1 hx127_2 hP hS hl
              exact absurd hx127_2 (by first | exact ms_zd hv127_5.1 | omega)
            | succ d ih127 =>
              intro v127_5 H locs ls hv127_5 hx127_0 hx127_1 hx127_2 hP hS hl
              refine lv_iload hx hb dX13_isBetter_127 (lv_at hl 0 rfl) ?_
              refine lv_if_lt (tgt := 198) hx hb dX13_isBetter_129 (by decide) (fun c28 => ?_) (fun c28 => ?_)
              · --129 taken
                have t29 : v127_5.toInt < 0 := ti_lt c28
                have i30 : -1 ≤ v127_5.toInt ∧ v127_5.toInt ≤ -1 := iv_lt_l t29 hv127_5 (il_ 0) (by decide)
                refine lv_iload_n hx hb dX13_isBetter_198 rfl (lv_at hl 4 rfl) ?_
                refine lv_iload_n hx hb dX13_isBetter_199 rfl (lv_at hl 5 rfl) ?_
                refine lv_icmp_ge (tgt := 207) hx hb dX13_isBetter_200 (by decide) (fun c31 => ?_) (fun c31 => ?_)
                · --200 taken
                  have t32 : a1.toInt ≤ a0.toInt := ti_le c31
                  refine lv_iconst (v := 0) hx hb dX13_isBetter_207 (by decide) ?_
                  rw [hQ]
                  exact W.zret (v := 0) hx hb hr rfl (fun t ht hW => ⟨⟨0, E16, rfl, ⟨hI, hKp, ⟨(iv_w ln_0 (by decide)), ⟨fun q9 => by exfalso; have z0 : (0 : Int32).toInt = 0 := rfl; have z1 : (1 : Int32).toInt = 1 := rfl; omega, fun q9 => absurd q9 (fun q8 => by have q7 := (RevR.eq (p := (fun r => xi (E 32) (16 * r + a0.toNatClampNeg))) (p' := (fun r => xi (E 32) (16 * r + a1.toNatClampNeg))) (e := a0.toNatClampNeg < a1.toNatClampNeg) (fun j9 h9 => hx127_0 j9 (by omega) h9)).mp ((LexR.eq (e := RevR (fun r => xi (E 32) (16 * r + a0.toNatClampNeg)) (fun r => xi (E 32) (16 * r + a1.toNatClampNeg)) (xi (E 0) 55).toNatClampNeg (a0.toNatClampNeg < a1.toNatClampNeg)) (fun j9 h9 => hx60_0 j9 (by rw [tn_] at h9 ⊢; omega))).mp (k23.mp q8)); rw [tn_, tn_] at q7; omega)⟩⟩⟩, by show va_P (dC, dI) vwCl (WX 72 ad E16) t.heap; rw [ht]; exact hP⟩, hS.F ht⟩) hS.2.2 dX13_isBetter_208
                · --200 not
                  have t33 : a0.toInt < a1.toInt := ti_nle c31
                  have i34 : 0 ≤ a0.toInt ∧ a0.toInt ≤ 14 := iv_lt_l t33 hh0 hh1 (by decide)
                  have i35 : 1 ≤ a1.toInt ∧ a1.toInt ≤ 15 := iv_lt_r t33 hh0 hh1 (by decide)
                  refine lv_iconst (v := 1) hx hb dX13_isBetter_203 (by decide) ?_
                  refine lv_goto (tgt := 208) hx hb dX13_isBetter_204 (by decide) ?_
                  rw [hQ]
                  exact W.zret (v := 1) hx hb hr rfl (fun t ht hW => ⟨⟨1, E16, rfl, ⟨hI, hKp, ⟨(iv_w ln_1 (by decide)), ⟨fun _ => (k23.mpr ((LexR.eq (e := RevR (fun r => xi (E 32) (16 * r + a0.toNatClampNeg)) (fun r => xi (E 32) (16 * r + a1.toNatClampNeg)) (xi (E 0) 55).toNatClampNeg (a0.toNatClampNeg < a1.toNatClampNeg)) (fun j9 h9 => hx60_0 j9 (by rw [tn_] at h9 ⊢; omega))).mpr ((RevR.eq (p := (fun r => xi (E 32) (16 * r + a0.toNatClampNeg))) (p' := (fun r => xi (E 32) (16 * r + a1.toNatClampNeg))) (e := a0.toNatClampNeg < a1.toNatClampNeg) (fun j9 h9 => hx127_0 j9 (by omega) h9)).mpr (by rw [tn_, tn_]; omega)))), fun _ => rfl⟩⟩⟩, by show va_P (dC, dI) vwCl (WX 72 ad E16) t.heap; rw [ht]; exact hP⟩, hS.F ht⟩) hS.2.2 dX13_isBetter_208
              · --129 not
                have t36 : (0 : Int) ≤ v127_5.toInt := ti_nlt c28
                have i37 : 0 ≤ v127_5.toInt ∧ v127_5.toInt ≤ 19 := iv_le_r t36 (il_ 0) hv127_5 (by decide)
                refine lv_aload_n hx hb dX13_isBetter_132 rfl (lv_at hl 3 rfl) ?_
                refine th_get (ci := 14) (C := RX13) (T := TX13) (N := 97) (v := .ref (ad 32)) hx hb hts hinX13 hown hK hP hI 0 (Nat.le_of_ble_eq_true rfl) rfl rfl 49 (Nat.le_of_ble_eq_true rfl) (hts _ (vA_in _ _ (in_32 _ (zs4 (zs4 (zs1 (zs0))))))) (fun _ h9 => h9) (hI.fr 0 (Nat.le_of_ble_eq_true rfl) rfl (Nat.le_of_ble_eq_true rfl) 32 rfl) dX13_isBetter_133 ?_
                refine lv_bipush (v := 16) hx hb dX13_isBetter_136 (by decide) ?_
                refine lv_iload hx hb dX13_isBetter_138 (lv_at hl 0 rfl) ?_
                refine lv_imul hx hb dX13_isBetter_140 ?_
                refine lv_topi (fun y38 ey38 => ?_)
                obtain ⟨ty38, iy38⟩ := ti_mul (e := 0) (f := 304) ln_16 i37 ey38 (by decide)
                have ty38 : y38.toInt = 16 * v127_5.toInt := ty38
                have iy38 : 0 ≤ y38.toInt ∧ y38.toInt ≤ 304 := iy38
                refine lv_iload_n hx hb dX13_isBetter_141 rfl (lv_at hl 4 rfl) ?_
                refine lv_iadd hx hb dX13_isBetter_142 ?_
                refine lv_topi (fun y39 ey39 => ?_)
                obtain ⟨ty39, iy39⟩ := ti_add (e := 0) (f := 319) iy38 hh0 ey39 (by decide)
                have ty39 : y39.toInt = y38.toInt + a0.toInt := ty39
                have iy39 : 0 ≤ y39.toInt ∧ y39.toInt ≤ 319 := iy39
                have n41 : vp_in y39 320 := (iv_in (n := 320) iy39 (by decide))
                refine th_iald hx hb hK hP hI 32 (Nat.le_of_ble_eq_true rfl) rfl rfl n41 dX13_isBetter_143 (fun y40 ey40 => ?_)
                have ey40 := ey40.trans (hKp.ei 32 _ rfl)
                refine lv_aload_n hx hb dX13_isBetter_144 rfl (lv_at hl 3 rfl) ?_
                refine th_get (ci := 14) (C := RX13) (T := TX13) (N := 97) (v := .ref (ad 32)) hx hb hts hinX13 hown hK hP hI 0 (Nat.le_of_ble_eq_true rfl) rfl rfl 49 (Nat.le_of_ble_eq_true rfl) (hts _ (vA_in _ _ (in_32 _ (zs4 (zs4 (zs1 (zs0))))))) (fun _ h9 => h9) (hI.fr 0 (Nat.le_of_ble_eq_true rfl) rfl (Nat.le_of_ble_eq_true rfl) 32 rfl) dX13_isBetter_145 ?_
                refine lv_bipush (v := 16) hx hb dX13_isBetter_148 (by decide) ?_
                refine lv_iload hx hb dX13_isBetter_150 (lv_at hl 0 rfl) ?_
                refine lv_imul hx hb dX13_isBetter_152 ?_
                refine lv_topi (fun y42 ey42 => ?_)
                obtain ⟨ty42, iy42⟩ := ti_mul (e := 0) (f := 304) ln_16 i37 ey42 (by decide)
                have ty42 : y42.toInt = 16 * v127_5.toInt := ty42
                have iy42 : 0 ≤ y42.toInt ∧ y42.toInt ≤ 304 := iy42
                refine lv_iload_n hx hb dX13_isBetter_153 rfl (lv_at hl 5 rfl) ?_
                refine lv_iadd hx hb dX13_isBetter_154 ?_
                refine lv_topi (fun y43 ey43 => ?_)
                obtain ⟨ty43, iy43⟩ := ti_add (e := 0) (f := 319) iy42 hh1 ey43 (by decide)
                have ty43 : y43.toInt = y42.toInt + a1.toInt := ty43
                have iy43 : 0 ≤ y43.toInt ∧ y43.toInt ≤ 319 := iy43
                have n45 : vp_in y43 320 := (iv_in (n := 320) iy43 (by decide))
                refine th_iald hx hb hK hP hI 32 (Nat.le_of_ble_eq_true rfl) rfl rfl n45 dX13_isBetter_155 (fun y44 ey44 => ?_)
                have ey44 := ey44.trans (hKp.ei 32 _ rfl)
                refine lv_icmp_eq (tgt := 192) hx hb dX13_isBetter_156 (by decide) (fun c46 => ?_) (fun c46 => ?_)
                · --156 taken
                  have t47 : y40.toInt = y44.toInt := ti_eq c46
                  obtain ⟨y48, ey48⟩ : ∃ y : Int32, y = v127_5 + (-1 : Int32) := ⟨_, rfl⟩
                  obtain ⟨ty48, iy48⟩ := ti_add (e := (-1)) (f := 18) i37 ln_m1 ey48 (by decide)
                  have ty48 : y48.toInt = v127_5.toInt + (-1) := ty48
                  have iy48 : -1 ≤ y48.toInt ∧ y48.toInt ≤ 18 := iy48
                  refine lv_iinc (v := y48) (lv' := [(5, .int y48), (4, .int r15), (3, .int r8), (0, .ref (ad 0)), (1, .int a0), (2, .int a1)]) hx hb dX13_isBetter_192 hl (k := 0) rfl (by rw [ey48]; rfl) (by decide) rfl (fun ls hl => ?_)
                  refine lv_goto (tgt := 127) hx hb dX13_isBetter_195 (by decide) ?_
                  exact ih127 y48 _ _ _ (iv_w iy48 (by decide)) (rx_eq (g := (fun r => xi (E 32) (16 * r + a0.toNatClampNeg))) (G := (fun r => xi (E 32) (16 * r + a1.toNatClampNeg))) hx127_0 (show y40 = xi (E 32) (16 * v127_5.toNatClampNeg + a0.toNatClampNeg) by rw [ey40, (show y39.toNatClampNeg = 16 * v127_5.toNatClampNeg + a0.toNatClampNeg by rw [tn_ y39, tn_ v127_5, tn_ a0]; omega)]) (show y44 = xi (E 32) (16 * v127_5.toNatClampNeg + a1.toNatClampNeg) by rw [ey44, (show y43.toNatClampNeg = 16 * v127_5.toNatClampNeg + a1.toNatClampNeg by rw [tn_ y43, tn_ v127_5, tn_ a1]; omega)]) (by omega) (by omega) (by omega)) (by omega) (by first | exact ms_sd hx127_2 ty48 (by decide) | exact ms_sd2 hx127_2 ty48 | omega) hP hS (lv_sub hl [0, 1, 2, 3, 4, 5] rfl)
                · --156 not
                  have t49 : ¬ y40.toInt = y44.toInt := ti_ne c46
                  refine lv_aload_n hx hb dX13_isBetter_159 rfl (lv_at hl 3 rfl) ?_
                  refine th_get (ci := 14) (C := RX13) (T := TX13) (N := 97) (v := .ref (ad 32)) hx hb hts hinX13 hown hK hP hI 0 (Nat.le_of_ble_eq_true rfl) rfl rfl 49 (Nat.le_of_ble_eq_true rfl) (hts _ (vA_in _ _ (in_32 _ (zs4 (zs4 (zs1 (zs0))))))) (fun _ h9 => h9) (hI.fr 0 (Nat.le_of_ble_eq_true rfl) rfl (Nat.le_of_ble_eq_true rfl) 32 rfl) dX13_isBetter_160 ?_
                  refine lv_bipush (v := 16) hx hb dX13_isBetter_163 (by decide) ?_
                  refine lv_iload hx hb dX13_isBetter_165 (lv_at hl 0 rfl) ?_
                  refine lv_imul hx hb dX13_isBetter_167 ?_
                  refine lv_topi (fun y50 ey50 => ?_)
                  obtain ⟨ty50, iy50⟩ := ti_mul (e := 0) (f := 304) ln_16 i37 ey50 (by decide)
                  have ty50 : y50.toInt = 16 * v127_5.toInt := ty50
                  have iy50 : 0 ≤ y50.toInt ∧ y50.toInt ≤ 304 := iy50
                  refine lv_iload_n hx hb dX13_isBetter_168 rfl (lv_at hl 4 rfl) ?_
                  refine lv_iadd hx hb dX13_isBetter_169 ?_
                  refine lv_topi (fun y51 ey51 => ?_)
                  obtain ⟨ty51, iy51⟩ := ti_add (e := 0) (f := 319) iy50 hh0 ey51 (by decide)
                  have ty51 : y51.toInt = y50.toInt + a0.toInt := ty51
                  have iy51 : 0 ≤ y51.toInt ∧ y51.toInt ≤ 319 := iy51
                  have n53 : vp_in y51 320 := (iv_in (n := 320) iy51 (by decide))
                  refine th_iald hx hb hK hP hI 32 (Nat.le_of_ble_eq_true rfl) rfl rfl n53 dX13_isBetter_170 (fun y52 ey52 => ?_)
                  have ey52 := ey52.trans (hKp.ei 32 _ rfl)
                  refine lv_aload_n hx hb dX13_isBetter_171 rfl (lv_at hl 3 rfl) ?_
                  refine th_get (ci := 14) (C := RX13) (T := TX13) (N := 97) (v := .ref (ad 32)) hx hb hts hinX13 hown hK hP hI 0 (Nat.le_of_ble_eq_true rfl) rfl rfl 49 (Nat.le_of_ble_eq_true rfl) (hts _ (vA_in _ _ (in_32 _ (zs4 (zs4 (zs1 (zs0))))))) (fun _ h9 => h9) (hI.fr 0 (Nat.le_of_ble_eq_true rfl) rfl (Nat.le_of_ble_eq_true rfl) 32 rfl) dX13_isBetter_172 ?_
                  refine lv_bipush (v := 16) hx hb dX13_isBetter_175 (by decide) ?_
                  refine lv_iload hx hb dX13_isBetter_177 (lv_at hl 0 rfl) ?_
                  refine lv_imul hx hb dX13_isBetter_179 ?_
                  refine lv_topi (fun y54 ey54 => ?_)
                  obtain ⟨ty54, iy54⟩ := ti_mul (e := 0) (f := 304) ln_16 i37 ey54 (by decide)
                  have ty54 : y54.toInt = 16 * v127_5.toInt := ty54
                  have iy54 : 0 ≤ y54.toInt ∧ y54.toInt ≤ 304 := iy54
                  refine lv_iload_n hx hb dX13_isBetter_180 rfl (lv_at hl 5 rfl) ?_
                  refine lv_iadd hx hb dX13_isBetter_181 ?_
                  refine lv_topi (fun y55 ey55 => ?_)
                  obtain ⟨ty55, iy55⟩ := ti_add (e := 0) (f := 319) iy54 hh1 ey55 (by decide)
                  have ty55 : y55.toInt = y54.toInt + a1.toInt := ty55
                  have iy55 : 0 ≤ y55.toInt ∧ y55.toInt ≤ 319 := iy55
                  have n57 : vp_in y55 320 := (iv_in (n := 320) iy55 (by decide))
                  refine th_iald hx hb hK hP hI 32 (Nat.le_of_ble_eq_true rfl) rfl rfl n57 dX13_isBetter_182 (fun y56 ey56 => ?_)
                  have ey56 := ey56.trans (hKp.ei 32 _ rfl)
                  refine lv_icmp_ge (tgt := 190) hx hb dX13_isBetter_183 (by decide) (fun c58 => ?_) (fun c58 => ?_)
                  · --183 taken
                    have t59 : y56.toInt ≤ y52.toInt := ti_le c58
                    refine lv_iconst (v := 0) hx hb dX13_isBetter_190 (by decide) ?_
                    rw [hQ]
                    exact W.zret (v := 0) hx hb hr rfl (fun t ht hW => ⟨⟨0, E16, rfl, ⟨hI, hKp, ⟨(iv_w ln_0 (by decide)), ⟨fun q9 => by exfalso; have z0 : (0 : Int32).toInt = 0 := rfl; have z1 : (1 : Int32).toInt = 1 := rfl; omega, fun q9 => absurd q9 (fun q8 => RevR.gt (p := (fun r => xi (E 32) (16 * r + a0.toNatClampNeg))) (p' := (fun r => xi (E 32) (16 * r + a1.toNatClampNeg))) (show v127_5.toNatClampNeg < (xi (E 0) 55).toNatClampNeg by rw [tn_, tn_]; omega) (fun j9 h8 h9 => hx127_0 j9 (by rw [tn_] at h8; omega) h9) (show (xi (E 32) (16 * v127_5.toNatClampNeg + a1.toNatClampNeg)).toInt < (xi (E 32) (16 * v127_5.toNatClampNeg + a0.toNatClampNeg)).toInt by have q5 := congrArg Int32.toInt ((show y52 = xi (E 32) (16 * v127_5.toNatClampNeg + a0.toNatClampNeg) by rw [ey52, (show y51.toNatClampNeg = 16 * v127_5.toNatClampNeg + a0.toNatClampNeg by rw [tn_ y51, tn_ v127_5, tn_ a0]; omega)]).trans (show y40 = xi (E 32) (16 * v127_5.toNatClampNeg + a0.toNatClampNeg) by rw [ey40, (show y39.toNatClampNeg = 16 * v127_5.toNatClampNeg + a0.toNatClampNeg by rw [tn_ y39, tn_ v127_5, tn_ a0]; omega)]).symm); have q4 := congrArg Int32.toInt ((show y56 = xi (E 32) (16 * v127_5.toNatClampNeg + a1.toNatClampNeg) by rw [ey56, (show y55.toNatClampNeg = 16 * v127_5.toNatClampNeg + a1.toNatClampNeg by rw [tn_ y55, tn_ v127_5, tn_ a1]; omega)]).trans (show y44 = xi (E 32) (16 * v127_5.toNatClampNeg + a1.toNatClampNeg) by rw [ey44, (show y43.toNatClampNeg = 16 * v127_5.toNatClampNeg + a1.toNatClampNeg by rw [tn_ y43, tn_ v127_5, tn_ a1]; omega)]).symm); rw [← (show y56 = xi (E 32) (16 * v127_5.toNatClampNeg + a1.toNatClampNeg) by rw [ey56, (show y55.toNatClampNeg = 16 * v127_5.toNatClampNeg + a1.toNatClampNeg by rw [tn_ y55, tn_ v127_5, tn_ a1]; omega)]), ← (show y52 = xi (E 32) (16 * v127_5.toNatClampNeg + a0.toNatClampNeg) by rw [ey52, (show y51.toNatClampNeg = 16 * v127_5.toNatClampNeg + a0.toNatClampNeg by rw [tn_ y51, tn_ v127_5, tn_ a0]; omega)])]; omega) ((LexR.eq (e := RevR (fun r => xi (E 32) (16 * r + a0.toNatClampNeg)) (fun r => xi (E 32) (16 * r + a1.toNatClampNeg)) (xi (E 0) 55).toNatClampNeg (a0.toNatClampNeg < a1.toNatClampNeg)) (fun j9 h9 => hx60_0 j9 (by rw [tn_] at h9 ⊢; omega))).mp (k23.mp q8)))⟩⟩⟩, by show va_P (dC, dI) vwCl (WX 72 ad E16) t.heap; rw [ht]; exact hP⟩, hS.F ht⟩) hS.2.2 dX13_isBetter_191
                  · --183 not
                    have t60 : y52.toInt < y56.toInt := ti_nle c58
                    have i61 : -2147483648 ≤ y52.toInt ∧ y52.toInt ≤ 2147483646 := iv_lt_l t60 (iv_all _) (iv_all _) (by decide)
                    have i62 : -2147483647 ≤ y56.toInt ∧ y56.toInt ≤ 2147483647 := iv_lt_r t60 (iv_all _) (iv_all _) (by decide)
                    refine lv_iconst (v := 1) hx hb dX13_isBetter_186 (by decide) ?_
                    refine lv_goto (tgt := 191) hx hb dX13_isBetter_187 (by decide) ?_
                    rw [hQ]
                    exact W.zret (v := 1) hx hb hr rfl (fun t ht hW => ⟨⟨1, E16, rfl, ⟨hI, hKp, ⟨(iv_w ln_1 (by decide)), ⟨fun _ => (k23.mpr ((LexR.eq (e := RevR (fun r => xi (E 32) (16 * r + a0.toNatClampNeg)) (fun r => xi (E 32) (16 * r + a1.toNatClampNeg)) (xi (E 0) 55).toNatClampNeg (a0.toNatClampNeg < a1.toNatClampNeg)) (fun j9 h9 => hx60_0 j9 (by rw [tn_] at h9 ⊢; omega))).mpr (RevR.lt (p := (fun r => xi (E 32) (16 * r + a0.toNatClampNeg))) (p' := (fun r => xi (E 32) (16 * r + a1.toNatClampNeg))) (show v127_5.toNatClampNeg < (xi (E 0) 55).toNatClampNeg by rw [tn_, tn_]; omega) (fun j9 h8 h9 => hx127_0 j9 (by rw [tn_] at h8; omega) h9) (show (xi (E 32) (16 * v127_5.toNatClampNeg + a0.toNatClampNeg)).toInt < (xi (E 32) (16 * v127_5.toNatClampNeg + a1.toNatClampNeg)).toInt by rw [← (show y52 = xi (E 32) (16 * v127_5.toNatClampNeg + a0.toNatClampNeg) by rw [ey52, (show y51.toNatClampNeg = 16 * v127_5.toNatClampNeg + a0.toNatClampNeg by rw [tn_ y51, tn_ v127_5, tn_ a0]; omega)]), ← (show y56 = xi (E 32) (16 * v127_5.toNatClampNeg + a1.toNatClampNeg) by rw [ey56, (show y55.toNatClampNeg = 16 * v127_5.toNatClampNeg + a1.toNatClampNeg by rw [tn_ y55, tn_ v127_5, tn_ a1]; omega)])]; omega)))), fun _ => rfl⟩⟩⟩, by show va_P (dC, dI) vwCl (WX 72 ad E16) t.heap; rw [ht]; exact hP⟩, hS.F ht⟩) hS.2.2 dX13_isBetter_191
          exact hL127 (21) y27 _ _ _ iy27 (fun j9 h8 h9 => by exfalso; rw [tn_] at h9; omega) (by omega) (by have h9 := iy27; first | exact ms_bd h9.2 (by decide) | omega) hP hS (lv_sub hl [0, 1, 2, 3, 4, 5] rfl)
        · --63 not
          have t63 : v60_5.toInt < r8.toInt := ti_nle c25
          have i64 : 0 ≤ v60_5.toInt ∧ v60_5.toInt ≤ 19 := iv_lt_l t63 hv60_5 f11 (by decide)
          have i65 : 1 ≤ r8.toInt ∧ r8.toInt ≤ 20 := iv_lt_r t63 hv60_5 f11 (by decide)
          refine lv_iload hx hb dX13_isBetter_66 (lv_at hl 0 rfl) ?_
          refine lv_iload hx hb dX13_isBetter_68 (lv_at hl 1 rfl) ?_
          refine lv_icmp_ge (tgt := 119) hx hb dX13_isBetter_70 (by decide) (fun c66 => ?_) (fun c66 => ?_)
          · --70 taken
            have t67 : r15.toInt ≤ v60_5.toInt := ti_le c66
            have i68 : 0 ≤ r15.toInt ∧ r15.toInt ≤ 19 := iv_le_l t67 f18 i64 (by decide)
            refine lv_aload_n hx hb dX13_isBetter_119 rfl (lv_at hl 3 rfl) ?_
            refine th_get (ci := 14) (C := RX13) (T := TX13) (N := 97) (v := .int (xi (E 0) 55)) hx hb hts hinX13 hown hK hP hI 0 (Nat.le_of_ble_eq_true rfl) rfl rfl 55 (Nat.le_of_ble_eq_true rfl) (hts _ (vA_in _ _ (in_32 _ (zs16 (zs1 (zs1 (zs1 (zs0)))))))) (fun _ h9 => h9) (th_v0 hKp hI0 0 (Nat.le_of_ble_eq_true rfl) rfl (Nat.le_of_ble_eq_true rfl) rfl rfl) dX13_isBetter_120 ?_
            refine lv_iconst (v := 1) hx hb dX13_isBetter_123 (by decide) ?_
            refine lv_isub hx hb dX13_isBetter_124 ?_
            refine lv_topi (fun y69 ey69 => ?_)
            obtain ⟨ty69, iy69⟩ := ti_sub (e := (-1)) (f := 19) i13 ln_1 ey69 (by decide)
            have ty69 : y69.toInt = (xi (E 0) 55).toInt - 1 := ty69
            have iy69 : -1 ≤ y69.toInt ∧ y69.toInt ≤ 19 := iy69
            refine lv_istore (lv' := [(5, .int y69), (4, .int r15), (3, .int r8), (0, .ref (ad 0)), (1, .int a0), (2, .int a1)]) hx hb dX13_isBetter_125 hl (by decide) rfl (fun ls hl => ?_)
            have hL127 : ∀ d : Nat, ∀ (v127_5 : Int32) (H : Heap) (locs : List Loc) (ls : Array Slot), -1 ≤ v127_5.toInt ∧ v127_5.toInt ≤ 19 → (∀ j9 : Nat, v127_5.toInt < (j9 : Int) → j9 < (xi (E 0) 55).toNatClampNeg → xi (E 32) (16 * j9 + a0.toNatClampNeg) = xi (E 32) (16 * j9 + a1.toNatClampNeg)) → v127_5.toInt < (xi (E 0) 55).toInt → v127_5.toInt - (-1) < (d : Int) → va_P (dC, dI) vwCl (WX 72 ad E16) H → va_S A s.heap H locs → lv_has ls 6 [(5, .int v127_5), (4, .int r15), (3, .int r8), (0, .ref (ad 0)), (1, .int a0), (2, .int a1)] → W p l e (headSpec v_isBetterM rm_isBetterM).room s m args below meth c H locs 0 0 Q (F0 m 127 ls []) := by
              intro d
              induction d with
              | zero =>
                intro v127_5 H locs ls hv127_5 hx127_0 hx127_1 hx127_2 hP hS hl
                exact absurd hx127_2 (by first | exact ms_zd hv127_5.1 | omega)
              | succ d ih127 =>
                intro v127_5 H locs ls hv127_5 hx127_0 hx127_1 hx127_2 hP hS hl
                refine lv_iload hx hb dX13_isBetter_127 (lv_at hl 0 rfl) ?_
                refine lv_if_lt (tgt := 198) hx hb dX13_isBetter_129 (by decide) (fun c70 => ?_) (fun c70 => ?_)
                · --129 taken
                  have t71 : v127_5.toInt < 0 := ti_lt c70
                  have i72 : -1 ≤ v127_5.toInt ∧ v127_5.toInt ≤ -1 := iv_lt_l t71 hv127_5 (il_ 0) (by decide)
                  refine lv_iload_n hx hb dX13_isBetter_198 rfl (lv_at hl 4 rfl) ?_
                  refine lv_iload_n hx hb dX13_isBetter_199 rfl (lv_at hl 5 rfl) ?_
                  refine lv_icmp_ge (tgt := 207) hx hb dX13_isBetter_200 (by decide) (fun c73 => ?_) (fun c73 => ?_)
                  · --200 taken
                    have t74 : a1.toInt ≤ a0.toInt := ti_le c73
                    refine lv_iconst (v := 0) hx hb dX13_isBetter_207 (by decide) ?_
                    rw [hQ]
                    exact W.zret (v := 0) hx hb hr rfl (fun t ht hW => ⟨⟨0, E16, rfl, ⟨hI, hKp, ⟨(iv_w ln_0 (by decide)), ⟨fun q9 => by exfalso; have z0 : (0 : Int32).toInt = 0 := rfl; have z1 : (1 : Int32).toInt = 1 := rfl; omega, fun q9 => absurd q9 (fun q8 => by have q7 := (RevR.eq (p := (fun r => xi (E 32) (16 * r + a0.toNatClampNeg))) (p' := (fun r => xi (E 32) (16 * r + a1.toNatClampNeg))) (e := a0.toNatClampNeg < a1.toNatClampNeg) (fun j9 h9 => hx127_0 j9 (by omega) h9)).mp ((LexR.eq (e := RevR (fun r => xi (E 32) (16 * r + a0.toNatClampNeg)) (fun r => xi (E 32) (16 * r + a1.toNatClampNeg)) (xi (E 0) 55).toNatClampNeg (a0.toNatClampNeg < a1.toNatClampNeg)) (fun j9 h9 => hx60_0 j9 (by rw [tn_] at h9 ⊢; omega))).mp (k23.mp q8)); rw [tn_, tn_] at q7; omega)⟩⟩⟩, by show va_P (dC, dI) vwCl (WX 72 ad E16) t.heap; rw [ht]; exact hP⟩, hS.F ht⟩) hS.2.2 dX13_isBetter_208
                  · --200 not
                    have t75 : a0.toInt < a1.toInt := ti_nle c73
                    have i76 : 0 ≤ a0.toInt ∧ a0.toInt ≤ 14 := iv_lt_l t75 hh0 hh1 (by decide)
                    have i77 : 1 ≤ a1.toInt ∧ a1.toInt ≤ 15 := iv_lt_r t75 hh0 hh1 (by decide)
                    refine lv_iconst (v := 1) hx hb dX13_isBetter_203 (by decide) ?_
                    refine lv_goto (tgt := 208) hx hb dX13_isBetter_204 (by decide) ?_
                    rw [hQ]
                    exact W.zret (v := 1) hx hb hr rfl (fun t ht hW => ⟨⟨1, E16, rfl, ⟨hI, hKp, ⟨(iv_w ln_1 (by decide)), ⟨fun _ => (k23.mpr ((LexR.eq (e := RevR (fun r => xi (E 32) (16 * r + a0.toNatClampNeg)) (fun r => xi (E 32) (16 * r + a1.toNatClampNeg)) (xi (E 0) 55).toNatClampNeg (a0.toNatClampNeg < a1.toNatClampNeg)) (fun j9 h9 => hx60_0 j9 (by rw [tn_] at h9 ⊢; omega))).mpr ((RevR.eq (p := (fun r => xi (E 32) (16 * r + a0.toNatClampNeg))) (p' := (fun r => xi (E 32) (16 * r + a1.toNatClampNeg))) (e := a0.toNatClampNeg < a1.toNatClampNeg) (fun j9 h9 => hx127_0 j9 (by omega) h9)).mpr (by rw [tn_, tn_]; omega)))), fun _ => rfl⟩⟩⟩, by show va_P (dC, dI) vwCl (WX 72 ad E16) t.heap; rw [ht]; exact hP⟩, hS.F ht⟩) hS.2.2 dX13_isBetter_208
                · --129 not
                  have t78 : (0 : Int) ≤ v127_5.toInt := ti_nlt c70
                  have i79 : 0 ≤ v127_5.toInt ∧ v127_5.toInt ≤ 19 := iv_le_r t78 (il_ 0) hv127_5 (by decide)
                  refine lv_aload_n hx hb dX13_isBetter_132 rfl (lv_at hl 3 rfl) ?_
                  refine th_get (ci := 14) (C := RX13) (T := TX13) (N := 97) (v := .ref (ad 32)) hx hb hts hinX13 hown hK hP hI 0 (Nat.le_of_ble_eq_true rfl) rfl rfl 49 (Nat.le_of_ble_eq_true rfl) (hts _ (vA_in _ _ (in_32 _ (zs4 (zs4 (zs1 (zs0))))))) (fun _ h9 => h9) (hI.fr 0 (Nat.le_of_ble_eq_true rfl) rfl (Nat.le_of_ble_eq_true rfl) 32 rfl) dX13_isBetter_133 ?_
                  refine lv_bipush (v := 16) hx hb dX13_isBetter_136 (by decide) ?_
                  refine lv_iload hx hb dX13_isBetter_138 (lv_at hl 0 rfl) ?_
                  refine lv_imul hx hb dX13_isBetter_140 ?_
                  refine lv_topi (fun y80 ey80 => ?_)
                  obtain ⟨ty80, iy80⟩ := ti_mul (e := 0) (f := 304) ln_16 i79 ey80 (by decide)
                  have ty80 : y80.toInt = 16 * v127_5.toInt := ty80
                  have iy80 : 0 ≤ y80.toInt ∧ y80.toInt ≤ 304 := iy80
                  refine lv_iload_n hx hb dX13_isBetter_141 rfl (lv_at hl 4 rfl) ?_
                  refine lv_iadd hx hb dX13_isBetter_142 ?_
                  refine lv_topi (fun y81 ey81 => ?_)
                  obtain ⟨ty81, iy81⟩ := ti_add (e := 0) (f := 319) iy80 hh0 ey81 (by decide)
                  have ty81 : y81.toInt = y80.toInt + a0.toInt := ty81
                  have iy81 : 0 ≤ y81.toInt ∧ y81.toInt ≤ 319 := iy81
                  have n83 : vp_in y81 320 := (iv_in (n := 320) iy81 (by decide))
                  refine th_iald hx hb hK hP hI 32 (Nat.le_of_ble_eq_true rfl) rfl rfl n83 dX13_isBetter_143 (fun y82 ey82 => ?_)
                  have ey82 := ey82.trans (hKp.ei 32 _ rfl)
                  refine lv_aload_n hx hb dX13_isBetter_144 rfl (lv_at hl 3 rfl) ?_
                  refine th_get (ci := 14) (C := RX13) (T := TX13) (N := 97) (v := .ref (ad 32)) hx hb hts hinX13 hown hK hP hI 0 (Nat.le_of_ble_eq_true rfl) rfl rfl 49 (Nat.le_of_ble_eq_true rfl) (hts _ (vA_in _ _ (in_32 _ (zs4 (zs4 (zs1 (zs0))))))) (fun _ h9 => h9) (hI.fr 0 (Nat.le_of_ble_eq_true rfl) rfl (Nat.le_of_ble_eq_true rfl) 32 rfl) dX13_isBetter_145 ?_
                  refine lv_bipush (v := 16) hx hb dX13_isBetter_148 (by decide) ?_
                  refine lv_iload hx hb dX13_isBetter_150 (lv_at hl 0 rfl) ?_
                  refine lv_imul hx hb dX13_isBetter_152 ?_
                  refine lv_topi (fun y84 ey84 => ?_)
                  obtain ⟨ty84, iy84⟩ := ti_mul (e := 0) (f := 304) ln_16 i79 ey84 (by decide)
                  have ty84 : y84.toInt = 16 * v127_5.toInt := ty84
                  have iy84 : 0 ≤ y84.toInt ∧ y84.toInt ≤ 304 := iy84
                  refine lv_iload_n hx hb dX13_isBetter_153 rfl (lv_at hl 5 rfl) ?_
                  refine lv_iadd hx hb dX13_isBetter_154 ?_
                  refine lv_topi (fun y85 ey85 => ?_)
                  obtain ⟨ty85, iy85⟩ := ti_add (e := 0) (f := 319) iy84 hh1 ey85 (by decide)
                  have ty85 : y85.toInt = y84.toInt + a1.toInt := ty85
                  have iy85 : 0 ≤ y85.toInt ∧ y85.toInt ≤ 319 := iy85
                  have n87 : vp_in y85 320 := (iv_in (n := 320) iy85 (by decide))
                  refine th_iald hx hb hK hP hI 32 (Nat.le_of_ble_eq_true rfl) rfl rfl n87 dX13_isBetter_155 (fun y86 ey86 => ?_)
                  have ey86 := ey86.trans (hKp.ei 32 _ rfl)
                  refine lv_icmp_eq (tgt := 192) hx hb dX13_isBetter_156 (by decide) (fun c88 => ?_) (fun c88 => ?_)
                  · --156 taken
                    have t89 : y82.toInt = y86.toInt := ti_eq c88
                    obtain ⟨y90, ey90⟩ : ∃ y : Int32, y = v127_5 + (-1 : Int32) := ⟨_, rfl⟩
                    obtain ⟨ty90, iy90⟩ := ti_add (e := (-1)) (f := 18) i79 ln_m1 ey90 (by decide)
                    have ty90 : y90.toInt = v127_5.toInt + (-1) := ty90
                    have iy90 : -1 ≤ y90.toInt ∧ y90.toInt ≤ 18 := iy90
                    refine lv_iinc (v := y90) (lv' := [(5, .int y90), (4, .int r15), (3, .int r8), (0, .ref (ad 0)), (1, .int a0), (2, .int a1)]) hx hb dX13_isBetter_192 hl (k := 0) rfl (by rw [ey90]; rfl) (by decide) rfl (fun ls hl => ?_)
                    refine lv_goto (tgt := 127) hx hb dX13_isBetter_195 (by decide) ?_
                    exact ih127 y90 _ _ _ (iv_w iy90 (by decide)) (rx_eq (g := (fun r => xi (E 32) (16 * r + a0.toNatClampNeg))) (G := (fun r => xi (E 32) (16 * r + a1.toNatClampNeg))) hx127_0 (show y82 = xi (E 32) (16 * v127_5.toNatClampNeg + a0.toNatClampNeg) by rw [ey82, (show y81.toNatClampNeg = 16 * v127_5.toNatClampNeg + a0.toNatClampNeg by rw [tn_ y81, tn_ v127_5, tn_ a0]; omega)]) (show y86 = xi (E 32) (16 * v127_5.toNatClampNeg + a1.toNatClampNeg) by rw [ey86, (show y85.toNatClampNeg = 16 * v127_5.toNatClampNeg + a1.toNatClampNeg by rw [tn_ y85, tn_ v127_5, tn_ a1]; omega)]) (by omega) (by omega) (by omega)) (by omega) (by first | exact ms_sd hx127_2 ty90 (by decide) | exact ms_sd2 hx127_2 ty90 | omega) hP hS (lv_sub hl [0, 1, 2, 3, 4, 5] rfl)
                  · --156 not
                    have t91 : ¬ y82.toInt = y86.toInt := ti_ne c88
                    refine lv_aload_n hx hb dX13_isBetter_159 rfl (lv_at hl 3 rfl) ?_
                    refine th_get (ci := 14) (C := RX13) (T := TX13) (N := 97) (v := .ref (ad 32)) hx hb hts hinX13 hown hK hP hI 0 (Nat.le_of_ble_eq_true rfl) rfl rfl 49 (Nat.le_of_ble_eq_true rfl) (hts _ (vA_in _ _ (in_32 _ (zs4 (zs4 (zs1 (zs0))))))) (fun _ h9 => h9) (hI.fr 0 (Nat.le_of_ble_eq_true rfl) rfl (Nat.le_of_ble_eq_true rfl) 32 rfl) dX13_isBetter_160 ?_
                    refine lv_bipush (v := 16) hx hb dX13_isBetter_163 (by decide) ?_
                    refine lv_iload hx hb dX13_isBetter_165 (lv_at hl 0 rfl) ?_
                    refine lv_imul hx hb dX13_isBetter_167 ?_
                    refine lv_topi (fun y92 ey92 => ?_)
                    obtain ⟨ty92, iy92⟩ := ti_mul (e := 0) (f := 304) ln_16 i79 ey92 (by decide)
                    have ty92 : y92.toInt = 16 * v127_5.toInt := ty92
                    have iy92 : 0 ≤ y92.toInt ∧ y92.toInt ≤ 304 := iy92
                    refine lv_iload_n hx hb dX13_isBetter_168 rfl (lv_at hl 4 rfl) ?_
                    refine lv_iadd hx hb dX13_isBetter_169 ?_
                    refine lv_topi (fun y93 ey93 => ?_)
                    obtain ⟨ty93, iy93⟩ := ti_add (e := 0) (f := 319) iy92 hh0 ey93 (by decide)
                    have ty93 : y93.toInt = y92.toInt + a0.toInt := ty93
                    have iy93 : 0 ≤ y93.toInt ∧ y93.toInt ≤ 319 := iy93
                    have n95 : vp_in y93 320 := (iv_in (n := 320) iy93 (by decide))
                    refine th_iald hx hb hK hP hI 32 (Nat.le_of_ble_eq_true rfl) rfl rfl n95 dX13_isBetter_170 (fun y94 ey94 => ?_)
                    have ey94 := ey94.trans (hKp.ei 32 _ rfl)
                    refine lv_aload_n hx hb dX13_isBetter_171 rfl (lv_at hl 3 rfl) ?_
                    refine th_get (ci := 14) (C := RX13) (T := TX13) (N := 97) (v := .ref (ad 32)) hx hb hts hinX13 hown hK hP hI 0 (Nat.le_of_ble_eq_true rfl) rfl rfl 49 (Nat.le_of_ble_eq_true rfl) (hts _ (vA_in _ _ (in_32 _ (zs4 (zs4 (zs1 (zs0))))))) (fun _ h9 => h9) (hI.fr 0 (Nat.le_of_ble_eq_true rfl) rfl (Nat.le_of_ble_eq_true rfl) 32 rfl) dX13_isBetter_172 ?_
                    refine lv_bipush (v := 16) hx hb dX13_isBetter_175 (by decide) ?_
                    refine lv_iload hx hb dX13_isBetter_177 (lv_at hl 0 rfl) ?_
                    refine lv_imul hx hb dX13_isBetter_179 ?_
                    refine lv_topi (fun y96 ey96 => ?_)
                    obtain ⟨ty96, iy96⟩ := ti_mul (e := 0) (f := 304) ln_16 i79 ey96 (by decide)
                    have ty96 : y96.toInt = 16 * v127_5.toInt := ty96
                    have iy96 : 0 ≤ y96.toInt ∧ y96.toInt ≤ 304 := iy96
                    refine lv_iload_n hx hb dX13_isBetter_180 rfl (lv_at hl 5 rfl) ?_
                    refine lv_iadd hx hb dX13_isBetter_181 ?_
                    refine lv_topi (fun y97 ey97 => ?_)
                    obtain ⟨ty97, iy97⟩ := ti_add (e := 0) (f := 319) iy96 hh1 ey97 (by decide)
                    have ty97 : y97.toInt = y96.toInt + a1.toInt := ty97
                    have iy97 : 0 ≤ y97.toInt ∧ y97.toInt ≤ 319 := iy97
                    have n99 : vp_in y97 320 := (iv_in (n := 320) iy97 (by decide))
                    refine th_iald hx hb hK hP hI 32 (Nat.le_of_ble_eq_true rfl) rfl rfl n99 dX13_isBetter_182 (fun y98 ey98 => ?_)
                    have ey98 := ey98.trans (hKp.ei 32 _ rfl)
                    refine lv_icmp_ge (tgt := 190) hx hb dX13_isBetter_183 (by decide) (fun c100 => ?_) (fun c100 => ?_)
                    · --183 taken
                      have t101 : y98.toInt ≤ y94.toInt := ti_le c100
                      refine lv_iconst (v := 0) hx hb dX13_isBetter_190 (by decide) ?_
                      rw [hQ]
                      exact W.zret (v := 0) hx hb hr rfl (fun t ht hW => ⟨⟨0, E16, rfl, ⟨hI, hKp, ⟨(iv_w ln_0 (by decide)), ⟨fun q9 => by exfalso; have z0 : (0 : Int32).toInt = 0 := rfl; have z1 : (1 : Int32).toInt = 1 := rfl; omega, fun q9 => absurd q9 (fun q8 => RevR.gt (p := (fun r => xi (E 32) (16 * r + a0.toNatClampNeg))) (p' := (fun r => xi (E 32) (16 * r + a1.toNatClampNeg))) (show v127_5.toNatClampNeg < (xi (E 0) 55).toNatClampNeg by rw [tn_, tn_]; omega) (fun j9 h8 h9 => hx127_0 j9 (by rw [tn_] at h8; omega) h9) (show (xi (E 32) (16 * v127_5.toNatClampNeg + a1.toNatClampNeg)).toInt < (xi (E 32) (16 * v127_5.toNatClampNeg + a0.toNatClampNeg)).toInt by have q5 := congrArg Int32.toInt ((show y94 = xi (E 32) (16 * v127_5.toNatClampNeg + a0.toNatClampNeg) by rw [ey94, (show y93.toNatClampNeg = 16 * v127_5.toNatClampNeg + a0.toNatClampNeg by rw [tn_ y93, tn_ v127_5, tn_ a0]; omega)]).trans (show y82 = xi (E 32) (16 * v127_5.toNatClampNeg + a0.toNatClampNeg) by rw [ey82, (show y81.toNatClampNeg = 16 * v127_5.toNatClampNeg + a0.toNatClampNeg by rw [tn_ y81, tn_ v127_5, tn_ a0]; omega)]).symm); have q4 := congrArg Int32.toInt ((show y98 = xi (E 32) (16 * v127_5.toNatClampNeg + a1.toNatClampNeg) by rw [ey98, (show y97.toNatClampNeg = 16 * v127_5.toNatClampNeg + a1.toNatClampNeg by rw [tn_ y97, tn_ v127_5, tn_ a1]; omega)]).trans (show y86 = xi (E 32) (16 * v127_5.toNatClampNeg + a1.toNatClampNeg) by rw [ey86, (show y85.toNatClampNeg = 16 * v127_5.toNatClampNeg + a1.toNatClampNeg by rw [tn_ y85, tn_ v127_5, tn_ a1]; omega)]).symm); rw [← (show y98 = xi (E 32) (16 * v127_5.toNatClampNeg + a1.toNatClampNeg) by rw [ey98, (show y97.toNatClampNeg = 16 * v127_5.toNatClampNeg + a1.toNatClampNeg by rw [tn_ y97, tn_ v127_5, tn_ a1]; omega)]), ← (show y94 = xi (E 32) (16 * v127_5.toNatClampNeg + a0.toNatClampNeg) by rw [ey94, (show y93.toNatClampNeg = 16 * v127_5.toNatClampNeg + a0.toNatClampNeg by rw [tn_ y93, tn_ v127_5, tn_ a0]; omega)])]; omega) ((LexR.eq (e := RevR (fun r => xi (E 32) (16 * r + a0.toNatClampNeg)) (fun r => xi (E 32) (16 * r + a1.toNatClampNeg)) (xi (E 0) 55).toNatClampNeg (a0.toNatClampNeg < a1.toNatClampNeg)) (fun j9 h9 => hx60_0 j9 (by rw [tn_] at h9 ⊢; omega))).mp (k23.mp q8)))⟩⟩⟩, by show va_P (dC, dI) vwCl (WX 72 ad E16) t.heap; rw [ht]; exact hP⟩, hS.F ht⟩) hS.2.2 dX13_isBetter_191
                    · --183 not
                      have t102 : y94.toInt < y98.toInt := ti_nle c100
                      have i103 : -2147483648 ≤ y94.toInt ∧ y94.toInt ≤ 2147483646 := iv_lt_l t102 (iv_all _) (iv_all _) (by decide)
                      have i104 : -2147483647 ≤ y98.toInt ∧ y98.toInt ≤ 2147483647 := iv_lt_r t102 (iv_all _) (iv_all _) (by decide)
                      refine lv_iconst (v := 1) hx hb dX13_isBetter_186 (by decide) ?_
                      refine lv_goto (tgt := 191) hx hb dX13_isBetter_187 (by decide) ?_
                      rw [hQ]
                      exact W.zret (v := 1) hx hb hr rfl (fun t ht hW => ⟨⟨1, E16, rfl, ⟨hI, hKp, ⟨(iv_w ln_1 (by decide)), ⟨fun _ => (k23.mpr ((LexR.eq (e := RevR (fun r => xi (E 32) (16 * r + a0.toNatClampNeg)) (fun r => xi (E 32) (16 * r + a1.toNatClampNeg)) (xi (E 0) 55).toNatClampNeg (a0.toNatClampNeg < a1.toNatClampNeg)) (fun j9 h9 => hx60_0 j9 (by rw [tn_] at h9 ⊢; omega))).mpr (RevR.lt (p := (fun r => xi (E 32) (16 * r + a0.toNatClampNeg))) (p' := (fun r => xi (E 32) (16 * r + a1.toNatClampNeg))) (show v127_5.toNatClampNeg < (xi (E 0) 55).toNatClampNeg by rw [tn_, tn_]; omega) (fun j9 h8 h9 => hx127_0 j9 (by rw [tn_] at h8; omega) h9) (show (xi (E 32) (16 * v127_5.toNatClampNeg + a0.toNatClampNeg)).toInt < (xi (E 32) (16 * v127_5.toNatClampNeg + a1.toNatClampNeg)).toInt by rw [← (show y94 = xi (E 32) (16 * v127_5.toNatClampNeg + a0.toNatClampNeg) by rw [ey94, (show y93.toNatClampNeg = 16 * v127_5.toNatClampNeg + a0.toNatClampNeg by rw [tn_ y93, tn_ v127_5, tn_ a0]; omega)]), ← (show y98 = xi (E 32) (16 * v127_5.toNatClampNeg + a1.toNatClampNeg) by rw [ey98, (show y97.toNatClampNeg = 16 * v127_5.toNatClampNeg + a1.toNatClampNeg by rw [tn_ y97, tn_ v127_5, tn_ a1]; omega)])]; omega)))), fun _ => rfl⟩⟩⟩, by show va_P (dC, dI) vwCl (WX 72 ad E16) t.heap; rw [ht]; exact hP⟩, hS.F ht⟩) hS.2.2 dX13_isBetter_191
            exact hL127 (21) y69 _ _ _ iy69 (fun j9 h8 h9 => by exfalso; rw [tn_] at h9; omega) (by omega) (by have h9 := iy69; first | exact ms_bd h9.2 (by decide) | omega) hP hS (lv_sub hl [0, 1, 2, 3, 4, 5] rfl)
          · --70 not
            have t105 : v60_5.toInt < r15.toInt := ti_nle c66
            have i106 : 1 ≤ r15.toInt ∧ r15.toInt ≤ 20 := iv_lt_r t105 i64 f18 (by decide)
            refine lv_aload_n hx hb dX13_isBetter_73 rfl (lv_at hl 3 rfl) ?_
            refine th_get (ci := 14) (C := RX13) (T := TX13) (N := 97) (v := .ref (ad 34)) hx hb hts hinX13 hown hK hP hI 0 (Nat.le_of_ble_eq_true rfl) rfl rfl 51 (Nat.le_of_ble_eq_true rfl) (hts _ (vA_in _ _ (in_32 _ (zs4 (zs4 (zs1 (zs1 (zs1 (zs0))))))))) (fun _ h9 => h9) (hI.fr 0 (Nat.le_of_ble_eq_true rfl) rfl (Nat.le_of_ble_eq_true rfl) 34 rfl) dX13_isBetter_74 ?_
            refine lv_iload hx hb dX13_isBetter_77 (lv_at hl 0 rfl) ?_
            have n108 : vp_in v60_5 20 := (iv_in (n := 20) i64 (by decide))
            refine th_iald hx hb hK hP hI 34 (Nat.le_of_ble_eq_true rfl) rfl rfl n108 dX13_isBetter_79 (fun y107 ey107 => ?_)
            have ey107 := ey107.trans (congrFun ((kq17.ef 34 (fun _ => rfl)).trans hg14) _)
            refine lv_aload_n hx hb dX13_isBetter_80 rfl (lv_at hl 3 rfl) ?_
            refine th_get (ci := 14) (C := RX13) (T := TX13) (N := 97) (v := .ref (ad 35)) hx hb hts hinX13 hown hK hP hI 0 (Nat.le_of_ble_eq_true rfl) rfl rfl 52 (Nat.le_of_ble_eq_true rfl) (hts _ (vA_in _ _ (in_32 _ (zs4 (zs4 (zs4 (zs0))))))) (fun _ h9 => h9) (hI.fr 0 (Nat.le_of_ble_eq_true rfl) rfl (Nat.le_of_ble_eq_true rfl) 35 rfl) dX13_isBetter_81 ?_
            refine lv_iload hx hb dX13_isBetter_84 (lv_at hl 0 rfl) ?_
            have n110 : vp_in v60_5 20 := (iv_in (n := 20) i64 (by decide))
            refine th_iald hx hb hK hP hI 35 (Nat.le_of_ble_eq_true rfl) rfl rfl n110 dX13_isBetter_86 (fun y109 ey109 => ?_)
            have ey109 := ey109.trans (congrFun hg20 _)
            refine lv_icmp_eq (tgt := 113) hx hb dX13_isBetter_87 (by decide) (fun c111 => ?_) (fun c111 => ?_)
            · --87 taken
              have t112 : y107.toInt = y109.toInt := ti_eq c111
              obtain ⟨y113, ey113⟩ : ∃ y : Int32, y = v60_5 + (1 : Int32) := ⟨_, rfl⟩
              obtain ⟨ty113, iy113⟩ := ti_add (e := 1) (f := 20) i64 ln_1 ey113 (by decide)
              have ty113 : y113.toInt = v60_5.toInt + 1 := ty113
              have iy113 : 1 ≤ y113.toInt ∧ y113.toInt ≤ 20 := iy113
              refine lv_iinc (v := y113) (lv' := [(5, .int y113), (4, .int r15), (3, .int r8), (0, .ref (ad 0)), (1, .int a0), (2, .int a1)]) hx hb dX13_isBetter_113 hl (k := 0) rfl (by rw [ey113]; rfl) (by decide) rfl (fun ls hl => ?_)
              refine lv_goto (tgt := 60) hx hb dX13_isBetter_116 (by decide) ?_
              exact ih60 y113 _ _ _ (iv_w iy113 (by decide)) (sx_eq hx60_0 ey107 ey109 (by omega) (by omega) (by omega)) (by omega) (by first | exact ms_su hx60_2 ty113 (by decide) | omega) hP hS (lv_sub hl [0, 1, 2, 3, 4, 5] rfl)
            · --87 not
              have t114 : ¬ y107.toInt = y109.toInt := ti_ne c111
              refine lv_aload_n hx hb dX13_isBetter_90 rfl (lv_at hl 3 rfl) ?_
              refine th_get (ci := 14) (C := RX13) (T := TX13) (N := 97) (v := .ref (ad 34)) hx hb hts hinX13 hown hK hP hI 0 (Nat.le_of_ble_eq_true rfl) rfl rfl 51 (Nat.le_of_ble_eq_true rfl) (hts _ (vA_in _ _ (in_32 _ (zs4 (zs4 (zs1 (zs1 (zs1 (zs0))))))))) (fun _ h9 => h9) (hI.fr 0 (Nat.le_of_ble_eq_true rfl) rfl (Nat.le_of_ble_eq_true rfl) 34 rfl) dX13_isBetter_91 ?_
              refine lv_iload hx hb dX13_isBetter_94 (lv_at hl 0 rfl) ?_
              have n116 : vp_in v60_5 20 := (iv_in (n := 20) i64 (by decide))
              refine th_iald hx hb hK hP hI 34 (Nat.le_of_ble_eq_true rfl) rfl rfl n116 dX13_isBetter_96 (fun y115 ey115 => ?_)
              have ey115 := ey115.trans (congrFun ((kq17.ef 34 (fun _ => rfl)).trans hg14) _)
              refine lv_aload_n hx hb dX13_isBetter_97 rfl (lv_at hl 3 rfl) ?_
              refine th_get (ci := 14) (C := RX13) (T := TX13) (N := 97) (v := .ref (ad 35)) hx hb hts hinX13 hown hK hP hI 0 (Nat.le_of_ble_eq_true rfl) rfl rfl 52 (Nat.le_of_ble_eq_true rfl) (hts _ (vA_in _ _ (in_32 _ (zs4 (zs4 (zs4 (zs0))))))) (fun _ h9 => h9) (hI.fr 0 (Nat.le_of_ble_eq_true rfl) rfl (Nat.le_of_ble_eq_true rfl) 35 rfl) dX13_isBetter_98 ?_
              refine lv_iload hx hb dX13_isBetter_101 (lv_at hl 0 rfl) ?_
              have n118 : vp_in v60_5 20 := (iv_in (n := 20) i64 (by decide))
              refine th_iald hx hb hK hP hI 35 (Nat.le_of_ble_eq_true rfl) rfl rfl n118 dX13_isBetter_103 (fun y117 ey117 => ?_)
              have ey117 := ey117.trans (congrFun hg20 _)
              refine lv_icmp_ge (tgt := 111) hx hb dX13_isBetter_104 (by decide) (fun c119 => ?_) (fun c119 => ?_)
              · --104 taken
                have t120 : y117.toInt ≤ y115.toInt := ti_le c119
                refine lv_iconst (v := 0) hx hb dX13_isBetter_111 (by decide) ?_
                rw [hQ]
                exact W.zret (v := 0) hx hb hr rfl (fun t ht hW => ⟨⟨0, E16, rfl, ⟨hI, hKp, ⟨(iv_w ln_0 (by decide)), ⟨fun q9 => by exfalso; have z0 : (0 : Int32).toInt = 0 := rfl; have z1 : (1 : Int32).toInt = 1 := rfl; omega, fun q9 => absurd q9 (fun q8 => LexR.gt (show v60_5.toNatClampNeg < r8.toNatClampNeg by rw [tn_, tn_]; omega) hx60_0 (by have q7 := congrArg Int32.toInt (ey115.trans ey107.symm); have q6 := congrArg Int32.toInt (ey117.trans ey109.symm); rw [← ey117, ← ey115]; omega) (k23.mp q8))⟩⟩⟩, by show va_P (dC, dI) vwCl (WX 72 ad E16) t.heap; rw [ht]; exact hP⟩, hS.F ht⟩) hS.2.2 dX13_isBetter_112
              · --104 not
                have t121 : y115.toInt < y117.toInt := ti_nle c119
                have i122 : -2147483648 ≤ y115.toInt ∧ y115.toInt ≤ 2147483646 := iv_lt_l t121 (iv_all _) (iv_all _) (by decide)
                have i123 : -2147483647 ≤ y117.toInt ∧ y117.toInt ≤ 2147483647 := iv_lt_r t121 (iv_all _) (iv_all _) (by decide)
                refine lv_iconst (v := 1) hx hb dX13_isBetter_107 (by decide) ?_
                refine lv_goto (tgt := 112) hx hb dX13_isBetter_108 (by decide) ?_
                rw [hQ]
                exact W.zret (v := 1) hx hb hr rfl (fun t ht hW => ⟨⟨1, E16, rfl, ⟨hI, hKp, ⟨(iv_w ln_1 (by decide)), ⟨fun _ => (k23.mpr (LexR.lt (show v60_5.toNatClampNeg < r8.toNatClampNeg by rw [tn_, tn_]; omega) hx60_0 (by rw [← ey115, ← ey117]; omega))), fun _ => rfl⟩⟩⟩, by show va_P (dC, dI) vwCl (WX 72 ad E16) t.heap; rw [ht]; exact hP⟩, hS.F ht⟩) hS.2.2 dX13_isBetter_112
    exact hL60 (21) (0 : Int32) _ _ _ (iv_w ln_0 (by decide)) (fun j9 h9 => absurd h9 (Nat.not_lt_zero j9)) (by have z9 := ln_0; omega) (by have h9 := ln_0; first | exact ms_bu h9.1 (by decide) | omega) hP hS (lv_sub hl [0, 1, 2, 3, 4, 5] rfl)
  · --12 not
    have t124 : ¬ y1.toInt = y3.toInt := ti_ne c5
    refine lv_aload_n hx hb dX13_isBetter_15 rfl (lv_at hl 0 rfl) ?_
    refine th_get (ci := 14) (C := RX13) (T := TX13) (N := 97) (v := .ref (ad 33)) hx hb hts hinX13 hown hK hP hI 0 (Nat.le_of_ble_eq_true rfl) rfl rfl 50 (Nat.le_of_ble_eq_true rfl) (hts _ (vA_in _ _ (in_32 _ (zs4 (zs4 (zs1 (zs1 (zs0)))))))) (fun _ h9 => h9) (hI.fr 0 (Nat.le_of_ble_eq_true rfl) rfl (Nat.le_of_ble_eq_true rfl) 33 rfl) dX13_isBetter_16 ?_
    refine lv_iload_n hx hb dX13_isBetter_19 rfl (lv_at hl 1 rfl) ?_
    have n126 : vp_in a0 16 := (iv_in (n := 16) hh0 (by decide))
    refine th_iald hx hb hK hP hI 33 (Nat.le_of_ble_eq_true rfl) rfl rfl n126 dX13_isBetter_20 (fun y125 ey125 => ?_)
    have ey125 := ey125.trans (hKp.ei 33 _ rfl)
    refine lv_aload_n hx hb dX13_isBetter_21 rfl (lv_at hl 0 rfl) ?_
    refine th_get (ci := 14) (C := RX13) (T := TX13) (N := 97) (v := .ref (ad 33)) hx hb hts hinX13 hown hK hP hI 0 (Nat.le_of_ble_eq_true rfl) rfl rfl 50 (Nat.le_of_ble_eq_true rfl) (hts _ (vA_in _ _ (in_32 _ (zs4 (zs4 (zs1 (zs1 (zs0)))))))) (fun _ h9 => h9) (hI.fr 0 (Nat.le_of_ble_eq_true rfl) rfl (Nat.le_of_ble_eq_true rfl) 33 rfl) dX13_isBetter_22 ?_
    refine lv_iload_n hx hb dX13_isBetter_25 rfl (lv_at hl 2 rfl) ?_
    have n128 : vp_in a1 16 := (iv_in (n := 16) hh1 (by decide))
    refine th_iald hx hb hK hP hI 33 (Nat.le_of_ble_eq_true rfl) rfl rfl n128 dX13_isBetter_26 (fun y127 ey127 => ?_)
    have ey127 := ey127.trans (hKp.ei 33 _ rfl)
    refine lv_icmp_ge (tgt := 34) hx hb dX13_isBetter_27 (by decide) (fun c129 => ?_) (fun c129 => ?_)
    · --27 taken
      have t130 : y127.toInt ≤ y125.toInt := ti_le c129
      refine lv_iconst (v := 0) hx hb dX13_isBetter_34 (by decide) ?_
      rw [hQ]
      exact W.zret (v := 0) hx hb hr rfl (fun t ht hW => ⟨⟨0, E, rfl, ⟨hI, hKp, ⟨(iv_w ln_0 (by decide)), ⟨fun q9 => by exfalso; have z0 : (0 : Int32).toInt = 0 := rfl; have z1 : (1 : Int32).toInt = 1 := rfl; omega, fun q9 => absurd q9 (Bt_gt (show (xi (E 33) a1.toNatClampNeg).toInt < (xi (E 33) a0.toNatClampNeg).toInt by have q5 := congrArg Int32.toInt (ey1.trans ey125.symm); have q4 := congrArg Int32.toInt (ey3.trans ey127.symm); rw [← ey127, ← ey125]; omega))⟩⟩⟩, by show va_P (dC, dI) vwCl (WX 72 ad E) t.heap; rw [ht]; exact hP⟩, hS.F ht⟩) hS.2.2 dX13_isBetter_35
    · --27 not
      have t131 : y125.toInt < y127.toInt := ti_nle c129
      have i132 : -2147483648 ≤ y125.toInt ∧ y125.toInt ≤ 2147483646 := iv_lt_l t131 (iv_all _) (iv_all _) (by decide)
      have i133 : -2147483647 ≤ y127.toInt ∧ y127.toInt ≤ 2147483647 := iv_lt_r t131 (iv_all _) (iv_all _) (by decide)
      refine lv_iconst (v := 1) hx hb dX13_isBetter_30 (by decide) ?_
      refine lv_goto (tgt := 35) hx hb dX13_isBetter_31 (by decide) ?_
      rw [hQ]
      exact W.zret (v := 1) hx hb hr rfl (fun t ht hW => ⟨⟨1, E, rfl, ⟨hI, hKp, ⟨(iv_w ln_1 (by decide)), ⟨fun _ => (Bt_lt (show (xi (E 33) a0.toNatClampNeg).toInt < (xi (E 33) a1.toNatClampNeg).toInt by rw [← ey125, ← ey127]; omega)), fun _ => rfl⟩⟩⟩, by show va_P (dC, dI) vwCl (WX 72 ad E) t.heap; rw [ht]; exact hP⟩, hS.F ht⟩) hS.2.2 dX13_isBetter_35
def v_rankedM : List Cond := .code yX13_ranked cX13_ranked 6 (some .int) :: vA
abbrev rm_rankedM : Room := { frames := 77, cells := 0, slots := 0, locals := 3080 }
def w_rankedM : Nat → Nat → Bool := wl [12, 32, 33, 34, 35, 36, 37] [(0, 0), (0, 18), (0, 19), (0, 20), (0, 21), (0, 22), (0, 23), (0, 24), (0, 25), (0, 26), (0, 55)]
set_option maxHeartbeats 4000000 in
set_option maxRecDepth 100000 in
theorem q_rankedM (l : Launch) (dC : Nat → ClassId) (dI : Nat → Nat → Nat) (cT : Nat → ClassId) (ad : Nat → Nat) (E : Nat → va_E) (sz : Nat) (a0 : Int32) (a1 : Int32) (hI0 : IX cT shM spM 72 ad E) (hh0 : TXM E) : Met l yX13_ranked v_rankedM rm_rankedM (va_Pc [.ref (ad 0), .int a0, .int a1] (HW dC dI (TYM cT) 72 ad E sz)) (va_Qi (S := Nat → va_E) (fun r u => IX cT shM spM 72 ad u ∧ Kp w_rankedM E u ∧ (((((0 ≤ a1.toInt ∧ a1.toInt ≤ (xi (E 0) 1).toInt) → (∃ (K9 o9 : Int32) (P9 T9 S9 O9 : Nat → Int32), TaM E a1 K9 o9 P9 T9 S9 O9 ∧ RkR (fun b9 : Nat => (S9 b9).toInt = 1) (fun x9 y9 : Nat => BtP P9 T9 O9 K9.toNatClampNeg x9 y9) (xi (E 0) 8).toNatClampNeg a0.toInt r.toInt)) ∧ (¬ (0 ≤ a1.toInt ∧ a1.toInt ≤ (xi (E 0) 1).toInt) → (r = -1)))))) (HB dC dI 72 ad) (va_A (WX 72 ad E) sz)) 0 0 (va_A (WX 72 ad E) sz) := by
  refine Met.ofW (cc := cX13_ranked) (maxL := 6) (ret := (some .int)) (by decide) rfl ?_
  intro p e s m args below meth c s₁ B hml hv
  obtain ⟨hargs, hsz, hP, hK, hD0, hEV⟩ := hv
  subst hsz
  have hx := B.exec
  have hb := B.bytes
  have hr := B.returns
  have hts := atoms_spec (ws := v_rankedM) B.pre
  have hown : s.vm.findClass RX13 = some m.cls := findClass_of_methodNamed B.named
  have hlocks := B.notSynchronized
  have hinX13 : ∀ w ∈ u_ws RX13 TX13 97, w ∈ v_rankedM := fun w h => vA_in _ w (in_X13 w h)
  generalize hAe : va_A (WX 72 ad E) s.heap.size = A at hEV ⊢
  have hA : ∀ q : Nat, s.heap.size ≤ q → A q := fun q h => by rw [← hAe]; exact Or.inr h
  have hD : va_D A (WX 72 ad E) := by rw [← hAe]; exact hD0.self
  have hS : va_S A s.heap s.heap [] := va_S.rf
  have hI := hI0
  have hKp : Kp w_rankedM E E := Kp.rf
  have hl := lv_entry ([.ref (ad 0), .int a0, .int a1]) (n := 6) (Nat.le_of_ble_eq_true rfl)
  obtain ⟨Q, hQ⟩ : ∃ Q, Q = MQ below (va_Qi (S := Nat → va_E) (fun r u => IX cT shM spM 72 ad u ∧ Kp w_rankedM E u ∧ (((((0 ≤ a1.toInt ∧ a1.toInt ≤ (xi (E 0) 1).toInt) → (∃ (K9 o9 : Int32) (P9 T9 S9 O9 : Nat → Int32), TaM E a1 K9 o9 P9 T9 S9 O9 ∧ RkR (fun b9 : Nat => (S9 b9).toInt = 1) (fun x9 y9 : Nat => BtP P9 T9 O9 K9.toNatClampNeg x9 y9) (xi (E 0) 8).toNatClampNeg a0.toInt r.toInt)) ∧ (¬ (0 ≤ a1.toInt ∧ a1.toInt ≤ (xi (E 0) 1).toInt) → (r = -1)))))) (HB dC dI 72 ad) (A)) args s 0 0 (A) := ⟨_, rfl⟩
  rw [← hQ, show entryFrame m args 6 = _ from (congrArg (fun z => entryFrame m z 6) hargs).trans (lg_entry_eq _ _ _)]
  generalize (lg_sl ([.ref (ad 0), .int a0, .int a1]) ++ List.replicate (6 - (lg_sl ([.ref (ad 0), .int a0, .int a1])).length) Slot.unset).toArray = ls at hl ⊢
  have hl : lv_has ls 6 [(0, .ref (ad 0)), (1, .int a0), (2, .int a1)] := hl
  obtain ⟨g1, hg1⟩ : ∃ g, xi (E 32) = g := ⟨_, rfl⟩
  obtain ⟨g2, hg2⟩ : ∃ g, xi (E 36) = g := ⟨_, rfl⟩
  obtain ⟨g3, hg3⟩ : ∃ g, xi (E 37) = g := ⟨_, rfl⟩
  obtain ⟨g4, hg4⟩ : ∃ g, xi (E 33) = g := ⟨_, rfl⟩
  have z0z : (0 : Int32).toInt = 0 := rfl
  have ib8 : 0 ≤ (xi (E 0) 8).toInt ∧ (xi (E 0) 8).toInt ≤ 16 := hI0.iv 0 (Nat.le_of_ble_eq_true rfl) rfl (Nat.le_of_ble_eq_true rfl) rfl
  have ib46 : 0 ≤ (xi (E 0) 46).toInt ∧ (xi (E 0) 46).toInt ≤ 20 := hI0.iv 0 (Nat.le_of_ble_eq_true rfl) rfl (Nat.le_of_ble_eq_true rfl) rfl
  have hN16 : (xi (E 0) 8).toNatClampNeg ≤ 16 := by rw [tn_]; omega
  have z0 := ln_0
  have z1 := ln_1
  have zm1 := ln_m1
  refine lv_aload_n hx hb dX13_ranked_0 rfl (lv_at hl 0 rfl) ?_
  refine lv_iload_n hx hb dX13_ranked_1 rfl (lv_at hl 2 rfl) ?_
  refine th_i (va_runV (As := [.int a1]) (rest := []) ⟨hx, hb, hml, hown, hts⟩ (q_scoreM l dC dI cT ad E s.heap.size a1 hI (by exact hh0)) (cwV 1 hts (gi_V (in_33 _ (zs4 (zs4 (zs4 (zs1 (zs0)))))) (in_33 _ (zs4 (zs4 (zs4 (zs1 (zs1 (zs0))))))) (in_33 _ (zs4 (zs4 (zs4 (zs1 (zs1 (zs1 (zs0)))))))) (in_24 _ (zs4 (zs4 (zs4 (zs1 (zs1 (zs1 (zs0)))))))) (in_33 _ (zs16 (zs0)))) rfl rfl rfl ⟨rfl, hz_yX13_score_1⟩ ⟨Nat.le_of_ble_eq_true rfl, Nat.le_of_ble_eq_true rfl⟩) ⟨HW_bl, va_recv hK hP (ci := 14) (q0 := 0) rfl (hI.ob 0 (Nat.le_of_ble_eq_true rfl) rfl), (HW_wi hP hK (WX_D hD) hS hA hEV)⟩ rfl rfl hl.1 rfl (lv_room (Nat.le_of_ble_eq_true rfl)) dX13_ranked_2 ⟨Nat.le_of_ble_eq_true rfl, Nat.le_of_ble_eq_true rfl⟩) (WX_D hD) hS hA (fun r5 E6 H locs hw hP hS => ?_)
  obtain ⟨hI, kq7, hw⟩ := hw
  have hKb := hKp
  have hKp := hKp.tr kq7 (wl_sub rfl rfl)
  rcases hw with hw | hw
  · -- scoreM, case 0
    obtain ⟨rfl, f8, f9⟩ := hw
    have i10 : 0 ≤ (xi (E 0) 1).toInt ∧ (xi (E 0) 1).toInt ≤ 400 := (show 0 ≤ (xi (E 0) 1).toInt ∧ (xi (E 0) 1).toInt ≤ 400 from hI0.iv 0 (Nat.le_of_ble_eq_true rfl) rfl (Nat.le_of_ble_eq_true rfl) rfl)
    have i11 : 0 ≤ (xi (E 0) 8).toInt ∧ (xi (E 0) 8).toInt ≤ 16 := (show 0 ≤ (xi (E 0) 8).toInt ∧ (xi (E 0) 8).toInt ≤ 16 from hI0.iv 0 (Nat.le_of_ble_eq_true rfl) rfl (Nat.le_of_ble_eq_true rfl) rfl)
    have i12 : 0 ≤ (xi (E 0) 46).toInt ∧ (xi (E 0) 46).toInt ≤ 20 := (show 0 ≤ (xi (E 0) 46).toInt ∧ (xi (E 0) 46).toInt ≤ 20 from hI0.iv 0 (Nat.le_of_ble_eq_true rfl) rfl (Nat.le_of_ble_eq_true rfl) rfl)
    obtain ⟨g13, hg13⟩ : ∃ g, xi (E6 32) = g := ⟨_, rfl⟩
    obtain ⟨g14, hg14⟩ : ∃ g, xi (E6 36) = g := ⟨_, rfl⟩
    obtain ⟨g15, hg15⟩ : ∃ g, xi (E6 37) = g := ⟨_, rfl⟩
    obtain ⟨g16, hg16⟩ : ∃ g, xi (E6 33) = g := ⟨_, rfl⟩
    obtain ⟨y17, ey17⟩ : ∃ y, xi (E6 0) 55 = y := ⟨_, rfl⟩
    have fy17 : xv (E6 0) 55 = .int y17 := (hI.fi 0 (Nat.le_of_ble_eq_true rfl) rfl (Nat.le_of_ble_eq_true rfl) rfl).trans (congrArg Value.int ey17)
    have iy17 : 0 ≤ y17.toInt ∧ y17.toInt ≤ 20 := by rw [← ey17]; exact hI.iv 0 (Nat.le_of_ble_eq_true rfl) rfl (Nat.le_of_ble_eq_true rfl) rfl
    have k18 : ∃ o9 : Int32, TaM E a1 y17 o9 g13 g14 g15 g16 := by obtain ⟨K9, o9, h8, h9⟩ := f9; rw [show xi (E6 0) 55 = y17 from vi_e fy17] at h8; subst h8; rw [show xi (E6 32) = g13 from hg13, show xi (E6 36) = g14 from hg14, show xi (E6 37) = g15 from hg15, show xi (E6 33) = g16 from hg16] at h9; exact ⟨o9, h9⟩
    obtain ⟨o9, k19⟩ := k18
    have k20 := k19.ke ib46.2
    refine lv_if_ne (tgt := 10) hx hb dX13_ranked_5 (by decide) (fun c21 => ?_) (fun c21 => ?_)
    · --5 taken
      refine lv_iconst (v := 0) hx hb dX13_ranked_10 (by decide) ?_
      refine lv_istore_n (lv' := [(3, .int 0), (0, .ref (ad 0)), (1, .int a0), (2, .int a1)]) hx hb dX13_ranked_11 rfl hl (by decide) rfl (fun ls hl => ?_)
      have hL12 : ∀ d : Nat, ∀ (v12_3 : Int32) (E12_ : Nat → va_E) (H : Heap) (locs : List Loc) (ls : Array Slot), 0 ≤ v12_3.toInt ∧ v12_3.toInt ≤ 16 → (∀ b9 : Nat, b9 < v12_3.toNatClampNeg → (g15 b9).toInt = 1 → ¬ CnR (bqF (fun b9 : Nat => (g15 b9).toInt = 1) (fun x9 y9 : Nat => BtP g13 g14 g16 y17.toNatClampNeg x9 y9) b9) (xi (E 0) 8).toNatClampNeg a0.toInt) → v12_3.toInt ≤ (xi (E 0) 8).toInt → 16 - v12_3.toInt < (d : Int) → IX cT shM spM 72 ad E12_ → Kp w_rankedM E E12_ → xv (E12_ 0) 55 = .int y17 → xi (E12_ 32) = g13 → xi (E12_ 36) = g14 → xi (E12_ 37) = g15 → xi (E12_ 33) = g16 → va_P (dC, dI) vwCl (WX 72 ad E12_) H → va_S A s.heap H locs → lv_has ls 6 [(3, .int v12_3), (0, .ref (ad 0)), (1, .int a0), (2, .int a1)] → W p l e (headSpec v_rankedM rm_rankedM).room s m args below meth c H locs 0 0 Q (F0 m 12 ls []) := by
        intro d
        induction d with
        | zero =>
          intro v12_3 E12_ H locs ls hv12_3 hx12_0 hx12_1 hx12_2 hI hKp hs12_0_55 hr12_32 hr12_36 hr12_37 hr12_33 hP hS hl
          exact absurd hx12_2 (by first | exact ms_zu hv12_3.2 | omega)
        | succ d ih12 =>
          intro v12_3 E12_ H locs ls hv12_3 hx12_0 hx12_1 hx12_2 hI hKp hs12_0_55 hr12_32 hr12_36 hr12_37 hr12_33 hP hS hl
          refine lv_iload_n hx hb dX13_ranked_12 rfl (lv_at hl 0 rfl) ?_
          refine lv_aload_n hx hb dX13_ranked_13 rfl (lv_at hl 1 rfl) ?_
          refine th_get (ci := 14) (C := RX13) (T := TX13) (N := 97) (v := .int (xi (E 0) 8)) hx hb hts hinX13 hown hK hP hI 0 (Nat.le_of_ble_eq_true rfl) rfl rfl 8 (Nat.le_of_ble_eq_true rfl) (hts _ (vA_in _ _ (in_24 _ (zs16 (zs4 (zs1 (zs1 (zs0)))))))) (fun _ h9 => h9) (th_v0 hKp hI0 0 (Nat.le_of_ble_eq_true rfl) rfl (Nat.le_of_ble_eq_true rfl) rfl rfl) dX13_ranked_14 ?_
          refine lv_icmp_ge (tgt := 103) hx hb dX13_ranked_17 (by decide) (fun c22 => ?_) (fun c22 => ?_)
          · --17 taken
            have t23 : (xi (E 0) 8).toInt ≤ v12_3.toInt := ti_le c22
            refine lv_iconst (v := -1) hx hb dX13_ranked_103 (by decide) ?_
            rw [hQ]
            exact W.iret (v := (-1)) hx hb hr (fun t ht hW => ⟨⟨(-1), E12_, rfl, ⟨hI, hKp, ⟨fun _ => ⟨_, o9, _, _, _, _, k19, (Or.inr ⟨fun b9 h9 => hx12_0 b9 (by rw [tn_] at h9 ⊢; omega), rfl⟩)⟩, fun g9 => by exfalso; omega⟩⟩, by show va_P (dC, dI) vwCl (WX 72 ad E12_) t.heap; rw [ht]; exact hP⟩, hS.F ht⟩) hS.2.2 dX13_ranked_104
          · --17 not
            have t24 : v12_3.toInt < (xi (E 0) 8).toInt := ti_nle c22
            have i25 : 0 ≤ v12_3.toInt ∧ v12_3.toInt ≤ 15 := iv_lt_l t24 hv12_3 i11 (by decide)
            have i26 : 1 ≤ (xi (E 0) 8).toInt ∧ (xi (E 0) 8).toInt ≤ 16 := iv_lt_r t24 hv12_3 i11 (by decide)
            refine lv_aload_n hx hb dX13_ranked_20 rfl (lv_at hl 1 rfl) ?_
            refine th_get (ci := 14) (C := RX13) (T := TX13) (N := 97) (v := .ref (ad 37)) hx hb hts hinX13 hown hK hP hI 0 (Nat.le_of_ble_eq_true rfl) rfl rfl 54 (Nat.le_of_ble_eq_true rfl) (hts _ (vA_in _ _ (in_32 _ (zs4 (zs4 (zs4 (zs1 (zs1 (zs0))))))))) (fun _ h9 => h9) (hI.fr 0 (Nat.le_of_ble_eq_true rfl) rfl (Nat.le_of_ble_eq_true rfl) 37 rfl) dX13_ranked_21 ?_
            refine lv_iload_n hx hb dX13_ranked_24 rfl (lv_at hl 0 rfl) ?_
            have n28 : vp_in v12_3 16 := (iv_in (n := 16) i25 (by decide))
            refine th_zald hx hb hK hP hI 37 (Nat.le_of_ble_eq_true rfl) rfl rfl n28 dX13_ranked_25 (fun y27 ey27 => ?_)
            have iy27 : 0 ≤ y27.toInt ∧ y27.toInt ≤ 1 := hI.el 37 (Nat.le_of_ble_eq_true rfl) rfl n28 (fun _ => rfl) ey27
            have ey27 := ey27.trans (congrFun hr12_37 _)
            refine lv_if_ne (tgt := 32) hx hb dX13_ranked_26 (by decide) (fun c29 => ?_) (fun c29 => ?_)
            · --26 taken
              have t30 : ¬ y27.toInt = 0 := ti_ne c29
              have i31 : 1 ≤ y27.toInt ∧ y27.toInt ≤ 1 := iv_ne_l t30 iy27 (il_ 0)
              refine lv_iconst (v := 0) hx hb dX13_ranked_32 (by decide) ?_
              refine lv_istore (lv' := [(4, .int 0), (3, .int v12_3), (0, .ref (ad 0)), (1, .int a0), (2, .int a1)]) hx hb dX13_ranked_33 hl (by decide) rfl (fun ls hl => ?_)
              refine lv_iconst (v := 0) hx hb dX13_ranked_35 (by decide) ?_
              refine lv_istore (lv' := [(5, .int 0), (4, .int 0), (3, .int v12_3), (0, .ref (ad 0)), (1, .int a0), (2, .int a1)]) hx hb dX13_ranked_36 hl (by decide) rfl (fun ls hl => ?_)
              have hL38 : ∀ d : Nat, ∀ (v38_5 : Int32) (v38_4 : Int32) (E38_ : Nat → va_E) (H : Heap) (locs : List Loc) (ls : Array Slot), 0 ≤ v38_5.toInt ∧ v38_5.toInt ≤ 16 → 0 ≤ v38_4.toInt ∧ v38_4.toInt ≤ 16 → CnR (bqF (fun b9 : Nat => (g15 b9).toInt = 1) (fun x9 y9 : Nat => BtP g13 g14 g16 y17.toNatClampNeg x9 y9) v12_3.toNatClampNeg) v38_5.toNatClampNeg v38_4.toInt → 0 ≤ v38_4.toInt ∧ v38_4.toInt ≤ v38_5.toInt → v38_5.toInt ≤ (xi (E 0) 8).toInt → 16 - v38_5.toInt < (d : Int) → IX cT shM spM 72 ad E38_ → Kp w_rankedM E E38_ → xv (E38_ 0) 55 = .int y17 → xi (E38_ 32) = g13 → xi (E38_ 36) = g14 → xi (E38_ 37) = g15 → xi (E38_ 33) = g16 → va_P (dC, dI) vwCl (WX 72 ad E38_) H → va_S A s.heap H locs → lv_has ls 6 [(5, .int v38_5), (4, .int v38_4), (3, .int v12_3), (0, .ref (ad 0)), (1, .int a0), (2, .int a1)] → W p l e (headSpec v_rankedM rm_rankedM).room s m args below meth c H locs 0 0 Q (F0 m 38 ls []) := by
                intro d
                induction d with
                | zero =>
                  intro v38_5 v38_4 E38_ H locs ls hv38_5 hv38_4 hx38_0 hx38_1 hx38_2 hx38_3 hI hKp hs38_0_55 hr38_32 hr38_36 hr38_37 hr38_33 hP hS hl
                  exact absurd hx38_3 (by first | exact ms_zu hv38_5.2 | omega)
                | succ d ih38 =>
                  intro v38_5 v38_4 E38_ H locs ls hv38_5 hv38_4 hx38_0 hx38_1 hx38_2 hx38_3 hI hKp hs38_0_55 hr38_32 hr38_36 hr38_37 hr38_33 hP hS hl
                  refine lv_iload hx hb dX13_ranked_38 (lv_at hl 0 rfl) ?_
                  refine lv_aload_n hx hb dX13_ranked_40 rfl (lv_at hl 3 rfl) ?_
                  refine th_get (ci := 14) (C := RX13) (T := TX13) (N := 97) (v := .int (xi (E 0) 8)) hx hb hts hinX13 hown hK hP hI 0 (Nat.le_of_ble_eq_true rfl) rfl rfl 8 (Nat.le_of_ble_eq_true rfl) (hts _ (vA_in _ _ (in_24 _ (zs16 (zs4 (zs1 (zs1 (zs0)))))))) (fun _ h9 => h9) (th_v0 hKp hI0 0 (Nat.le_of_ble_eq_true rfl) rfl (Nat.le_of_ble_eq_true rfl) rfl rfl) dX13_ranked_41 ?_
                  refine lv_icmp_ge (tgt := 89) hx hb dX13_ranked_44 (by decide) (fun c32 => ?_) (fun c32 => ?_)
                  · --44 taken
                    have t33 : (xi (E 0) 8).toInt ≤ v38_5.toInt := ti_le c32
                    have i34 : 1 ≤ v38_5.toInt ∧ v38_5.toInt ≤ 16 := iv_le_r t33 i26 hv38_5 (by decide)
                    have k35 : CnR (bqF (fun b9 : Nat => (g15 b9).toInt = 1) (fun x9 y9 : Nat => BtP g13 g14 g16 y17.toNatClampNeg x9 y9) v12_3.toNatClampNeg) (xi (E 0) 8).toNatClampNeg v38_4.toInt := by have h9 := hx38_0; rw [show v38_5.toNatClampNeg = (xi (E 0) 8).toNatClampNeg by rw [tn_, tn_]; omega] at h9; exact h9
                    refine lv_iload hx hb dX13_ranked_89 (lv_at hl 1 rfl) ?_
                    refine lv_iload_n hx hb dX13_ranked_91 rfl (lv_at hl 4 rfl) ?_
                    refine lv_icmp_ne (tgt := 97) hx hb dX13_ranked_92 (by decide) (fun c36 => ?_) (fun c36 => ?_)
                    · --92 taken
                      have t37 : ¬ v38_4.toInt = a0.toInt := ti_ne c36
                      obtain ⟨y38, ey38⟩ : ∃ y : Int32, y = v12_3 + (1 : Int32) := ⟨_, rfl⟩
                      obtain ⟨ty38, iy38⟩ := ti_add (e := 1) (f := 16) i25 ln_1 ey38 (by decide)
                      have ty38 : y38.toInt = v12_3.toInt + 1 := ty38
                      have iy38 : 1 ≤ y38.toInt ∧ y38.toInt ≤ 16 := iy38
                      refine lv_iinc (v := y38) (lv' := [(3, .int y38), (5, .int v38_5), (4, .int v38_4), (0, .ref (ad 0)), (1, .int a0), (2, .int a1)]) hx hb dX13_ranked_97 hl (k := 2) rfl (by rw [ey38]; rfl) (by decide) rfl (fun ls hl => ?_)
                      refine lv_goto (tgt := 12) hx hb dX13_ranked_100 (by decide) ?_
                      exact ih12 y38 E38_ _ _ _ (iv_w iy38 (by decide)) (fun b9 h9 => dite (b9 = v12_3.toNatClampNeg) (fun q7 => by rw [q7]; exact (fun _ q9 => by have q8 := CnR.un _ _ _ k35 q9 (fun _ _ => Iff.rfl); omega)) (fun q7 => hx12_0 b9 (by rw [tn_] at h9 q7 ⊢; omega))) (by omega) (by first | exact ms_su hx12_2 ty38 (by decide) | omega) hI hKp hs38_0_55 hr38_32 hr38_36 hr38_37 hr38_33 hP hS (lv_sub hl [0, 3, 4, 5] rfl)
                    · --92 not
                      have t39 : v38_4.toInt = a0.toInt := ti_eq c36
                      have i40 : 0 ≤ a0.toInt ∧ a0.toInt ≤ 16 := iv_eqi t39.symm (iv_all _) hv38_4 (by decide)
                      refine lv_iload_n hx hb dX13_ranked_95 rfl (lv_at hl 2 rfl) ?_
                      rw [hQ]
                      exact W.iret (v := v12_3) hx hb hr (fun t ht hW => ⟨⟨v12_3, E38_, rfl, ⟨hI, hKp, ⟨fun _ => ⟨_, o9, _, _, _, _, k19, (Or.inl ⟨v12_3.toNatClampNeg, by rw [tn_, tn_]; omega, (by show (g15 v12_3.toNatClampNeg).toInt = 1; rw [← ey27]; omega), (by have h9 := k35; rw [show v38_4.toInt = a0.toInt by omega] at h9; exact h9), hx12_0, by rw [tn_]; omega⟩)⟩, fun g9 => by exfalso; omega⟩⟩, by show va_P (dC, dI) vwCl (WX 72 ad E38_) t.heap; rw [ht]; exact hP⟩, hS.F ht⟩) hS.2.2 dX13_ranked_96
                  · --44 not
                    have t41 : v38_5.toInt < (xi (E 0) 8).toInt := ti_nle c32
                    have i42 : 0 ≤ v38_5.toInt ∧ v38_5.toInt ≤ 15 := iv_lt_l t41 hv38_5 i26 (by decide)
                    refine lv_iload hx hb dX13_ranked_47 (lv_at hl 1 rfl) ?_
                    refine lv_iload hx hb dX13_ranked_49 (lv_at hl 0 rfl) ?_
                    refine lv_iload_n hx hb dX13_ranked_51 rfl (lv_at hl 2 rfl) ?_
                    refine lv_icmp_eq (tgt := 79) hx hb dX13_ranked_52 (by decide) (fun c43 => ?_) (fun c43 => ?_)
                    · --52 taken
                      have t44 : v38_5.toInt = v12_3.toInt := ti_eq c43
                      refine lv_iconst (v := 0) hx hb dX13_ranked_79 (by decide) ?_
                      have i45 : 0 ≤ v38_4.toInt ∧ v38_4.toInt ≤ 15 := by omega
                      refine lv_iadd hx hb dX13_ranked_80 ?_
                      refine lv_topi (fun y46 ey46 => ?_)
                      obtain ⟨ty46, iy46⟩ := ti_add (e := 0) (f := 15) i45 ln_0 ey46 (by decide)
                      have ty46 : y46.toInt = v38_4.toInt + 0 := ty46
                      have iy46 : 0 ≤ y46.toInt ∧ y46.toInt ≤ 15 := iy46
                      refine lv_istore (lv' := [(4, .int y46), (5, .int v38_5), (3, .int v12_3), (0, .ref (ad 0)), (1, .int a0), (2, .int a1)]) hx hb dX13_ranked_81 hl (by decide) rfl (fun ls hl => ?_)
                      obtain ⟨y47, ey47⟩ : ∃ y : Int32, y = v38_5 + (1 : Int32) := ⟨_, rfl⟩
                      obtain ⟨ty47, iy47⟩ := ti_add (e := 1) (f := 16) i42 ln_1 ey47 (by decide)
                      have ty47 : y47.toInt = v38_5.toInt + 1 := ty47
                      have iy47 : 1 ≤ y47.toInt ∧ y47.toInt ≤ 16 := iy47
                      refine lv_iinc (v := y47) (lv' := [(5, .int y47), (4, .int y46), (3, .int v12_3), (0, .ref (ad 0)), (1, .int a0), (2, .int a1)]) hx hb dX13_ranked_83 hl (k := 1) rfl (by rw [ey47]; rfl) (by decide) rfl (fun ls hl => ?_)
                      refine lv_goto (tgt := 38) hx hb dX13_ranked_86 (by decide) ?_
                      exact ih38 y47 y46 E38_ _ _ _ (iv_w iy47 (by decide)) (iv_w iy46 (by decide)) (hx38_0.no (fun q9 => q9.1 (by rw [tn_, tn_]; omega)) (by have z0 := ln_0; have z1 := ln_1; omega) (by rw [tn_ y47, tn_ v38_5]; omega)) (by have z0 := ln_0; have z1 := ln_1; omega) (by omega) (by first | exact ms_su hx38_3 ty47 (by decide) | omega) hI hKp hs38_0_55 hr38_32 hr38_36 hr38_37 hr38_33 hP hS (lv_sub hl [0, 1, 2, 3, 4, 5] rfl)
                    · --52 not
                      have t48 : ¬ v38_5.toInt = v12_3.toInt := ti_ne c43
                      refine lv_aload_n hx hb dX13_ranked_55 rfl (lv_at hl 3 rfl) ?_
                      refine th_get (ci := 14) (C := RX13) (T := TX13) (N := 97) (v := .ref (ad 37)) hx hb hts hinX13 hown hK hP hI 0 (Nat.le_of_ble_eq_true rfl) rfl rfl 54 (Nat.le_of_ble_eq_true rfl) (hts _ (vA_in _ _ (in_32 _ (zs4 (zs4 (zs4 (zs1 (zs1 (zs0))))))))) (fun _ h9 => h9) (hI.fr 0 (Nat.le_of_ble_eq_true rfl) rfl (Nat.le_of_ble_eq_true rfl) 37 rfl) dX13_ranked_56 ?_
                      refine lv_iload hx hb dX13_ranked_59 (lv_at hl 0 rfl) ?_
                      have n50 : vp_in v38_5 16 := (iv_in (n := 16) i42 (by decide))
                      refine th_zald hx hb hK hP hI 37 (Nat.le_of_ble_eq_true rfl) rfl rfl n50 dX13_ranked_61 (fun y49 ey49 => ?_)
                      have iy49 : 0 ≤ y49.toInt ∧ y49.toInt ≤ 1 := hI.el 37 (Nat.le_of_ble_eq_true rfl) rfl n50 (fun _ => rfl) ey49
                      have ey49 := ey49.trans (congrFun hr38_37 _)
                      refine lv_if_eq (tgt := 79) hx hb dX13_ranked_62 (by decide) (fun c51 => ?_) (fun c51 => ?_)
                      · --62 taken
                        have t52 : y49.toInt = 0 := ti_eq c51
                        have i53 : 0 ≤ y49.toInt ∧ y49.toInt ≤ 0 := iv_eqi t52 iy49 (il_ 0) (by decide)
                        refine lv_iconst (v := 0) hx hb dX13_ranked_79 (by decide) ?_
                        have i54 : 0 ≤ v38_4.toInt ∧ v38_4.toInt ≤ 15 := by omega
                        refine lv_iadd hx hb dX13_ranked_80 ?_
                        refine lv_topi (fun y55 ey55 => ?_)
                        obtain ⟨ty55, iy55⟩ := ti_add (e := 0) (f := 15) i54 ln_0 ey55 (by decide)
                        have ty55 : y55.toInt = v38_4.toInt + 0 := ty55
                        have iy55 : 0 ≤ y55.toInt ∧ y55.toInt ≤ 15 := iy55
                        refine lv_istore (lv' := [(4, .int y55), (5, .int v38_5), (3, .int v12_3), (0, .ref (ad 0)), (1, .int a0), (2, .int a1)]) hx hb dX13_ranked_81 hl (by decide) rfl (fun ls hl => ?_)
                        obtain ⟨y56, ey56⟩ : ∃ y : Int32, y = v38_5 + (1 : Int32) := ⟨_, rfl⟩
                        obtain ⟨ty56, iy56⟩ := ti_add (e := 1) (f := 16) i42 ln_1 ey56 (by decide)
                        have ty56 : y56.toInt = v38_5.toInt + 1 := ty56
                        have iy56 : 1 ≤ y56.toInt ∧ y56.toInt ≤ 16 := iy56
                        refine lv_iinc (v := y56) (lv' := [(5, .int y56), (4, .int y55), (3, .int v12_3), (0, .ref (ad 0)), (1, .int a0), (2, .int a1)]) hx hb dX13_ranked_83 hl (k := 1) rfl (by rw [ey56]; rfl) (by decide) rfl (fun ls hl => ?_)
                        refine lv_goto (tgt := 38) hx hb dX13_ranked_86 (by decide) ?_
                        exact ih38 y56 y55 E38_ _ _ _ (iv_w iy56 (by decide)) (iv_w iy55 (by decide)) (hx38_0.no (fun q9 => by have q8 : (g15 v38_5.toNatClampNeg).toInt = 1 := q9.2.1; rw [← ey49] at q8; omega) (by have z0 := ln_0; have z1 := ln_1; omega) (by rw [tn_ y56, tn_ v38_5]; omega)) (by have z0 := ln_0; have z1 := ln_1; omega) (by omega) (by first | exact ms_su hx38_3 ty56 (by decide) | omega) hI hKp hs38_0_55 hr38_32 hr38_36 hr38_37 hr38_33 hP hS (lv_sub hl [0, 1, 2, 3, 4, 5] rfl)
                      · --62 not
                        have t57 : ¬ y49.toInt = 0 := ti_ne c51
                        have i58 : 1 ≤ y49.toInt ∧ y49.toInt ≤ 1 := iv_ne_l t57 iy49 (il_ 0)
                        refine lv_aload_n hx hb dX13_ranked_65 rfl (lv_at hl 3 rfl) ?_
                        refine lv_iload hx hb dX13_ranked_66 (lv_at hl 0 rfl) ?_
                        refine lv_iload_n hx hb dX13_ranked_68 rfl (lv_at hl 2 rfl) ?_
                        refine th_i (va_runV (As := [.int v38_5, .int v12_3]) (rest := [.int v38_4]) ⟨hx, hb, hml, hown, hts⟩ (q_isBetterM l dC dI cT ad E38_ H.size v38_5 v12_3 hI i42 i25 (by (try rw [(show xi (E38_ 0) 55 = y17 from vi_e hs38_0_55)]); (try rw [show xi (E38_ 32) = g13 from hr38_32]); (try rw [show xi (E38_ 36) = g14 from hr38_36]); (try rw [show xi (E38_ 33) = g16 from hr38_33]); (try rw [show xi (E38_ 0) 55 = y17 from vi_e hs38_0_55]); exact k20 _ _ (by rw [tn_, tn_]; omega) (by rw [tn_, tn_]; omega))) (cwV 2 hts (gi_V (in_33 _ (zs16 (zs1 (zs0)))) (in_33 _ (zs16 (zs1 (zs1 (zs0))))) (in_33 _ (zs16 (zs1 (zs1 (zs1 (zs0)))))) (in_24 _ (zs4 (zs4 (zs4 (zs1 (zs1 (zs1 (zs0)))))))) (in_32 _ (zs16 (zs1 (zs1 (zs0)))))) rfl rfl rfl ⟨rfl, hz_yX13_isBetter_2⟩ ⟨Nat.le_of_ble_eq_true rfl, Nat.le_of_ble_eq_true rfl⟩) ⟨HW_bl, va_recv hK hP (ci := 14) (q0 := 0) rfl (hI.ob 0 (Nat.le_of_ble_eq_true rfl) rfl), (HW_wi hP hK (WX_D hD) hS hA hEV)⟩ rfl rfl hl.1 rfl (lv_room (Nat.le_of_ble_eq_true rfl)) dX13_ranked_69 ⟨Nat.le_of_ble_eq_true rfl, Nat.le_of_ble_eq_true rfl⟩) (WX_D hD) hS hA (fun r59 E60 H locs hw hP hS => ?_)
                        obtain ⟨hI, kq61, hw⟩ := hw
                        have hKb := hKp
                        have hKp := hKp.tr kq61 (wl_sub rfl rfl)
                        obtain ⟨f62, f63⟩ := hw
                        try rw [(show xi (E38_ 0) 55 = y17 from vi_e hs38_0_55)] at f63
                        have k64 : r59.toInt = 1 ↔ BtP g13 g14 g16 y17.toNatClampNeg v38_5.toNatClampNeg v12_3.toNatClampNeg := by have h9 := f63; (try rw [show xi (E38_ 32) = g13 from hr38_32] at h9); (try rw [show xi (E38_ 36) = g14 from hr38_36] at h9); (try rw [show xi (E38_ 33) = g16 from hr38_33] at h9); (try rw [show xi (E38_ 0) 55 = y17 from vi_e hs38_0_55] at h9); exact h9
                        refine lv_if_eq (tgt := 79) hx hb dX13_ranked_72 (by decide) (fun c65 => ?_) (fun c65 => ?_)
                        · --72 taken
                          have t66 : r59.toInt = 0 := ti_eq c65
                          have i67 : 0 ≤ r59.toInt ∧ r59.toInt ≤ 0 := iv_eqi t66 f62 (il_ 0) (by decide)
                          refine lv_iconst (v := 0) hx hb dX13_ranked_79 (by decide) ?_
                          have i68 : 0 ≤ v38_4.toInt ∧ v38_4.toInt ≤ 15 := by omega
                          refine lv_iadd hx hb dX13_ranked_80 ?_
                          refine lv_topi (fun y69 ey69 => ?_)
                          obtain ⟨ty69, iy69⟩ := ti_add (e := 0) (f := 15) i68 ln_0 ey69 (by decide)
                          have ty69 : y69.toInt = v38_4.toInt + 0 := ty69
                          have iy69 : 0 ≤ y69.toInt ∧ y69.toInt ≤ 15 := iy69
                          refine lv_istore (lv' := [(4, .int y69), (5, .int v38_5), (3, .int v12_3), (0, .ref (ad 0)), (1, .int a0), (2, .int a1)]) hx hb dX13_ranked_81 hl (by decide) rfl (fun ls hl => ?_)
                          obtain ⟨y70, ey70⟩ : ∃ y : Int32, y = v38_5 + (1 : Int32) := ⟨_, rfl⟩
                          obtain ⟨ty70, iy70⟩ := ti_add (e := 1) (f := 16) i42 ln_1 ey70 (by decide)
                          have ty70 : y70.toInt = v38_5.toInt + 1 := ty70
                          have iy70 : 1 ≤ y70.toInt ∧ y70.toInt ≤ 16 := iy70
                          refine lv_iinc (v := y70) (lv' := [(5, .int y70), (4, .int y69), (3, .int v12_3), (0, .ref (ad 0)), (1, .int a0), (2, .int a1)]) hx hb dX13_ranked_83 hl (k := 1) rfl (by rw [ey70]; rfl) (by decide) rfl (fun ls hl => ?_)
                          refine lv_goto (tgt := 38) hx hb dX13_ranked_86 (by decide) ?_
                          exact ih38 y70 y69 E60 _ _ _ (iv_w iy70 (by decide)) (iv_w iy69 (by decide)) (hx38_0.no (fun q9 => by have q8 := (k64).mpr q9.2.2; omega) (by have z0 := ln_0; have z1 := ln_1; omega) (by rw [tn_ y70, tn_ v38_5]; omega)) (by have z0 := ln_0; have z1 := ln_1; omega) (by omega) (by first | exact ms_su hx38_3 ty70 (by decide) | omega) hI hKp ((kq61 0 55 rfl).trans hs38_0_55) ((kq61.ef 32 (fun _ => rfl)).trans hr38_32) ((kq61.ef 36 (fun _ => rfl)).trans hr38_36) ((kq61.ef 37 (fun _ => rfl)).trans hr38_37) ((kq61.ef 33 (fun _ => rfl)).trans hr38_33) hP hS (lv_sub hl [0, 1, 2, 3, 4, 5] rfl)
                        · --72 not
                          have t71 : ¬ r59.toInt = 0 := ti_ne c65
                          have i72 : 1 ≤ r59.toInt ∧ r59.toInt ≤ 1 := iv_ne_l t71 f62 (il_ 0)
                          refine lv_iconst (v := 1) hx hb dX13_ranked_75 (by decide) ?_
                          refine lv_goto (tgt := 80) hx hb dX13_ranked_76 (by decide) ?_
                          have i73 : 0 ≤ v38_4.toInt ∧ v38_4.toInt ≤ 15 := by omega
                          refine lv_iadd hx hb dX13_ranked_80 ?_
                          refine lv_topi (fun y74 ey74 => ?_)
                          obtain ⟨ty74, iy74⟩ := ti_add (e := 1) (f := 16) i73 ln_1 ey74 (by decide)
                          have ty74 : y74.toInt = v38_4.toInt + 1 := ty74
                          have iy74 : 1 ≤ y74.toInt ∧ y74.toInt ≤ 16 := iy74
                          refine lv_istore (lv' := [(4, .int y74), (5, .int v38_5), (3, .int v12_3), (0, .ref (ad 0)), (1, .int a0), (2, .int a1)]) hx hb dX13_ranked_81 hl (by decide) rfl (fun ls hl => ?_)
                          obtain ⟨y75, ey75⟩ : ∃ y : Int32, y = v38_5 + (1 : Int32) := ⟨_, rfl⟩
                          obtain ⟨ty75, iy75⟩ := ti_add (e := 1) (f := 16) i42 ln_1 ey75 (by decide)
                          have ty75 : y75.toInt = v38_5.toInt + 1 := ty75
                          have iy75 : 1 ≤ y75.toInt ∧ y75.toInt ≤ 16 := iy75
                          refine lv_iinc (v := y75) (lv' := [(5, .int y75), (4, .int y74), (3, .int v12_3), (0, .ref (ad 0)), (1, .int a0), (2, .int a1)]) hx hb dX13_ranked_83 hl (k := 1) rfl (by rw [ey75]; rfl) (by decide) rfl (fun ls hl => ?_)
                          refine lv_goto (tgt := 38) hx hb dX13_ranked_86 (by decide) ?_
                          exact ih38 y75 y74 E60 _ _ _ (iv_w iy75 (by decide)) (iv_w iy74 (by decide)) (hx38_0.one (show bqF (fun b9 : Nat => (g15 b9).toInt = 1) (fun x9 y9 : Nat => BtP g13 g14 g16 y17.toNatClampNeg x9 y9) v12_3.toNatClampNeg v38_5.toNatClampNeg from ⟨(fun q9 => by rw [tn_, tn_] at q9; omega), (show (g15 v38_5.toNatClampNeg).toInt = 1 by rw [← ey49]; omega), (k64).mp (by omega)⟩) (by have z0 := ln_0; have z1 := ln_1; omega) (by rw [tn_ y75, tn_ v38_5]; omega)) (by have z0 := ln_0; have z1 := ln_1; omega) (by omega) (by first | exact ms_su hx38_3 ty75 (by decide) | omega) hI hKp ((kq61 0 55 rfl).trans hs38_0_55) ((kq61.ef 32 (fun _ => rfl)).trans hr38_32) ((kq61.ef 36 (fun _ => rfl)).trans hr38_36) ((kq61.ef 37 (fun _ => rfl)).trans hr38_37) ((kq61.ef 33 (fun _ => rfl)).trans hr38_33) hP hS (lv_sub hl [0, 1, 2, 3, 4, 5] rfl)
              exact hL38 (17) (0 : Int32) (0 : Int32) E12_ _ _ _ (iv_w ln_0 (by decide)) (iv_w ln_0 (by decide)) (show CnR (bqF (fun b9 : Nat => (g15 b9).toInt = 1) (fun x9 y9 : Nat => BtP g13 g14 g16 y17.toNatClampNeg x9 y9) v12_3.toNatClampNeg) 0 (0 : Int32).toInt from rfl) (by have z9 := ln_0; omega) (by have z9 := ln_0; omega) (by have h9 := ln_0; first | exact ms_bu h9.1 (by decide) | omega) hI hKp hs12_0_55 hr12_32 hr12_36 hr12_37 hr12_33 hP hS (lv_sub hl [0, 1, 2, 3, 4, 5] rfl)
            · --26 not
              have t76 : y27.toInt = 0 := ti_eq c29
              have i77 : 0 ≤ y27.toInt ∧ y27.toInt ≤ 0 := iv_eqi t76 iy27 (il_ 0) (by decide)
              refine lv_goto (tgt := 97) hx hb dX13_ranked_29 (by decide) ?_
              obtain ⟨y78, ey78⟩ : ∃ y : Int32, y = v12_3 + (1 : Int32) := ⟨_, rfl⟩
              obtain ⟨ty78, iy78⟩ := ti_add (e := 1) (f := 16) i25 ln_1 ey78 (by decide)
              have ty78 : y78.toInt = v12_3.toInt + 1 := ty78
              have iy78 : 1 ≤ y78.toInt ∧ y78.toInt ≤ 16 := iy78
              refine lv_iinc (v := y78) (lv' := [(3, .int y78), (0, .ref (ad 0)), (1, .int a0), (2, .int a1)]) hx hb dX13_ranked_97 hl (k := 0) rfl (by rw [ey78]; rfl) (by decide) rfl (fun ls hl => ?_)
              refine lv_goto (tgt := 12) hx hb dX13_ranked_100 (by decide) ?_
              exact ih12 y78 E12_ _ _ _ (iv_w iy78 (by decide)) (fun b9 h9 => dite (b9 = v12_3.toNatClampNeg) (fun q7 => by rw [q7]; exact (fun q9 _ => by exfalso; rw [← ey27] at q9; omega)) (fun q7 => hx12_0 b9 (by rw [tn_] at h9 q7 ⊢; omega))) (by omega) (by first | exact ms_su hx12_2 ty78 (by decide) | omega) hI hKp hs12_0_55 hr12_32 hr12_36 hr12_37 hr12_33 hP hS (lv_sub hl [0, 1, 2, 3] rfl)
      exact hL12 (17) (0 : Int32) E6 _ _ _ (iv_w ln_0 (by decide)) (fun b9 h9 => absurd h9 (Nat.not_lt_zero b9)) (by have z9 := ln_0; omega) (by have h9 := ln_0; first | exact ms_bu h9.1 (by decide) | omega) hI hKp fy17 hg13 hg14 hg15 hg16 hP hS (lv_sub hl [0, 1, 2, 3] rfl)
    · --5 not
      exact absurd c21 (by decide)
  · -- scoreM, case 1
    obtain ⟨rfl, f79⟩ := hw
    have i80 : 0 ≤ (xi (E 0) 1).toInt ∧ (xi (E 0) 1).toInt ≤ 400 := (show 0 ≤ (xi (E 0) 1).toInt ∧ (xi (E 0) 1).toInt ≤ 400 from hI0.iv 0 (Nat.le_of_ble_eq_true rfl) rfl (Nat.le_of_ble_eq_true rfl) rfl)
    have i81 : 0 ≤ (xi (E 0) 8).toInt ∧ (xi (E 0) 8).toInt ≤ 16 := (show 0 ≤ (xi (E 0) 8).toInt ∧ (xi (E 0) 8).toInt ≤ 16 from hI0.iv 0 (Nat.le_of_ble_eq_true rfl) rfl (Nat.le_of_ble_eq_true rfl) rfl)
    have i82 : 0 ≤ (xi (E 0) 46).toInt ∧ (xi (E 0) 46).toInt ≤ 20 := (show 0 ≤ (xi (E 0) 46).toInt ∧ (xi (E 0) 46).toInt ≤ 20 from hI0.iv 0 (Nat.le_of_ble_eq_true rfl) rfl (Nat.le_of_ble_eq_true rfl) rfl)
    refine lv_if_ne (tgt := 10) hx hb dX13_ranked_5 (by decide) (fun c83 => ?_) (fun c83 => ?_)
    · --5 taken
      exact absurd c83 (by decide)
    · --5 not
      refine lv_iconst (v := -1) hx hb dX13_ranked_8 (by decide) ?_
      rw [hQ]
      exact W.iret (v := (-1)) hx hb hr (fun t ht hW => ⟨⟨(-1), E6, rfl, ⟨hI, hKp, ⟨fun g9 => by exfalso; omega, fun _ => rfl⟩⟩, by show va_P (dC, dI) vwCl (WX 72 ad E6) t.heap; rw [ht]; exact hP⟩, hS.F ht⟩) hS.2.2 dX13_ranked_9
