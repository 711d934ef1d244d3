set_option maxRecDepth 100000 in
theorem zh_dX13_secondsOf_0_0 : zc cX13_secondsOf 0 [42, 180, 0, 92, 42, 27, 28, 29, 182, 1, 154, 46, 172] = true := by decide +kernel
set_option maxRecDepth 100000 in
theorem zh_dX13_correct_0_0 : zc cX13_correct 0 [42, 180, 0, 56, 27, 46, 154, 0, 13, 28, 29, 104, 17, 3, 232, 108] = true := by decide +kernel
set_option maxRecDepth 100000 in
theorem zh_dX13_correct_16_16 : zc cX13_correct 16 [167, 0, 20, 28, 29, 17, 3, 232, 100, 42, 180, 0, 53, 27, 46, 104] = true := by decide +kernel
set_option maxRecDepth 100000 in
theorem zh_dX13_correct_32_32 : zc cX13_correct 32 [16, 10, 108, 96, 172] = true := by decide +kernel
set_option maxRecDepth 100000 in
theorem zh_dX13_correctedOf_0_0 : zc cX13_correctedOf 0 [42, 27, 42, 27, 28, 29, 182, 1, 166, 42, 28, 42, 180, 0, 50, 27] = true := by decide +kernel
set_option maxRecDepth 100000 in
theorem zh_dX13_correctedOf_16_16 : zc cX13_correctedOf 16 [46, 29, 182, 1, 131, 182, 1, 169, 172] = true := by decide +kernel
set_option maxRecDepth 100000 in
theorem zh_dX13_corrected_0_0 : zc cX13_corrected 0 [42, 27, 28, 29, 182, 1, 160, 153, 0, 23, 42, 27, 28, 29, 182, 1] = true := by decide +kernel
set_option maxRecDepth 100000 in
theorem zh_dX13_corrected_14_16 : zc cX13_corrected 16 [163, 154, 0, 13, 42, 27, 28, 29, 182, 1, 172, 167, 0, 6, 19, 1] = true := by decide +kernel
set_option maxRecDepth 100000 in
theorem zh_dX13_corrected_30_32 : zc cX13_corrected 32 [175, 172] = true := by decide +kernel
set_option maxRecDepth 100000 in
theorem zh_dX13_placeOf_0_0 : zc cX13_placeOf 0 [42, 27, 28, 29, 182, 1, 172, 54, 4, 3, 54, 5, 3, 54, 6, 3] = true := by decide +kernel
set_option maxRecDepth 100000 in
theorem zh_dX13_placeOf_16_16 : zc cX13_placeOf 16 [54, 7, 21, 7, 42, 180, 0, 239, 162, 0, 67, 42, 27, 21, 7, 29] = true := by decide +kernel
set_option maxRecDepth 100000 in
theorem zh_dX13_placeOf_32_32 : zc cX13_placeOf 32 [182, 1, 163, 153, 0, 6, 167, 0, 47, 42, 27, 21, 7, 29, 182, 1] = true := by decide +kernel
set_option maxRecDepth 100000 in
theorem zh_dX13_placeOf_46_48 : zc cX13_placeOf 48 [172, 54, 8, 21, 5, 21, 8, 21, 4, 162, 0, 7, 4, 167, 0, 4] = true := by decide +kernel
set_option maxRecDepth 100000 in
theorem zh_dX13_placeOf_64_64 : zc cX13_placeOf 64 [3, 96, 54, 5, 21, 6, 21, 8, 21, 4, 160, 0, 7, 4, 167, 0] = true := by decide +kernel
set_option maxRecDepth 100000 in
theorem zh_dX13_placeOf_78_80 : zc cX13_placeOf 80 [4, 3, 96, 54, 6, 132, 7, 1, 167, 255, 186, 8, 5, 21, 5, 104] = true := by decide +kernel
set_option maxRecDepth 100000 in
theorem zh_dX13_placeOf_96_96 : zc cX13_placeOf 96 [4, 96, 21, 6, 96, 104, 172] = true := by decide +kernel
set_option maxRecDepth 100000 in
theorem zh_dX13_placed_0_0 : zc cX13_placed 0 [42, 27, 28, 29, 182, 1, 160, 153, 0, 23, 42, 27, 28, 29, 182, 1] = true := by decide +kernel
set_option maxRecDepth 100000 in
theorem zh_dX13_placed_14_16 : zc cX13_placed 16 [163, 154, 0, 13, 42, 27, 28, 29, 182, 1, 176, 167, 0, 4, 2, 172] = true := by decide +kernel
theorem dX13_secondsOf_0 : decode cX13_secondsOf 0 = .ok (.aload_n 0, 1) := zo_42 (zi_at zh_dX13_secondsOf_0_0 0 rfl)
theorem dX13_secondsOf_1 : decode cX13_secondsOf 1 = .ok (.getfield 92, 3) := zo_180 (zi_at zh_dX13_secondsOf_0_0 1 rfl) (zi_at zh_dX13_secondsOf_0_0 2 rfl) (zi_at zh_dX13_secondsOf_0_0 3 rfl) rfl
theorem dX13_secondsOf_4 : decode cX13_secondsOf 4 = .ok (.aload_n 0, 1) := zo_42 (zi_at zh_dX13_secondsOf_0_0 4 rfl)
theorem dX13_secondsOf_5 : decode cX13_secondsOf 5 = .ok (.iload_n 1, 1) := zo_27 (zi_at zh_dX13_secondsOf_0_0 5 rfl)
theorem dX13_secondsOf_6 : decode cX13_secondsOf 6 = .ok (.iload_n 2, 1) := zo_28 (zi_at zh_dX13_secondsOf_0_0 6 rfl)
theorem dX13_secondsOf_7 : decode cX13_secondsOf 7 = .ok (.iload_n 3, 1) := zo_29 (zi_at zh_dX13_secondsOf_0_0 7 rfl)
theorem dX13_secondsOf_8 : decode cX13_secondsOf 8 = .ok (.invokevirtual 410, 3) := zo_182 (zi_at zh_dX13_secondsOf_0_0 8 rfl) (zi_at zh_dX13_secondsOf_0_0 9 rfl) (zi_at zh_dX13_secondsOf_0_0 10 rfl) rfl
theorem dX13_secondsOf_11 : decode cX13_secondsOf 11 = .ok (.iaload, 1) := zo_46 (zi_at zh_dX13_secondsOf_0_0 11 rfl)
theorem dX13_secondsOf_12 : decode cX13_secondsOf 12 = .ok (.ireturn, 1) := zo_172 (zi_at zh_dX13_secondsOf_0_0 12 rfl)
theorem dX13_correct_0 : decode cX13_correct 0 = .ok (.aload_n 0, 1) := zo_42 (zi_at zh_dX13_correct_0_0 0 rfl)
theorem dX13_correct_1 : decode cX13_correct 1 = .ok (.getfield 56, 3) := zo_180 (zi_at zh_dX13_correct_0_0 1 rfl) (zi_at zh_dX13_correct_0_0 2 rfl) (zi_at zh_dX13_correct_0_0 3 rfl) rfl
theorem dX13_correct_4 : decode cX13_correct 4 = .ok (.iload_n 1, 1) := zo_27 (zi_at zh_dX13_correct_0_0 4 rfl)
theorem dX13_correct_5 : decode cX13_correct 5 = .ok (.iaload, 1) := zo_46 (zi_at zh_dX13_correct_0_0 5 rfl)
theorem dX13_correct_6 : decode cX13_correct 6 = .ok (.ifCond .ne 13, 3) := zo_154 (zi_at zh_dX13_correct_0_0 6 rfl) (zi_at zh_dX13_correct_0_0 7 rfl) (zi_at zh_dX13_correct_0_0 8 rfl) rfl
theorem dX13_correct_9 : decode cX13_correct 9 = .ok (.iload_n 2, 1) := zo_28 (zi_at zh_dX13_correct_0_0 9 rfl)
theorem dX13_correct_10 : decode cX13_correct 10 = .ok (.iload_n 3, 1) := zo_29 (zi_at zh_dX13_correct_0_0 10 rfl)
theorem dX13_correct_11 : decode cX13_correct 11 = .ok (.imul, 1) := zo_104 (zi_at zh_dX13_correct_0_0 11 rfl)
theorem dX13_correct_12 : decode cX13_correct 12 = .ok (.sipush 1000, 3) := zo_17 (zi_at zh_dX13_correct_0_0 12 rfl) (zi_at zh_dX13_correct_0_0 13 rfl) (zi_at zh_dX13_correct_0_0 14 rfl) rfl
theorem dX13_correct_15 : decode cX13_correct 15 = .ok (.idiv, 1) := zo_108 (zi_at zh_dX13_correct_0_0 15 rfl)
theorem dX13_correct_16 : decode cX13_correct 16 = .ok (.goto 20, 3) := zo_167 (zi_at zh_dX13_correct_16_16 0 rfl) (zi_at zh_dX13_correct_16_16 1 rfl) (zi_at zh_dX13_correct_16_16 2 rfl) rfl
theorem dX13_correct_19 : decode cX13_correct 19 = .ok (.iload_n 2, 1) := zo_28 (zi_at zh_dX13_correct_16_16 3 rfl)
theorem dX13_correct_20 : decode cX13_correct 20 = .ok (.iload_n 3, 1) := zo_29 (zi_at zh_dX13_correct_16_16 4 rfl)
theorem dX13_correct_21 : decode cX13_correct 21 = .ok (.sipush 1000, 3) := zo_17 (zi_at zh_dX13_correct_16_16 5 rfl) (zi_at zh_dX13_correct_16_16 6 rfl) (zi_at zh_dX13_correct_16_16 7 rfl) rfl
theorem dX13_correct_24 : decode cX13_correct 24 = .ok (.isub, 1) := zo_100 (zi_at zh_dX13_correct_16_16 8 rfl)
theorem dX13_correct_25 : decode cX13_correct 25 = .ok (.aload_n 0, 1) := zo_42 (zi_at zh_dX13_correct_16_16 9 rfl)
theorem dX13_correct_26 : decode cX13_correct 26 = .ok (.getfield 53, 3) := zo_180 (zi_at zh_dX13_correct_16_16 10 rfl) (zi_at zh_dX13_correct_16_16 11 rfl) (zi_at zh_dX13_correct_16_16 12 rfl) rfl
theorem dX13_correct_29 : decode cX13_correct 29 = .ok (.iload_n 1, 1) := zo_27 (zi_at zh_dX13_correct_16_16 13 rfl)
theorem dX13_correct_30 : decode cX13_correct 30 = .ok (.iaload, 1) := zo_46 (zi_at zh_dX13_correct_16_16 14 rfl)
theorem dX13_correct_31 : decode cX13_correct 31 = .ok (.imul, 1) := zo_104 (zi_at zh_dX13_correct_16_16 15 rfl)
theorem dX13_correct_32 : decode cX13_correct 32 = .ok (.bipush 10, 2) := zo_16 (zi_at zh_dX13_correct_32_32 0 rfl) (zi_at zh_dX13_correct_32_32 1 rfl) rfl
theorem dX13_correct_34 : decode cX13_correct 34 = .ok (.idiv, 1) := zo_108 (zi_at zh_dX13_correct_32_32 2 rfl)
theorem dX13_correct_35 : decode cX13_correct 35 = .ok (.iadd, 1) := zo_96 (zi_at zh_dX13_correct_32_32 3 rfl)
theorem dX13_correct_36 : decode cX13_correct 36 = .ok (.ireturn, 1) := zo_172 (zi_at zh_dX13_correct_32_32 4 rfl)
theorem dX13_correctedOf_0 : decode cX13_correctedOf 0 = .ok (.aload_n 0, 1) := zo_42 (zi_at zh_dX13_correctedOf_0_0 0 rfl)
theorem dX13_correctedOf_1 : decode cX13_correctedOf 1 = .ok (.iload_n 1, 1) := zo_27 (zi_at zh_dX13_correctedOf_0_0 1 rfl)
theorem dX13_correctedOf_2 : decode cX13_correctedOf 2 = .ok (.aload_n 0, 1) := zo_42 (zi_at zh_dX13_correctedOf_0_0 2 rfl)
theorem dX13_correctedOf_3 : decode cX13_correctedOf 3 = .ok (.iload_n 1, 1) := zo_27 (zi_at zh_dX13_correctedOf_0_0 3 rfl)
theorem dX13_correctedOf_4 : decode cX13_correctedOf 4 = .ok (.iload_n 2, 1) := zo_28 (zi_at zh_dX13_correctedOf_0_0 4 rfl)
theorem dX13_correctedOf_5 : decode cX13_correctedOf 5 = .ok (.iload_n 3, 1) := zo_29 (zi_at zh_dX13_correctedOf_0_0 5 rfl)
theorem dX13_correctedOf_6 : decode cX13_correctedOf 6 = .ok (.invokevirtual 422, 3) := zo_182 (zi_at zh_dX13_correctedOf_0_0 6 rfl) (zi_at zh_dX13_correctedOf_0_0 7 rfl) (zi_at zh_dX13_correctedOf_0_0 8 rfl) rfl
theorem dX13_correctedOf_9 : decode cX13_correctedOf 9 = .ok (.aload_n 0, 1) := zo_42 (zi_at zh_dX13_correctedOf_0_0 9 rfl)
theorem dX13_correctedOf_10 : decode cX13_correctedOf 10 = .ok (.iload_n 2, 1) := zo_28 (zi_at zh_dX13_correctedOf_0_0 10 rfl)
theorem dX13_correctedOf_11 : decode cX13_correctedOf 11 = .ok (.aload_n 0, 1) := zo_42 (zi_at zh_dX13_correctedOf_0_0 11 rfl)
theorem dX13_correctedOf_12 : decode cX13_correctedOf 12 = .ok (.getfield 50, 3) := zo_180 (zi_at zh_dX13_correctedOf_0_0 12 rfl) (zi_at zh_dX13_correctedOf_0_0 13 rfl) (zi_at zh_dX13_correctedOf_0_0 14 rfl) rfl
theorem dX13_correctedOf_15 : decode cX13_correctedOf 15 = .ok (.iload_n 1, 1) := zo_27 (zi_at zh_dX13_correctedOf_0_0 15 rfl)
theorem dX13_correctedOf_16 : decode cX13_correctedOf 16 = .ok (.iaload, 1) := zo_46 (zi_at zh_dX13_correctedOf_16_16 0 rfl)
theorem dX13_correctedOf_17 : decode cX13_correctedOf 17 = .ok (.iload_n 3, 1) := zo_29 (zi_at zh_dX13_correctedOf_16_16 1 rfl)
theorem dX13_correctedOf_18 : decode cX13_correctedOf 18 = .ok (.invokevirtual 387, 3) := zo_182 (zi_at zh_dX13_correctedOf_16_16 2 rfl) (zi_at zh_dX13_correctedOf_16_16 3 rfl) (zi_at zh_dX13_correctedOf_16_16 4 rfl) rfl
theorem dX13_correctedOf_21 : decode cX13_correctedOf 21 = .ok (.invokevirtual 425, 3) := zo_182 (zi_at zh_dX13_correctedOf_16_16 5 rfl) (zi_at zh_dX13_correctedOf_16_16 6 rfl) (zi_at zh_dX13_correctedOf_16_16 7 rfl) rfl
theorem dX13_correctedOf_24 : decode cX13_correctedOf 24 = .ok (.ireturn, 1) := zo_172 (zi_at zh_dX13_correctedOf_16_16 8 rfl)
theorem dX13_corrected_0 : decode cX13_corrected 0 = .ok (.aload_n 0, 1) := zo_42 (zi_at zh_dX13_corrected_0_0 0 rfl)
theorem dX13_corrected_1 : decode cX13_corrected 1 = .ok (.iload_n 1, 1) := zo_27 (zi_at zh_dX13_corrected_0_0 1 rfl)
theorem dX13_corrected_2 : decode cX13_corrected 2 = .ok (.iload_n 2, 1) := zo_28 (zi_at zh_dX13_corrected_0_0 2 rfl)
theorem dX13_corrected_3 : decode cX13_corrected 3 = .ok (.iload_n 3, 1) := zo_29 (zi_at zh_dX13_corrected_0_0 3 rfl)
theorem dX13_corrected_4 : decode cX13_corrected 4 = .ok (.invokevirtual 416, 3) := zo_182 (zi_at zh_dX13_corrected_0_0 4 rfl) (zi_at zh_dX13_corrected_0_0 5 rfl) (zi_at zh_dX13_corrected_0_0 6 rfl) rfl
theorem dX13_corrected_7 : decode cX13_corrected 7 = .ok (.ifCond .eq 23, 3) := zo_153 (zi_at zh_dX13_corrected_0_0 7 rfl) (zi_at zh_dX13_corrected_0_0 8 rfl) (zi_at zh_dX13_corrected_0_0 9 rfl) rfl
theorem dX13_corrected_10 : decode cX13_corrected 10 = .ok (.aload_n 0, 1) := zo_42 (zi_at zh_dX13_corrected_0_0 10 rfl)
theorem dX13_corrected_11 : decode cX13_corrected 11 = .ok (.iload_n 1, 1) := zo_27 (zi_at zh_dX13_corrected_0_0 11 rfl)
theorem dX13_corrected_12 : decode cX13_corrected 12 = .ok (.iload_n 2, 1) := zo_28 (zi_at zh_dX13_corrected_0_0 12 rfl)
theorem dX13_corrected_13 : decode cX13_corrected 13 = .ok (.iload_n 3, 1) := zo_29 (zi_at zh_dX13_corrected_0_0 13 rfl)
theorem dX13_corrected_14 : decode cX13_corrected 14 = .ok (.invokevirtual 419, 3) := zo_182 (zi_at zh_dX13_corrected_0_0 14 rfl) (zi_at zh_dX13_corrected_0_0 15 rfl) (zi_at zh_dX13_corrected_14_16 0 rfl) rfl
theorem dX13_corrected_17 : decode cX13_corrected 17 = .ok (.ifCond .ne 13, 3) := zo_154 (zi_at zh_dX13_corrected_14_16 1 rfl) (zi_at zh_dX13_corrected_14_16 2 rfl) (zi_at zh_dX13_corrected_14_16 3 rfl) rfl
theorem dX13_corrected_20 : decode cX13_corrected 20 = .ok (.aload_n 0, 1) := zo_42 (zi_at zh_dX13_corrected_14_16 4 rfl)
theorem dX13_corrected_21 : decode cX13_corrected 21 = .ok (.iload_n 1, 1) := zo_27 (zi_at zh_dX13_corrected_14_16 5 rfl)
theorem dX13_corrected_22 : decode cX13_corrected 22 = .ok (.iload_n 2, 1) := zo_28 (zi_at zh_dX13_corrected_14_16 6 rfl)
theorem dX13_corrected_23 : decode cX13_corrected 23 = .ok (.iload_n 3, 1) := zo_29 (zi_at zh_dX13_corrected_14_16 7 rfl)
theorem dX13_corrected_24 : decode cX13_corrected 24 = .ok (.invokevirtual 428, 3) := zo_182 (zi_at zh_dX13_corrected_14_16 8 rfl) (zi_at zh_dX13_corrected_14_16 9 rfl) (zi_at zh_dX13_corrected_14_16 10 rfl) rfl
theorem dX13_corrected_27 : decode cX13_corrected 27 = .ok (.goto 6, 3) := zo_167 (zi_at zh_dX13_corrected_14_16 11 rfl) (zi_at zh_dX13_corrected_14_16 12 rfl) (zi_at zh_dX13_corrected_14_16 13 rfl) rfl
theorem dX13_corrected_30 : decode cX13_corrected 30 = .ok (.ldc_w 431, 3) := zo_19 (zi_at zh_dX13_corrected_14_16 14 rfl) (zi_at zh_dX13_corrected_14_16 15 rfl) (zi_at zh_dX13_corrected_30_32 0 rfl) rfl
theorem dX13_corrected_33 : decode cX13_corrected 33 = .ok (.ireturn, 1) := zo_172 (zi_at zh_dX13_corrected_30_32 1 rfl)
theorem dX13_placeOf_0 : decode cX13_placeOf 0 = .ok (.aload_n 0, 1) := zo_42 (zi_at zh_dX13_placeOf_0_0 0 rfl)
theorem dX13_placeOf_1 : decode cX13_placeOf 1 = .ok (.iload_n 1, 1) := zo_27 (zi_at zh_dX13_placeOf_0_0 1 rfl)
theorem dX13_placeOf_2 : decode cX13_placeOf 2 = .ok (.iload_n 2, 1) := zo_28 (zi_at zh_dX13_placeOf_0_0 2 rfl)
theorem dX13_placeOf_3 : decode cX13_placeOf 3 = .ok (.iload_n 3, 1) := zo_29 (zi_at zh_dX13_placeOf_0_0 3 rfl)
theorem dX13_placeOf_4 : decode cX13_placeOf 4 = .ok (.invokevirtual 428, 3) := zo_182 (zi_at zh_dX13_placeOf_0_0 4 rfl) (zi_at zh_dX13_placeOf_0_0 5 rfl) (zi_at zh_dX13_placeOf_0_0 6 rfl) rfl
theorem dX13_placeOf_7 : decode cX13_placeOf 7 = .ok (.istore 4, 2) := zo_54 (zi_at zh_dX13_placeOf_0_0 7 rfl) (zi_at zh_dX13_placeOf_0_0 8 rfl)
theorem dX13_placeOf_9 : decode cX13_placeOf 9 = .ok (.iconst 0, 1) := zo_3 (zi_at zh_dX13_placeOf_0_0 9 rfl)
theorem dX13_placeOf_10 : decode cX13_placeOf 10 = .ok (.istore 5, 2) := zo_54 (zi_at zh_dX13_placeOf_0_0 10 rfl) (zi_at zh_dX13_placeOf_0_0 11 rfl)
theorem dX13_placeOf_12 : decode cX13_placeOf 12 = .ok (.iconst 0, 1) := zo_3 (zi_at zh_dX13_placeOf_0_0 12 rfl)
theorem dX13_placeOf_13 : decode cX13_placeOf 13 = .ok (.istore 6, 2) := zo_54 (zi_at zh_dX13_placeOf_0_0 13 rfl) (zi_at zh_dX13_placeOf_0_0 14 rfl)
theorem dX13_placeOf_15 : decode cX13_placeOf 15 = .ok (.iconst 0, 1) := zo_3 (zi_at zh_dX13_placeOf_0_0 15 rfl)
theorem dX13_placeOf_16 : decode cX13_placeOf 16 = .ok (.istore 7, 2) := zo_54 (zi_at zh_dX13_placeOf_16_16 0 rfl) (zi_at zh_dX13_placeOf_16_16 1 rfl)
theorem dX13_placeOf_18 : decode cX13_placeOf 18 = .ok (.iload 7, 2) := zo_21 (zi_at zh_dX13_placeOf_16_16 2 rfl) (zi_at zh_dX13_placeOf_16_16 3 rfl)
theorem dX13_placeOf_20 : decode cX13_placeOf 20 = .ok (.aload_n 0, 1) := zo_42 (zi_at zh_dX13_placeOf_16_16 4 rfl)
theorem dX13_placeOf_21 : decode cX13_placeOf 21 = .ok (.getfield 239, 3) := zo_180 (zi_at zh_dX13_placeOf_16_16 5 rfl) (zi_at zh_dX13_placeOf_16_16 6 rfl) (zi_at zh_dX13_placeOf_16_16 7 rfl) rfl
theorem dX13_placeOf_24 : decode cX13_placeOf 24 = .ok (.if_icmp .ge 67, 3) := zo_162 (zi_at zh_dX13_placeOf_16_16 8 rfl) (zi_at zh_dX13_placeOf_16_16 9 rfl) (zi_at zh_dX13_placeOf_16_16 10 rfl) rfl
theorem dX13_placeOf_27 : decode cX13_placeOf 27 = .ok (.aload_n 0, 1) := zo_42 (zi_at zh_dX13_placeOf_16_16 11 rfl)
theorem dX13_placeOf_28 : decode cX13_placeOf 28 = .ok (.iload_n 1, 1) := zo_27 (zi_at zh_dX13_placeOf_16_16 12 rfl)
theorem dX13_placeOf_29 : decode cX13_placeOf 29 = .ok (.iload 7, 2) := zo_21 (zi_at zh_dX13_placeOf_16_16 13 rfl) (zi_at zh_dX13_placeOf_16_16 14 rfl)
theorem dX13_placeOf_31 : decode cX13_placeOf 31 = .ok (.iload_n 3, 1) := zo_29 (zi_at zh_dX13_placeOf_16_16 15 rfl)
theorem dX13_placeOf_32 : decode cX13_placeOf 32 = .ok (.invokevirtual 419, 3) := zo_182 (zi_at zh_dX13_placeOf_32_32 0 rfl) (zi_at zh_dX13_placeOf_32_32 1 rfl) (zi_at zh_dX13_placeOf_32_32 2 rfl) rfl
theorem dX13_placeOf_35 : decode cX13_placeOf 35 = .ok (.ifCond .eq 6, 3) := zo_153 (zi_at zh_dX13_placeOf_32_32 3 rfl) (zi_at zh_dX13_placeOf_32_32 4 rfl) (zi_at zh_dX13_placeOf_32_32 5 rfl) rfl
theorem dX13_placeOf_38 : decode cX13_placeOf 38 = .ok (.goto 47, 3) := zo_167 (zi_at zh_dX13_placeOf_32_32 6 rfl) (zi_at zh_dX13_placeOf_32_32 7 rfl) (zi_at zh_dX13_placeOf_32_32 8 rfl) rfl
theorem dX13_placeOf_41 : decode cX13_placeOf 41 = .ok (.aload_n 0, 1) := zo_42 (zi_at zh_dX13_placeOf_32_32 9 rfl)
theorem dX13_placeOf_42 : decode cX13_placeOf 42 = .ok (.iload_n 1, 1) := zo_27 (zi_at zh_dX13_placeOf_32_32 10 rfl)
theorem dX13_placeOf_43 : decode cX13_placeOf 43 = .ok (.iload 7, 2) := zo_21 (zi_at zh_dX13_placeOf_32_32 11 rfl) (zi_at zh_dX13_placeOf_32_32 12 rfl)
theorem dX13_placeOf_45 : decode cX13_placeOf 45 = .ok (.iload_n 3, 1) := zo_29 (zi_at zh_dX13_placeOf_32_32 13 rfl)
theorem dX13_placeOf_46 : decode cX13_placeOf 46 = .ok (.invokevirtual 428, 3) := zo_182 (zi_at zh_dX13_placeOf_32_32 14 rfl) (zi_at zh_dX13_placeOf_32_32 15 rfl) (zi_at zh_dX13_placeOf_46_48 0 rfl) rfl
theorem dX13_placeOf_49 : decode cX13_placeOf 49 = .ok (.istore 8, 2) := zo_54 (zi_at zh_dX13_placeOf_46_48 1 rfl) (zi_at zh_dX13_placeOf_46_48 2 rfl)
theorem dX13_placeOf_51 : decode cX13_placeOf 51 = .ok (.iload 5, 2) := zo_21 (zi_at zh_dX13_placeOf_46_48 3 rfl) (zi_at zh_dX13_placeOf_46_48 4 rfl)
theorem dX13_placeOf_53 : decode cX13_placeOf 53 = .ok (.iload 8, 2) := zo_21 (zi_at zh_dX13_placeOf_46_48 5 rfl) (zi_at zh_dX13_placeOf_46_48 6 rfl)
theorem dX13_placeOf_55 : decode cX13_placeOf 55 = .ok (.iload 4, 2) := zo_21 (zi_at zh_dX13_placeOf_46_48 7 rfl) (zi_at zh_dX13_placeOf_46_48 8 rfl)
theorem dX13_placeOf_57 : decode cX13_placeOf 57 = .ok (.if_icmp .ge 7, 3) := zo_162 (zi_at zh_dX13_placeOf_46_48 9 rfl) (zi_at zh_dX13_placeOf_46_48 10 rfl) (zi_at zh_dX13_placeOf_46_48 11 rfl) rfl
theorem dX13_placeOf_60 : decode cX13_placeOf 60 = .ok (.iconst 1, 1) := zo_4 (zi_at zh_dX13_placeOf_46_48 12 rfl)
theorem dX13_placeOf_61 : decode cX13_placeOf 61 = .ok (.goto 4, 3) := zo_167 (zi_at zh_dX13_placeOf_46_48 13 rfl) (zi_at zh_dX13_placeOf_46_48 14 rfl) (zi_at zh_dX13_placeOf_46_48 15 rfl) rfl
theorem dX13_placeOf_64 : decode cX13_placeOf 64 = .ok (.iconst 0, 1) := zo_3 (zi_at zh_dX13_placeOf_64_64 0 rfl)
theorem dX13_placeOf_65 : decode cX13_placeOf 65 = .ok (.iadd, 1) := zo_96 (zi_at zh_dX13_placeOf_64_64 1 rfl)
theorem dX13_placeOf_66 : decode cX13_placeOf 66 = .ok (.istore 5, 2) := zo_54 (zi_at zh_dX13_placeOf_64_64 2 rfl) (zi_at zh_dX13_placeOf_64_64 3 rfl)
theorem dX13_placeOf_68 : decode cX13_placeOf 68 = .ok (.iload 6, 2) := zo_21 (zi_at zh_dX13_placeOf_64_64 4 rfl) (zi_at zh_dX13_placeOf_64_64 5 rfl)
theorem dX13_placeOf_70 : decode cX13_placeOf 70 = .ok (.iload 8, 2) := zo_21 (zi_at zh_dX13_placeOf_64_64 6 rfl) (zi_at zh_dX13_placeOf_64_64 7 rfl)
theorem dX13_placeOf_72 : decode cX13_placeOf 72 = .ok (.iload 4, 2) := zo_21 (zi_at zh_dX13_placeOf_64_64 8 rfl) (zi_at zh_dX13_placeOf_64_64 9 rfl)
theorem dX13_placeOf_74 : decode cX13_placeOf 74 = .ok (.if_icmp .ne 7, 3) := zo_160 (zi_at zh_dX13_placeOf_64_64 10 rfl) (zi_at zh_dX13_placeOf_64_64 11 rfl) (zi_at zh_dX13_placeOf_64_64 12 rfl) rfl
theorem dX13_placeOf_77 : decode cX13_placeOf 77 = .ok (.iconst 1, 1) := zo_4 (zi_at zh_dX13_placeOf_64_64 13 rfl)
theorem dX13_placeOf_78 : decode cX13_placeOf 78 = .ok (.goto 4, 3) := zo_167 (zi_at zh_dX13_placeOf_64_64 14 rfl) (zi_at zh_dX13_placeOf_64_64 15 rfl) (zi_at zh_dX13_placeOf_78_80 0 rfl) rfl
theorem dX13_placeOf_81 : decode cX13_placeOf 81 = .ok (.iconst 0, 1) := zo_3 (zi_at zh_dX13_placeOf_78_80 1 rfl)
theorem dX13_placeOf_82 : decode cX13_placeOf 82 = .ok (.iadd, 1) := zo_96 (zi_at zh_dX13_placeOf_78_80 2 rfl)
theorem dX13_placeOf_83 : decode cX13_placeOf 83 = .ok (.istore 6, 2) := zo_54 (zi_at zh_dX13_placeOf_78_80 3 rfl) (zi_at zh_dX13_placeOf_78_80 4 rfl)
theorem dX13_placeOf_85 : decode cX13_placeOf 85 = .ok (.iinc 7 1, 3) := zo_132 (zi_at zh_dX13_placeOf_78_80 5 rfl) (zi_at zh_dX13_placeOf_78_80 6 rfl) (zi_at zh_dX13_placeOf_78_80 7 rfl) rfl
theorem dX13_placeOf_88 : decode cX13_placeOf 88 = .ok (.goto (-70), 3) := zo_167 (zi_at zh_dX13_placeOf_78_80 8 rfl) (zi_at zh_dX13_placeOf_78_80 9 rfl) (zi_at zh_dX13_placeOf_78_80 10 rfl) rfl
theorem dX13_placeOf_91 : decode cX13_placeOf 91 = .ok (.iconst 5, 1) := zo_8 (zi_at zh_dX13_placeOf_78_80 11 rfl)
theorem dX13_placeOf_92 : decode cX13_placeOf 92 = .ok (.iconst 2, 1) := zo_5 (zi_at zh_dX13_placeOf_78_80 12 rfl)
theorem dX13_placeOf_93 : decode cX13_placeOf 93 = .ok (.iload 5, 2) := zo_21 (zi_at zh_dX13_placeOf_78_80 13 rfl) (zi_at zh_dX13_placeOf_78_80 14 rfl)
theorem dX13_placeOf_95 : decode cX13_placeOf 95 = .ok (.imul, 1) := zo_104 (zi_at zh_dX13_placeOf_78_80 15 rfl)
theorem dX13_placeOf_96 : decode cX13_placeOf 96 = .ok (.iconst 1, 1) := zo_4 (zi_at zh_dX13_placeOf_96_96 0 rfl)
theorem dX13_placeOf_97 : decode cX13_placeOf 97 = .ok (.iadd, 1) := zo_96 (zi_at zh_dX13_placeOf_96_96 1 rfl)
theorem dX13_placeOf_98 : decode cX13_placeOf 98 = .ok (.iload 6, 2) := zo_21 (zi_at zh_dX13_placeOf_96_96 2 rfl) (zi_at zh_dX13_placeOf_96_96 3 rfl)
theorem dX13_placeOf_100 : decode cX13_placeOf 100 = .ok (.iadd, 1) := zo_96 (zi_at zh_dX13_placeOf_96_96 4 rfl)
theorem dX13_placeOf_101 : decode cX13_placeOf 101 = .ok (.imul, 1) := zo_104 (zi_at zh_dX13_placeOf_96_96 5 rfl)
theorem dX13_placeOf_102 : decode cX13_placeOf 102 = .ok (.ireturn, 1) := zo_172 (zi_at zh_dX13_placeOf_96_96 6 rfl)
theorem dX13_placed_0 : decode cX13_placed 0 = .ok (.aload_n 0, 1) := zo_42 (zi_at zh_dX13_placed_0_0 0 rfl)
theorem dX13_placed_1 : decode cX13_placed 1 = .ok (.iload_n 1, 1) := zo_27 (zi_at zh_dX13_placed_0_0 1 rfl)
theorem dX13_placed_2 : decode cX13_placed 2 = .ok (.iload_n 2, 1) := zo_28 (zi_at zh_dX13_placed_0_0 2 rfl)
theorem dX13_placed_3 : decode cX13_placed 3 = .ok (.iload_n 3, 1) := zo_29 (zi_at zh_dX13_placed_0_0 3 rfl)
theorem dX13_placed_4 : decode cX13_placed 4 = .ok (.invokevirtual 416, 3) := zo_182 (zi_at zh_dX13_placed_0_0 4 rfl) (zi_at zh_dX13_placed_0_0 5 rfl) (zi_at zh_dX13_placed_0_0 6 rfl) rfl
theorem dX13_placed_7 : decode cX13_placed 7 = .ok (.ifCond .eq 23, 3) := zo_153 (zi_at zh_dX13_placed_0_0 7 rfl) (zi_at zh_dX13_placed_0_0 8 rfl) (zi_at zh_dX13_placed_0_0 9 rfl) rfl
theorem dX13_placed_10 : decode cX13_placed 10 = .ok (.aload_n 0, 1) := zo_42 (zi_at zh_dX13_placed_0_0 10 rfl)
theorem dX13_placed_11 : decode cX13_placed 11 = .ok (.iload_n 1, 1) := zo_27 (zi_at zh_dX13_placed_0_0 11 rfl)
theorem dX13_placed_12 : decode cX13_placed 12 = .ok (.iload_n 2, 1) := zo_28 (zi_at zh_dX13_placed_0_0 12 rfl)
theorem dX13_placed_13 : decode cX13_placed 13 = .ok (.iload_n 3, 1) := zo_29 (zi_at zh_dX13_placed_0_0 13 rfl)
theorem dX13_placed_14 : decode cX13_placed 14 = .ok (.invokevirtual 419, 3) := zo_182 (zi_at zh_dX13_placed_0_0 14 rfl) (zi_at zh_dX13_placed_0_0 15 rfl) (zi_at zh_dX13_placed_14_16 0 rfl) rfl
theorem dX13_placed_17 : decode cX13_placed 17 = .ok (.ifCond .ne 13, 3) := zo_154 (zi_at zh_dX13_placed_14_16 1 rfl) (zi_at zh_dX13_placed_14_16 2 rfl) (zi_at zh_dX13_placed_14_16 3 rfl) rfl
theorem dX13_placed_20 : decode cX13_placed 20 = .ok (.aload_n 0, 1) := zo_42 (zi_at zh_dX13_placed_14_16 4 rfl)
theorem dX13_placed_21 : decode cX13_placed 21 = .ok (.iload_n 1, 1) := zo_27 (zi_at zh_dX13_placed_14_16 5 rfl)
theorem dX13_placed_22 : decode cX13_placed 22 = .ok (.iload_n 2, 1) := zo_28 (zi_at zh_dX13_placed_14_16 6 rfl)
theorem dX13_placed_23 : decode cX13_placed 23 = .ok (.iload_n 3, 1) := zo_29 (zi_at zh_dX13_placed_14_16 7 rfl)
theorem dX13_placed_24 : decode cX13_placed 24 = .ok (.invokevirtual 432, 3) := zo_182 (zi_at zh_dX13_placed_14_16 8 rfl) (zi_at zh_dX13_placed_14_16 9 rfl) (zi_at zh_dX13_placed_14_16 10 rfl) rfl
theorem dX13_placed_27 : decode cX13_placed 27 = .ok (.goto 4, 3) := zo_167 (zi_at zh_dX13_placed_14_16 11 rfl) (zi_at zh_dX13_placed_14_16 12 rfl) (zi_at zh_dX13_placed_14_16 13 rfl) rfl
theorem dX13_placed_30 : decode cX13_placed 30 = .ok (.iconst (-1), 1) := zo_2 (zi_at zh_dX13_placed_14_16 14 rfl)
theorem dX13_placed_31 : decode cX13_placed 31 = .ok (.ireturn, 1) := zo_172 (zi_at zh_dX13_placed_14_16 15 rfl)
theorem hz_yX13_secondsOf_3 : yX13_secondsOf.cls ≠ "java/lang/invoke/MethodHandle" ∧ yX13_secondsOf.cls ≠ "java/lang/invoke/VarHandle" ∧ (parseMethodDescriptor yX13_secondsOf.desc).map (fun d => d.parameters.length) = some 3 := by decide +kernel
theorem hz_yX13_correct_3 : yX13_correct.cls ≠ "java/lang/invoke/MethodHandle" ∧ yX13_correct.cls ≠ "java/lang/invoke/VarHandle" ∧ (parseMethodDescriptor yX13_correct.desc).map (fun d => d.parameters.length) = some 3 := by decide +kernel
theorem hz_yX13_correctedOf_3 : yX13_correctedOf.cls ≠ "java/lang/invoke/MethodHandle" ∧ yX13_correctedOf.cls ≠ "java/lang/invoke/VarHandle" ∧ (parseMethodDescriptor yX13_correctedOf.desc).map (fun d => d.parameters.length) = some 3 := by decide +kernel
theorem hz_yX13_placeOf_3 : yX13_placeOf.cls ≠ "java/lang/invoke/MethodHandle" ∧ yX13_placeOf.cls ≠ "java/lang/invoke/VarHandle" ∧ (parseMethodDescriptor yX13_placeOf.desc).map (fun d => d.parameters.length) = some 3 := by decide +kernel

/-! ===== PLACES where nothing of them is written ===== -/
theorem PlS_kd {E E' : Nat → va_E} {race q : Int32} {n b : Nat} {p : Int} (k : KdN E E') (h : PlS (fun o9 => CdM E' race (nI o9) q 0) (tmM E' race q) n b p) : PlS (fun o9 => CdM E race (nI o9) q 0) (tmM E race q) n b p := by
  have e1 : (fun o9 => CdM E' race (nI o9) q 0) = (fun o9 => CdM E race (nI o9) q 0) := funext (fun o => propext k.cd)
  have e2 : tmM E' race q = tmM E race q := funext (fun o => k.tm race (nI o) q)
  rw [e1, e2] at h
  exact h

def v_secondsOfM : List Cond := .code yX13_secondsOf cX13_secondsOf 4 (some .int) :: vA
abbrev rm_secondsOfM : Room := { frames := 1, cells := 0, slots := 0, locals := 40 }
set_option maxHeartbeats 4000000 in
set_option maxRecDepth 100000 in
theorem q_secondsOfM (l : Launch) (dC : Nat → ClassId) (dI : Nat → Nat → Nat) (cT : Nat → ClassId) (ad : Nat → Nat) (E : Nat → va_E) (sz : Nat) (a0 : Int32) (a1 : Int32) (a2 : Int32) (hI0 : IX cT shM spM 72 ad E) (hh0 : ¬ (lRM E a0 a1 a2).toInt = -1) : Met l yX13_secondsOf v_secondsOfM rm_secondsOfM (va_Pc [.ref (ad 0), .int a0, .int a1, .int a2] (HW dC dI (TYM cT) 72 ad E sz)) (va_Qi (S := Unit) (fun r _ => (0 ≤ r.toInt ∧ r.toInt ≤ 200000) ∧ (r = xi (E 27) (lRM E a0 a1 a2).toNatClampNeg)) (fun _ _ => True) (fun _ => False)) 0 0 (fun _ => False) := by
  refine Met.ofW (cc := cX13_secondsOf) (maxL := 4) (ret := (some .int)) (by decide) rfl ?_
  intro p e s m args below meth c s₁ B hml hv
  obtain ⟨hargs, hsz, hP, hK, hD0, hEV⟩ := hv
  subst hsz
  have hx := B.exec
  have hb := B.bytes
  have hr := B.returns
  have hts := atoms_spec (ws := v_secondsOfM) B.pre
  have hown : s.vm.findClass RX13 = some m.cls := findClass_of_methodNamed B.named
  have hlocks := B.notSynchronized
  have hinX13 : ∀ w ∈ u_ws RX13 TX13 97, w ∈ v_secondsOfM := fun w h => vA_in _ w (in_X13 w h)
  have hS : va_S (fun _ : Nat => False) s.heap s.heap [] := va_S.rf
  have hD := hD0
  have hI := hI0
  have hKp : Kp (wl [] []) E E := Kp.rf
  have hl := lv_entry ([.ref (ad 0), .int a0, .int a1, .int a2]) (n := 4) (Nat.le_of_ble_eq_true rfl)
  obtain ⟨Q, hQ⟩ : ∃ Q, Q = MQ below (va_Qi (S := Unit) (fun r _ => (0 ≤ r.toInt ∧ r.toInt ≤ 200000) ∧ (r = xi (E 27) (lRM E a0 a1 a2).toNatClampNeg)) (fun _ _ => True) (fun _ => False)) args s 0 0 (fun _ => False) := ⟨_, rfl⟩
  rw [← hQ, show entryFrame m args 4 = _ from (congrArg (fun z => entryFrame m z 4) hargs).trans (lg_entry_eq _ _ _)]
  generalize (lg_sl ([.ref (ad 0), .int a0, .int a1, .int a2]) ++ List.replicate (4 - (lg_sl ([.ref (ad 0), .int a0, .int a1, .int a2])).length) Slot.unset).toArray = ls at hl ⊢
  have hl : lv_has ls 4 [(0, .ref (ad 0)), (1, .int a0), (2, .int a1), (3, .int a2)] := hl
  refine lv_aload_n hx hb dX13_secondsOf_0 rfl (lv_at hl 0 rfl) ?_
  refine th_get (ci := 14) (C := RX13) (T := TX13) (N := 97) (v := .ref (ad 27)) hx hb hts hinX13 hown hK hP hI 0 (Nat.le_of_ble_eq_true rfl) rfl rfl 41 (Nat.le_of_ble_eq_true rfl) (hts _ (vA_in _ _ (in_28 _ (zs16 (zs4 (zs1 (zs0))))))) (fun _ h9 => h9) (hI.fr 0 (Nat.le_of_ble_eq_true rfl) rfl (Nat.le_of_ble_eq_true rfl) 27 rfl) dX13_secondsOf_1 ?_
  refine lv_aload_n hx hb dX13_secondsOf_4 rfl (lv_at hl 0 rfl) ?_
  refine lv_iload_n hx hb dX13_secondsOf_5 rfl (lv_at hl 1 rfl) ?_
  refine lv_iload_n hx hb dX13_secondsOf_6 rfl (lv_at hl 2 rfl) ?_
  refine lv_iload_n hx hb dX13_secondsOf_7 rfl (lv_at hl 3 rfl) ?_
  refine th_ri (va_runV (As := [.int a0, .int a1, .int a2]) (rest := [.ref (ad 27)]) ⟨hx, hb, hml, hown, hts⟩ (q_resultOf l dC dI cT ad E s.heap.size a0 a1 a2 hI) (cwV 3 hts (gi_V (in_28 _ (zs4 (zs4 (zs1 (zs0))))) (in_28 _ (zs4 (zs4 (zs1 (zs1 (zs0)))))) (in_28 _ (zs4 (zs4 (zs1 (zs1 (zs1 (zs0))))))) (in_24 _ (zs4 (zs4 (zs4 (zs1 (zs1 (zs1 (zs0)))))))) (in_28 _ (zs4 (zs4 (zs4 (zs0)))))) rfl rfl rfl ⟨rfl, hz_yX13_resultOf_3⟩ ⟨Nat.le_of_ble_eq_true rfl, Nat.le_of_ble_eq_true rfl⟩) ⟨HW_bl, va_recv hK hP (ci := 14) (q0 := 0) rfl (hI.ob 0 (Nat.le_of_ble_eq_true rfl) rfl), (HW_wiR hP hK (WX_D hD) hS hEV)⟩ rfl rfl hl.1 rfl (lv_room (Nat.le_of_ble_eq_true rfl)) dX13_secondsOf_8 ⟨Nat.le_of_ble_eq_true rfl, Nat.le_of_ble_eq_true rfl⟩) hS hP (fun r1 H locs hw hP hS => ?_)
  obtain ⟨f2, f3⟩ := hw
  have i4 : 0 ≤ (xi (E 0) 47).toInt ∧ (xi (E 0) 47).toInt ≤ 300 := (show 0 ≤ (xi (E 0) 47).toInt ∧ (xi (E 0) 47).toInt ≤ 300 from hI0.iv 0 (Nat.le_of_ble_eq_true rfl) rfl (Nat.le_of_ble_eq_true rfl) rfl)
  have n6 : vp_in r1 300 := (by have h9 : ¬ r1.toInt = -1 := fun q9 => hh0 (by rw [← show r1 = lRM E a0 a1 a2 from f3]; exact q9); have h8 := f2; exact vp_in_iff.mpr ⟨by omega, by omega⟩)
  refine th_iald hx hb hK hP hI 27 (Nat.le_of_ble_eq_true rfl) rfl rfl n6 dX13_secondsOf_11 (fun y5 ey5 => ?_)
  have iy5 : 0 ≤ y5.toInt ∧ y5.toInt ≤ 200000 := hI.el 27 (Nat.le_of_ble_eq_true rfl) rfl n6 (fun _ => rfl) ey5
  have ey5 := ey5.trans (hKp.ei 27 _ rfl)
  rw [hQ]
  exact W.iret (v := y5) hx hb hr (fun t ht hW => ⟨⟨y5, (), rfl, ⟨iy5, (by rw [ey5, show r1 = lRM E a0 a1 a2 from f3])⟩, trivial⟩, hS.F ht⟩) hS.2.2 dX13_secondsOf_12
def v_correctM : List Cond := .code yX13_correct cX13_correct 4 (some .int) :: vA
abbrev rm_correctM : Room := { frames := 0, cells := 0, slots := 0, locals := 0 }
set_option maxHeartbeats 4000000 in
set_option maxRecDepth 100000 in
theorem q_correctM (l : Launch) (dC : Nat → ClassId) (dI : Nat → Nat → Nat) (cT : Nat → ClassId) (ad : Nat → Nat) (E : Nat → va_E) (sz : Nat) (a0 : Int32) (a1 : Int32) (a2 : Int32) (hI0 : IX cT shM spM 72 ad E) (hh0 : 0 ≤ a0.toInt ∧ a0.toInt ≤ 19) : Met l yX13_correct v_correctM rm_correctM (va_Pc [.ref (ad 0), .int a0, .int a1, .int a2] (HW dC dI (TYM cT) 72 ad E sz)) (va_Qi (S := Unit) (fun r _ => (r = corI (xi (E 15) a0.toNatClampNeg) a1 a2 (xi (E 14) a0.toNatClampNeg))) (fun _ _ => True) (fun _ => False)) 0 0 (fun _ => False) := by
  refine Met.ofW (cc := cX13_correct) (maxL := 4) (ret := (some .int)) (by decide) rfl ?_
  intro p e s m args below meth c s₁ B hml hv
  obtain ⟨hargs, hsz, hP, hK, hD0, hEV⟩ := hv
  subst hsz
  have hx := B.exec
  have hb := B.bytes
  have hr := B.returns
  have hts := atoms_spec (ws := v_correctM) B.pre
  have hown : s.vm.findClass RX13 = some m.cls := findClass_of_methodNamed B.named
  have hlocks := B.notSynchronized
  have hinX13 : ∀ w ∈ u_ws RX13 TX13 97, w ∈ v_correctM := fun w h => vA_in _ w (in_X13 w h)
  have hS : va_S (fun _ : Nat => False) s.heap s.heap [] := va_S.rf
  have hD := hD0
  have hI := hI0
  have hKp : Kp (wl [] []) E E := Kp.rf
  have hl := lv_entry ([.ref (ad 0), .int a0, .int a1, .int a2]) (n := 4) (Nat.le_of_ble_eq_true rfl)
  obtain ⟨Q, hQ⟩ : ∃ Q, Q = MQ below (va_Qi (S := Unit) (fun r _ => (r = corI (xi (E 15) a0.toNatClampNeg) a1 a2 (xi (E 14) a0.toNatClampNeg))) (fun _ _ => True) (fun _ => False)) args s 0 0 (fun _ => False) := ⟨_, rfl⟩
  rw [← hQ, show entryFrame m args 4 = _ from (congrArg (fun z => entryFrame m z 4) hargs).trans (lg_entry_eq _ _ _)]
  generalize (lg_sl ([.ref (ad 0), .int a0, .int a1, .int a2]) ++ List.replicate (4 - (lg_sl ([.ref (ad 0), .int a0, .int a1, .int a2])).length) Slot.unset).toArray = ls at hl ⊢
  have hl : lv_has ls 4 [(0, .ref (ad 0)), (1, .int a0), (2, .int a1), (3, .int a2)] := hl
  refine lv_aload_n hx hb dX13_correct_0 rfl (lv_at hl 0 rfl) ?_
  refine th_get (ci := 14) (C := RX13) (T := TX13) (N := 97) (v := .ref (ad 15)) hx hb hts hinX13 hown hK hP hI 0 (Nat.le_of_ble_eq_true rfl) rfl rfl 29 (Nat.le_of_ble_eq_true rfl) (hts _ (vA_in _ _ (in_27 _ (zs16 (zs16 (zs1 (zs0))))))) (fun _ h9 => h9) (hI.fr 0 (Nat.le_of_ble_eq_true rfl) rfl (Nat.le_of_ble_eq_true rfl) 15 rfl) dX13_correct_1 ?_
  refine lv_iload_n hx hb dX13_correct_4 rfl (lv_at hl 1 rfl) ?_
  have n2 : vp_in a0 20 := (iv_in (n := 20) hh0 (by decide))
  refine th_iald hx hb hK hP hI 15 (Nat.le_of_ble_eq_true rfl) rfl rfl n2 dX13_correct_5 (fun y1 ey1 => ?_)
  have iy1 : 0 ≤ y1.toInt ∧ y1.toInt ≤ 1 := hI.el 15 (Nat.le_of_ble_eq_true rfl) rfl n2 (fun _ => rfl) ey1
  have ey1 := ey1.trans (hKp.ei 15 _ rfl)
  refine lv_if_ne (tgt := 19) hx hb dX13_correct_6 (by decide) (fun c3 => ?_) (fun c3 => ?_)
  · --6 taken
    have t4 : ¬ y1.toInt = 0 := ti_ne c3
    have i5 : 1 ≤ y1.toInt ∧ y1.toInt ≤ 1 := iv_ne_l t4 iy1 (il_ 0)
    refine lv_iload_n hx hb dX13_correct_19 rfl (lv_at hl 2 rfl) ?_
    refine lv_iload_n hx hb dX13_correct_20 rfl (lv_at hl 3 rfl) ?_
    refine lv_sipush (v := 1000) hx hb dX13_correct_21 (by decide) ?_
    refine lv_isub hx hb dX13_correct_24 ?_
    refine lv_topi (fun y6 ey6 => ?_)
    refine lv_aload_n hx hb dX13_correct_25 rfl (lv_at hl 0 rfl) ?_
    refine th_get (ci := 14) (C := RX13) (T := TX13) (N := 97) (v := .ref (ad 14)) hx hb hts hinX13 hown hK hP hI 0 (Nat.le_of_ble_eq_true rfl) rfl rfl 28 (Nat.le_of_ble_eq_true rfl) (hts _ (vA_in _ _ (in_30 _ (zs4 (zs4 (zs1 (zs1 (zs0)))))))) (fun _ h9 => h9) (hI.fr 0 (Nat.le_of_ble_eq_true rfl) rfl (Nat.le_of_ble_eq_true rfl) 14 rfl) dX13_correct_26 ?_
    refine lv_iload_n hx hb dX13_correct_29 rfl (lv_at hl 1 rfl) ?_
    have n8 : vp_in a0 20 := (iv_in (n := 20) hh0 (by decide))
    refine th_iald hx hb hK hP hI 14 (Nat.le_of_ble_eq_true rfl) rfl rfl n8 dX13_correct_30 (fun y7 ey7 => ?_)
    have iy7 : 0 ≤ y7.toInt ∧ y7.toInt ≤ 1000 := hI.el 14 (Nat.le_of_ble_eq_true rfl) rfl n8 (fun _ => rfl) ey7
    have ey7 := ey7.trans (hKp.ei 14 _ rfl)
    refine lv_imul hx hb dX13_correct_31 ?_
    refine lv_topi (fun y9 ey9 => ?_)
    refine lv_bipush (v := 10) hx hb dX13_correct_32 (by decide) ?_
    refine lv_idiv hx hb dX13_correct_34 (by decide) ?_
    refine lv_topi (fun y10 ey10 => ?_)
    refine lv_iadd hx hb dX13_correct_35 ?_
    refine lv_topi (fun y11 ey11 => ?_)
    rw [hQ]
    exact W.iret (v := y11) hx hb hr (fun t ht hW => ⟨⟨y11, (), rfl, (by rw [← ey1, ← ey7]; exact corI_1 (by omega) ey6 ey9 ey10 ey11), trivial⟩, hS.F ht⟩) hS.2.2 dX13_correct_36
  · --6 not
    have t12 : y1.toInt = 0 := ti_eq c3
    have i13 : 0 ≤ y1.toInt ∧ y1.toInt ≤ 0 := iv_eqi t12 iy1 (il_ 0) (by decide)
    refine lv_iload_n hx hb dX13_correct_9 rfl (lv_at hl 2 rfl) ?_
    refine lv_iload_n hx hb dX13_correct_10 rfl (lv_at hl 3 rfl) ?_
    refine lv_imul hx hb dX13_correct_11 ?_
    refine lv_topi (fun y14 ey14 => ?_)
    refine lv_sipush (v := 1000) hx hb dX13_correct_12 (by decide) ?_
    refine lv_idiv hx hb dX13_correct_15 (by decide) ?_
    refine lv_topi (fun y15 ey15 => ?_)
    refine lv_goto (tgt := 36) hx hb dX13_correct_16 (by decide) ?_
    rw [hQ]
    exact W.iret (v := y15) hx hb hr (fun t ht hW => ⟨⟨y15, (), rfl, (by rw [← ey1]; exact corI_0 (by omega) ey14 ey15), trivial⟩, hS.F ht⟩) hS.2.2 dX13_correct_36
def v_correctedOfM : List Cond := .code yX13_correctedOf cX13_correctedOf 4 (some .int) :: vA
abbrev rm_correctedOfM : Room := { frames := 72, cells := 0, slots := 0, locals := 2880 }
def w_correctedOfM : Nat → Nat → Bool := wl [12] [(0, 18), (0, 19), (0, 20), (0, 21), (0, 22), (0, 23), (0, 24), (0, 25), (0, 26)]
set_option maxHeartbeats 4000000 in
set_option maxRecDepth 100000 in
theorem q_correctedOfM (l : Launch) (dC : Nat → ClassId) (dI : Nat → Nat → Nat) (cT : Nat → ClassId) (ad : Nat → Nat) (E : Nat → va_E) (sz : Nat) (a0 : Int32) (a1 : Int32) (a2 : Int32) (hI0 : IX cT shM spM 72 ad E) (hh0 : 0 ≤ a0.toInt ∧ a0.toInt ≤ 19) (hh1 : ¬ (lRM E a0 a1 a2).toInt = -1) (hh2 : TXM E) : Met l yX13_correctedOf v_correctedOfM rm_correctedOfM (va_Pc [.ref (ad 0), .int a0, .int a1, .int a2] (HW dC dI (TYM cT) 72 ad E sz)) (va_Qi (S := Nat → va_E) (fun r u => IX cT shM spM 72 ad u ∧ Kp w_correctedOfM E u ∧ ((r = tmB E a0 a1 a2))) (HB dC dI 72 ad) (va_A (WX 72 ad E) sz)) 0 0 (va_A (WX 72 ad E) sz) := by
  refine Met.ofW (cc := cX13_correctedOf) (maxL := 4) (ret := (some .int)) (by decide) rfl ?_
  intro p e s m args below meth c s₁ B hml hv
  obtain ⟨hargs, hsz, hP, hK, hD0, hEV⟩ := hv
  subst hsz
  have hx := B.exec
  have hb := B.bytes
  have hr := B.returns
  have hts := atoms_spec (ws := v_correctedOfM) B.pre
  have hown : s.vm.findClass RX13 = some m.cls := findClass_of_methodNamed B.named
  have hlocks := B.notSynchronized
  have hinX13 : ∀ w ∈ u_ws RX13 TX13 97, w ∈ v_correctedOfM := fun w h => vA_in _ w (in_X13 w h)
  generalize hAe : va_A (WX 72 ad E) s.heap.size = A at hEV ⊢
  have hA : ∀ q : Nat, s.heap.size ≤ q → A q := fun q h => by rw [← hAe]; exact Or.inr h
  have hD : va_D A (WX 72 ad E) := by rw [← hAe]; exact hD0.self
  have hS : va_S A s.heap s.heap [] := va_S.rf
  have hI := hI0
  have hKp : Kp w_correctedOfM E E := Kp.rf
  have hl := lv_entry ([.ref (ad 0), .int a0, .int a1, .int a2]) (n := 4) (Nat.le_of_ble_eq_true rfl)
  obtain ⟨Q, hQ⟩ : ∃ Q, Q = MQ below (va_Qi (S := Nat → va_E) (fun r u => IX cT shM spM 72 ad u ∧ Kp w_correctedOfM E u ∧ ((r = tmB E a0 a1 a2))) (HB dC dI 72 ad) (A)) args s 0 0 (A) := ⟨_, rfl⟩
  rw [← hQ, show entryFrame m args 4 = _ from (congrArg (fun z => entryFrame m z 4) hargs).trans (lg_entry_eq _ _ _)]
  generalize (lg_sl ([.ref (ad 0), .int a0, .int a1, .int a2]) ++ List.replicate (4 - (lg_sl ([.ref (ad 0), .int a0, .int a1, .int a2])).length) Slot.unset).toArray = ls at hl ⊢
  have hl : lv_has ls 4 [(0, .ref (ad 0)), (1, .int a0), (2, .int a1), (3, .int a2)] := hl
  refine lv_aload_n hx hb dX13_correctedOf_0 rfl (lv_at hl 0 rfl) ?_
  refine lv_iload_n hx hb dX13_correctedOf_1 rfl (lv_at hl 1 rfl) ?_
  refine lv_aload_n hx hb dX13_correctedOf_2 rfl (lv_at hl 0 rfl) ?_
  refine lv_iload_n hx hb dX13_correctedOf_3 rfl (lv_at hl 1 rfl) ?_
  refine lv_iload_n hx hb dX13_correctedOf_4 rfl (lv_at hl 2 rfl) ?_
  refine lv_iload_n hx hb dX13_correctedOf_5 rfl (lv_at hl 3 rfl) ?_
  refine th_ri (va_runV (As := [.int a0, .int a1, .int a2]) (rest := [.int a0, .ref (ad 0)]) ⟨hx, hb, hml, hown, hts⟩ (q_secondsOfM l dC dI cT ad E s.heap.size a0 a1 a2 hI (by exact hh1)) (cwV 3 hts (gi_V (in_28 _ (zs16 (zs1 (zs0)))) (in_28 _ (zs16 (zs1 (zs1 (zs0))))) (in_28 _ (zs16 (zs1 (zs1 (zs1 (zs0)))))) (in_24 _ (zs4 (zs4 (zs4 (zs1 (zs1 (zs1 (zs0)))))))) (in_28 _ (zs16 (zs4 (zs0))))) rfl rfl rfl ⟨rfl, hz_yX13_secondsOf_3⟩ ⟨Nat.le_of_ble_eq_true rfl, Nat.le_of_ble_eq_true rfl⟩) ⟨HW_bl, va_recv hK hP (ci := 14) (q0 := 0) rfl (hI.ob 0 (Nat.le_of_ble_eq_true rfl) rfl), (HW_wi hP hK (WX_D hD) hS hA hEV)⟩ rfl rfl hl.1 rfl (lv_room (Nat.le_of_ble_eq_true rfl)) dX13_correctedOf_6 ⟨Nat.le_of_ble_eq_true rfl, Nat.le_of_ble_eq_true rfl⟩) hS hP (fun r1 H locs hw hP hS => ?_)
  obtain ⟨f2, f3⟩ := hw
  have i4 : 0 ≤ (xi (E 0) 47).toInt ∧ (xi (E 0) 47).toInt ≤ 300 := (show 0 ≤ (xi (E 0) 47).toInt ∧ (xi (E 0) 47).toInt ≤ 300 from hI0.iv 0 (Nat.le_of_ble_eq_true rfl) rfl (Nat.le_of_ble_eq_true rfl) rfl)
  refine lv_aload_n hx hb dX13_correctedOf_9 rfl (lv_at hl 0 rfl) ?_
  refine lv_iload_n hx hb dX13_correctedOf_10 rfl (lv_at hl 2 rfl) ?_
  refine lv_aload_n hx hb dX13_correctedOf_11 rfl (lv_at hl 0 rfl) ?_
  refine th_get (ci := 14) (C := RX13) (T := TX13) (N := 97) (v := .ref (ad 13)) hx hb hts hinX13 hown hK hP hI 0 (Nat.le_of_ble_eq_true rfl) rfl rfl 27 (Nat.le_of_ble_eq_true rfl) (hts _ (vA_in _ _ (in_27 _ (zs16 (zs16 (zs0)))))) (fun _ h9 => h9) (hI.fr 0 (Nat.le_of_ble_eq_true rfl) rfl (Nat.le_of_ble_eq_true rfl) 13 rfl) dX13_correctedOf_12 ?_
  refine lv_iload_n hx hb dX13_correctedOf_15 rfl (lv_at hl 1 rfl) ?_
  have n6 : vp_in a0 20 := (iv_in (n := 20) hh0 (by decide))
  refine th_iald hx hb hK hP hI 13 (Nat.le_of_ble_eq_true rfl) rfl rfl n6 dX13_correctedOf_16 (fun y5 ey5 => ?_)
  have iy5 : 0 ≤ y5.toInt ∧ y5.toInt ≤ 400 := hI.el 13 (Nat.le_of_ble_eq_true rfl) rfl n6 (fun _ => rfl) ey5
  have ey5 := ey5.trans (hKp.ei 13 _ rfl)
  refine lv_iload_n hx hb dX13_correctedOf_17 rfl (lv_at hl 3 rfl) ?_
  refine th_i (va_runV (As := [.int a1, .int y5, .int a2]) (rest := [.int r1, .int a0, .ref (ad 0)]) ⟨hx, hb, hml, hown, hts⟩ (q_numberOfM l dC dI cT ad E H.size a1 y5 a2 hI (by exact hh2)) (cwV 3 hts (gi_V (in_28 _ (zs16 (zs4 (zs1 (zs1 (zs0)))))) (in_28 _ (zs16 (zs4 (zs1 (zs1 (zs1 (zs0))))))) (in_28 _ (zs16 (zs4 (zs4 (zs0))))) (in_24 _ (zs4 (zs4 (zs4 (zs1 (zs1 (zs1 (zs0)))))))) (in_28 _ (zs16 (zs4 (zs4 (zs1 (zs0))))))) rfl rfl rfl ⟨rfl, hz_yX13_numberOf_3⟩ ⟨Nat.le_of_ble_eq_true rfl, Nat.le_of_ble_eq_true rfl⟩) ⟨HW_bl, va_recv hK hP (ci := 14) (q0 := 0) rfl (hI.ob 0 (Nat.le_of_ble_eq_true rfl) rfl), (HW_wi hP hK (WX_D hD) hS hA hEV)⟩ rfl rfl hl.1 rfl (lv_room (Nat.le_of_ble_eq_true rfl)) dX13_correctedOf_18 ⟨Nat.le_of_ble_eq_true rfl, Nat.le_of_ble_eq_true rfl⟩) (WX_D hD) hS hA (fun r7 E8 H locs hw hP hS => ?_)
  obtain ⟨hI, kq9, hw⟩ := hw
  have hKb := hKp
  have hKp := hKp.tr kq9 (wl_sub rfl rfl)
  have f10 := hw
  have i11 : 0 ≤ (xi (E 0) 9).toInt ∧ (xi (E 0) 9).toInt ≤ 80 := (show 0 ≤ (xi (E 0) 9).toInt ∧ (xi (E 0) 9).toInt ≤ 80 from hI0.iv 0 (Nat.le_of_ble_eq_true rfl) rfl (Nat.le_of_ble_eq_true rfl) rfl)
  have k12 : KdN E E8 := KdN.of hKp rfl rfl rfl rfl rfl
  refine th_ri (va_runV (As := [.int a0, .int r1, .int r7]) (rest := []) ⟨hx, hb, hml, hown, hts⟩ (q_correctM l dC dI cT ad E8 H.size a0 r1 r7 hI hh0) (cwV 3 hts (gi_V (in_30 _ (zs16 (zs0))) (in_30 _ (zs16 (zs1 (zs0)))) (in_30 _ (zs16 (zs1 (zs1 (zs0))))) (in_24 _ (zs4 (zs4 (zs4 (zs1 (zs1 (zs1 (zs0)))))))) (in_30 _ (zs4 (zs4 (zs1 (zs0)))))) rfl rfl rfl ⟨rfl, hz_yX13_correct_3⟩ ⟨Nat.le_of_ble_eq_true rfl, Nat.le_of_ble_eq_true rfl⟩) ⟨HW_bl, va_recv hK hP (ci := 14) (q0 := 0) rfl (hI.ob 0 (Nat.le_of_ble_eq_true rfl) rfl), (HW_wi hP hK (WX_D hD) hS hA hEV)⟩ rfl rfl hl.1 rfl (lv_room (Nat.le_of_ble_eq_true rfl)) dX13_correctedOf_21 ⟨Nat.le_of_ble_eq_true rfl, Nat.le_of_ble_eq_true rfl⟩) hS hP (fun r13 H locs hw hP hS => ?_)
  have f14 := hw
  rw [hQ]
  exact W.iret (v := r13) hx hb hr (fun t ht hW => ⟨⟨r13, E8, rfl, ⟨hI, hKp, (by have h9 := f14; rw [k12.rw_ 15 (by decide), k12.rw_ 14 (by decide), f3, fI_of f10, ey5] at h9; exact h9)⟩, by show va_P (dC, dI) vwCl (WX 72 ad E8) t.heap; rw [ht]; exact hP⟩, hS.F ht⟩) hS.2.2 dX13_correctedOf_24
def v_correctedM : List Cond := .code yX13_corrected cX13_corrected 4 (some .int) :: vA
abbrev rm_correctedM : Room := { frames := 73, cells := 0, slots := 0, locals := 2920 }
def w_correctedM : Nat → Nat → Bool := wl [12] [(0, 0), (0, 18), (0, 19), (0, 20), (0, 21), (0, 22), (0, 23), (0, 24), (0, 25), (0, 26)]
set_option maxHeartbeats 4000000 in
set_option maxRecDepth 100000 in
theorem q_correctedM (l : Launch) (dC : Nat → ClassId) (dI : Nat → Nat → Nat) (cT : Nat → ClassId) (ad : Nat → Nat) (E : Nat → va_E) (sz : Nat) (a0 : Int32) (a1 : Int32) (a2 : Int32) (hI0 : IX cT shM spM 72 ad E) (hh0 : TXM E) : Met l yX13_corrected v_correctedM rm_correctedM (va_Pc [.ref (ad 0), .int a0, .int a1, .int a2] (HW dC dI (TYM cT) 72 ad E sz)) (va_Qi (S := Nat → va_E) (fun r u => IX cT shM spM 72 ad u ∧ Kp w_correctedM E u ∧ ((((((((0 ≤ a0.toInt ∧ a0.toInt < (xi (E 0) 46).toInt) ∧ (0 ≤ a1.toInt ∧ a1.toInt < (xi (E 0) 8).toInt) ∧ (0 ≤ a2.toInt ∧ a2.toInt ≤ (xi (E 0) 1).toInt) ∧ (xi (E 20) a0.toInt.toNat).toInt ≤ a2.toInt) ∧ (xi (E 21) (16 * a0.toInt + a1.toInt).toNat).toInt ≤ a2.toInt) ∧ CdM E a0 a1 a2 0) → (r = tmB E a0 a1 a2)) ∧ (¬ ((((0 ≤ a0.toInt ∧ a0.toInt < (xi (E 0) 46).toInt) ∧ (0 ≤ a1.toInt ∧ a1.toInt < (xi (E 0) 8).toInt) ∧ (0 ≤ a2.toInt ∧ a2.toInt ≤ (xi (E 0) 1).toInt) ∧ (xi (E 20) a0.toInt.toNat).toInt ≤ a2.toInt) ∧ (xi (E 21) (16 * a0.toInt + a1.toInt).toNat).toInt ≤ a2.toInt) ∧ CdM E a0 a1 a2 0) → (r.toInt = -1000000000)))))) (HB dC dI 72 ad) (va_A (WX 72 ad E) sz)) 0 0 (va_A (WX 72 ad E) sz) := by
  refine Met.ofW (cc := cX13_corrected) (maxL := 4) (ret := (some .int)) (by decide) rfl ?_
  intro p e s m args below meth c s₁ B hml hv
  obtain ⟨hargs, hsz, hP, hK, hD0, hEV⟩ := hv
  subst hsz
  have hx := B.exec
  have hb := B.bytes
  have hr := B.returns
  have hts := atoms_spec (ws := v_correctedM) B.pre
  have hown : s.vm.findClass RX13 = some m.cls := findClass_of_methodNamed B.named
  have hlocks := B.notSynchronized
  have hinX13 : ∀ w ∈ u_ws RX13 TX13 97, w ∈ v_correctedM := fun w h => vA_in _ w (in_X13 w h)
  generalize hAe : va_A (WX 72 ad E) s.heap.size = A at hEV ⊢
  have hA : ∀ q : Nat, s.heap.size ≤ q → A q := fun q h => by rw [← hAe]; exact Or.inr h
  have hD : va_D A (WX 72 ad E) := by rw [← hAe]; exact hD0.self
  have hS : va_S A s.heap s.heap [] := va_S.rf
  have hI := hI0
  have hKp : Kp w_correctedM E E := Kp.rf
  have hl := lv_entry ([.ref (ad 0), .int a0, .int a1, .int a2]) (n := 4) (Nat.le_of_ble_eq_true rfl)
  obtain ⟨Q, hQ⟩ : ∃ Q, Q = MQ below (va_Qi (S := Nat → va_E) (fun r u => IX cT shM spM 72 ad u ∧ Kp w_correctedM E u ∧ ((((((((0 ≤ a0.toInt ∧ a0.toInt < (xi (E 0) 46).toInt) ∧ (0 ≤ a1.toInt ∧ a1.toInt < (xi (E 0) 8).toInt) ∧ (0 ≤ a2.toInt ∧ a2.toInt ≤ (xi (E 0) 1).toInt) ∧ (xi (E 20) a0.toInt.toNat).toInt ≤ a2.toInt) ∧ (xi (E 21) (16 * a0.toInt + a1.toInt).toNat).toInt ≤ a2.toInt) ∧ CdM E a0 a1 a2 0) → (r = tmB E a0 a1 a2)) ∧ (¬ ((((0 ≤ a0.toInt ∧ a0.toInt < (xi (E 0) 46).toInt) ∧ (0 ≤ a1.toInt ∧ a1.toInt < (xi (E 0) 8).toInt) ∧ (0 ≤ a2.toInt ∧ a2.toInt ≤ (xi (E 0) 1).toInt) ∧ (xi (E 20) a0.toInt.toNat).toInt ≤ a2.toInt) ∧ (xi (E 21) (16 * a0.toInt + a1.toInt).toNat).toInt ≤ a2.toInt) ∧ CdM E a0 a1 a2 0) → (r.toInt = -1000000000)))))) (HB dC dI 72 ad) (A)) args s 0 0 (A) := ⟨_, rfl⟩
  rw [← hQ, show entryFrame m args 4 = _ from (congrArg (fun z => entryFrame m z 4) hargs).trans (lg_entry_eq _ _ _)]
  generalize (lg_sl ([.ref (ad 0), .int a0, .int a1, .int a2]) ++ List.replicate (4 - (lg_sl ([.ref (ad 0), .int a0, .int a1, .int a2])).length) Slot.unset).toArray = ls at hl ⊢
  have hl : lv_has ls 4 [(0, .ref (ad 0)), (1, .int a0), (2, .int a1), (3, .int a2)] := hl
  refine lv_aload_n hx hb dX13_corrected_0 rfl (lv_at hl 0 rfl) ?_
  refine lv_iload_n hx hb dX13_corrected_1 rfl (lv_at hl 1 rfl) ?_
  refine lv_iload_n hx hb dX13_corrected_2 rfl (lv_at hl 2 rfl) ?_
  refine lv_iload_n hx hb dX13_corrected_3 rfl (lv_at hl 3 rfl) ?_
  refine th_i (va_runV (As := [.int a0, .int a1, .int a2]) (rest := []) ⟨hx, hb, hml, hown, hts⟩ (q_asksEntry l dC dI cT ad E s.heap.size a0 a1 a2 hI) (cwV 3 hts (gi_V (in_30 _ (zs4 (zs1 (zs1 (zs0))))) (in_30 _ (zs4 (zs1 (zs1 (zs1 (zs0)))))) (in_30 _ (zs4 (zs4 (zs0)))) (in_24 _ (zs4 (zs4 (zs4 (zs1 (zs1 (zs1 (zs0)))))))) (in_24 _ (zs16 (zs4 (zs4 (zs4 (zs1 (zs1 (zs1 (zs0)))))))))) rfl rfl rfl ⟨rfl, hz_yX13_asksEntry_3⟩ ⟨Nat.le_of_ble_eq_true rfl, Nat.le_of_ble_eq_true rfl⟩) ⟨HW_bl, va_recv hK hP (ci := 14) (q0 := 0) rfl (hI.ob 0 (Nat.le_of_ble_eq_true rfl) rfl), (HW_wi hP hK (WX_D hD) hS hA hEV)⟩ rfl rfl hl.1 rfl (lv_room (Nat.le_of_ble_eq_true rfl)) dX13_corrected_4 ⟨Nat.le_of_ble_eq_true rfl, Nat.le_of_ble_eq_true rfl⟩) (WX_D hD) hS hA (fun r1 E2 H locs hw hP hS => ?_)
  obtain ⟨hI, kq3, hw⟩ := hw
  have hKb := hKp
  have hKp := hKp.tr kq3 (wl_sub rfl rfl)
  rcases hw with hw | hw
  · -- asksEntry, case 0
    obtain ⟨rfl, f4, f5, f6, f7⟩ := hw
    have i8 : 0 ≤ (xi (E 0) 46).toInt ∧ (xi (E 0) 46).toInt ≤ 20 := (show 0 ≤ (xi (E 0) 46).toInt ∧ (xi (E 0) 46).toInt ≤ 20 from hI0.iv 0 (Nat.le_of_ble_eq_true rfl) rfl (Nat.le_of_ble_eq_true rfl) rfl)
    have i9 : 0 ≤ (xi (E 0) 8).toInt ∧ (xi (E 0) 8).toInt ≤ 16 := (show 0 ≤ (xi (E 0) 8).toInt ∧ (xi (E 0) 8).toInt ≤ 16 from hI0.iv 0 (Nat.le_of_ble_eq_true rfl) rfl (Nat.le_of_ble_eq_true rfl) rfl)
    have i10 : 0 ≤ (xi (E 0) 1).toInt ∧ (xi (E 0) 1).toInt ≤ 400 := (show 0 ≤ (xi (E 0) 1).toInt ∧ (xi (E 0) 1).toInt ≤ 400 from hI0.iv 0 (Nat.le_of_ble_eq_true rfl) rfl (Nat.le_of_ble_eq_true rfl) rfl)
    refine lv_if_eq (tgt := 30) hx hb dX13_corrected_7 (by decide) (fun c11 => ?_) (fun c11 => ?_)
    · --7 taken
      exact absurd c11 (by decide)
    · --7 not
      refine lv_aload_n hx hb dX13_corrected_10 rfl (lv_at hl 0 rfl) ?_
      refine lv_iload_n hx hb dX13_corrected_11 rfl (lv_at hl 1 rfl) ?_
      refine lv_iload_n hx hb dX13_corrected_12 rfl (lv_at hl 2 rfl) ?_
      refine lv_iload_n hx hb dX13_corrected_13 rfl (lv_at hl 3 rfl) ?_
      refine th_ri (va_runV (As := [.int a0, .int a1, .int a2]) (rest := []) ⟨hx, hb, hml, hown, hts⟩ (q_codeOfM l dC dI cT ad E2 H.size a0 a1 a2 hI f5 f6) (cwV 3 hts (gi_V (in_27 _ (zs16 (zs16 (zs4 (zs0))))) (in_27 _ (zs16 (zs16 (zs4 (zs1 (zs0)))))) (in_27 _ (zs16 (zs16 (zs4 (zs1 (zs1 (zs0))))))) (in_24 _ (zs4 (zs4 (zs4 (zs1 (zs1 (zs1 (zs0)))))))) (in_27 _ (zs16 (zs16 (zs4 (zs1 (zs1 (zs1 (zs0))))))))) rfl rfl rfl ⟨rfl, hz_yX13_codeOf_3⟩ ⟨Nat.le_of_ble_eq_true rfl, Nat.le_of_ble_eq_true rfl⟩) ⟨HW_bl, va_recv hK hP (ci := 14) (q0 := 0) rfl (hI.ob 0 (Nat.le_of_ble_eq_true rfl) rfl), (HW_wi hP hK (WX_D hD) hS hA hEV)⟩ rfl rfl hl.1 rfl (lv_room (Nat.le_of_ble_eq_true rfl)) dX13_corrected_14 ⟨Nat.le_of_ble_eq_true rfl, Nat.le_of_ble_eq_true rfl⟩) hS hP (fun r12 H locs hw hP hS => ?_)
      obtain ⟨f13, f14⟩ := hw
      have i15 : 0 ≤ (xi (E 0) 47).toInt ∧ (xi (E 0) 47).toInt ≤ 300 := (show 0 ≤ (xi (E 0) 47).toInt ∧ (xi (E 0) 47).toInt ≤ 300 from hI0.iv 0 (Nat.le_of_ble_eq_true rfl) rfl (Nat.le_of_ble_eq_true rfl) rfl)
      have k17 : KdN E E2 := KdN.of hKp rfl rfl rfl rfl rfl
      have k16 : CdM E a0 a1 a2 r12.toInt := k17.cd.mp f14
      refine lv_if_ne (tgt := 30) hx hb dX13_corrected_17 (by decide) (fun c18 => ?_) (fun c18 => ?_)
      · --17 taken
        have t19 : ¬ r12.toInt = 0 := ti_ne c18
        have i20 : 1 ≤ r12.toInt ∧ r12.toInt ≤ 5 := iv_ne_l t19 f13 (il_ 0)
        refine lv_ldcw hx hb hown (hts _ (vA_in _ _ (in_27 _ (zs16 (zs4 (zs1 (zs0))))))) dX13_corrected_30 ?_
        rw [hQ]
        exact W.iret (v := (-1000000000)) hx hb hr (fun t ht hW => ⟨⟨(-1000000000), E2, rfl, ⟨hI, hKp, ⟨fun q9 => absurd (k16.fn q9.2) (by omega), fun _ => rfl⟩⟩, by show va_P (dC, dI) vwCl (WX 72 ad E2) t.heap; rw [ht]; exact hP⟩, hS.F ht⟩) hS.2.2 dX13_corrected_33
      · --17 not
        have t21 : r12.toInt = 0 := ti_eq c18
        have i22 : 0 ≤ r12.toInt ∧ r12.toInt ≤ 0 := iv_eqi t21 f13 (il_ 0) (by decide)
        refine lv_aload_n hx hb dX13_corrected_20 rfl (lv_at hl 0 rfl) ?_
        refine lv_iload_n hx hb dX13_corrected_21 rfl (lv_at hl 1 rfl) ?_
        refine lv_iload_n hx hb dX13_corrected_22 rfl (lv_at hl 2 rfl) ?_
        refine lv_iload_n hx hb dX13_corrected_23 rfl (lv_at hl 3 rfl) ?_
        refine th_i (va_runV (As := [.int a0, .int a1, .int a2]) (rest := []) ⟨hx, hb, hml, hown, hts⟩ (q_correctedOfM l dC dI cT ad E2 H.size a0 a1 a2 hI f5 (by rw [k17.lr]; exact CdM_0 (by have h9 := k16; rw [show r12.toInt = 0 by omega] at h9; exact h9)) (by exact k17.txm hh0)) (cwV 3 hts (gi_V (in_30 _ (zs4 (zs4 (zs4 (zs0))))) (in_30 _ (zs4 (zs4 (zs4 (zs1 (zs0)))))) (in_30 _ (zs4 (zs4 (zs4 (zs1 (zs1 (zs0))))))) (in_24 _ (zs4 (zs4 (zs4 (zs1 (zs1 (zs1 (zs0)))))))) (in_30 _ (zs4 (zs4 (zs4 (zs1 (zs1 (zs1 (zs0))))))))) rfl rfl rfl ⟨rfl, hz_yX13_correctedOf_3⟩ ⟨Nat.le_of_ble_eq_true rfl, Nat.le_of_ble_eq_true rfl⟩) ⟨HW_bl, va_recv hK hP (ci := 14) (q0 := 0) rfl (hI.ob 0 (Nat.le_of_ble_eq_true rfl) rfl), (HW_wi hP hK (WX_D hD) hS hA hEV)⟩ rfl rfl hl.1 rfl (lv_room (Nat.le_of_ble_eq_true rfl)) dX13_corrected_24 ⟨Nat.le_of_ble_eq_true rfl, Nat.le_of_ble_eq_true rfl⟩) (WX_D hD) hS hA (fun r23 E24 H locs hw hP hS => ?_)
        obtain ⟨hI, kq25, hw⟩ := hw
        have hKb := hKp
        have hKp := hKp.tr kq25 (wl_sub rfl rfl)
        have f26 := hw
        refine lv_goto (tgt := 33) hx hb dX13_corrected_27 (by decide) ?_
        rw [hQ]
        exact W.iret (v := r23) hx hb hr (fun t ht hW => ⟨⟨r23, E24, rfl, ⟨hI, hKp, ⟨fun _ => (f26.trans (k17.tm a0 a1 a2)), fun q9 => absurd (⟨f4, by have h9 := k16; rw [show r12.toInt = 0 by omega] at h9; exact h9⟩ : (((0 ≤ a0.toInt ∧ a0.toInt < (xi (E 0) 46).toInt) ∧ (0 ≤ a1.toInt ∧ a1.toInt < (xi (E 0) 8).toInt) ∧ (0 ≤ a2.toInt ∧ a2.toInt ≤ (xi (E 0) 1).toInt) ∧ (xi (E 20) a0.toInt.toNat).toInt ≤ a2.toInt) ∧ (xi (E 21) (16 * a0.toInt + a1.toInt).toNat).toInt ≤ a2.toInt) ∧ CdM E a0 a1 a2 0) q9⟩⟩, by show va_P (dC, dI) vwCl (WX 72 ad E24) t.heap; rw [ht]; exact hP⟩, hS.F ht⟩) hS.2.2 dX13_corrected_33
  · -- asksEntry, case 1
    obtain ⟨rfl, f27⟩ := hw
    have i28 : 0 ≤ (xi (E 0) 46).toInt ∧ (xi (E 0) 46).toInt ≤ 20 := (show 0 ≤ (xi (E 0) 46).toInt ∧ (xi (E 0) 46).toInt ≤ 20 from hI0.iv 0 (Nat.le_of_ble_eq_true rfl) rfl (Nat.le_of_ble_eq_true rfl) rfl)
    have i29 : 0 ≤ (xi (E 0) 8).toInt ∧ (xi (E 0) 8).toInt ≤ 16 := (show 0 ≤ (xi (E 0) 8).toInt ∧ (xi (E 0) 8).toInt ≤ 16 from hI0.iv 0 (Nat.le_of_ble_eq_true rfl) rfl (Nat.le_of_ble_eq_true rfl) rfl)
    have i30 : 0 ≤ (xi (E 0) 1).toInt ∧ (xi (E 0) 1).toInt ≤ 400 := (show 0 ≤ (xi (E 0) 1).toInt ∧ (xi (E 0) 1).toInt ≤ 400 from hI0.iv 0 (Nat.le_of_ble_eq_true rfl) rfl (Nat.le_of_ble_eq_true rfl) rfl)
    refine lv_if_eq (tgt := 30) hx hb dX13_corrected_7 (by decide) (fun c31 => ?_) (fun c31 => ?_)
    · --7 taken
      refine lv_ldcw hx hb hown (hts _ (vA_in _ _ (in_27 _ (zs16 (zs4 (zs1 (zs0))))))) dX13_corrected_30 ?_
      rw [hQ]
      exact W.iret (v := (-1000000000)) hx hb hr (fun t ht hW => ⟨⟨(-1000000000), E2, rfl, ⟨hI, hKp, ⟨fun q9 => absurd q9.1 f27, fun _ => rfl⟩⟩, by show va_P (dC, dI) vwCl (WX 72 ad E2) t.heap; rw [ht]; exact hP⟩, hS.F ht⟩) hS.2.2 dX13_corrected_33
    · --7 not
      exact absurd c31 (by decide)
def v_placeOfM : List Cond := .code yX13_placeOf cX13_placeOf 9 (some .int) :: vA
abbrev rm_placeOfM : Room := { frames := 73, cells := 0, slots := 0, locals := 2920 }
def w_placeOfM : Nat → Nat → Bool := wl [12] [(0, 18), (0, 19), (0, 20), (0, 21), (0, 22), (0, 23), (0, 24), (0, 25), (0, 26)]
set_option maxHeartbeats 4000000 in
set_option maxRecDepth 100000 in
theorem q_placeOfM (l : Launch) (dC : Nat → ClassId) (dI : Nat → Nat → Nat) (cT : Nat → ClassId) (ad : Nat → Nat) (E : Nat → va_E) (sz : Nat) (a0 : Int32) (a1 : Int32) (a2 : Int32) (hI0 : IX cT shM spM 72 ad E) (hh0 : 0 ≤ a0.toInt ∧ a0.toInt ≤ 19) (hh1 : 0 ≤ a1.toInt ∧ a1.toInt ≤ 15) (hh2 : CdM E a0 a1 a2 0) (hh3 : TXM E) : Met l yX13_placeOf v_placeOfM rm_placeOfM (va_Pc [.ref (ad 0), .int a0, .int a1, .int a2] (HW dC dI (TYM cT) 72 ad E sz)) (va_Qi (S := Nat → va_E) (fun r u => IX cT shM spM 72 ad u ∧ Kp w_placeOfM E u ∧ ((PlS (fun o9 => CdM E a0 (nI o9) a2 0) (tmM E a0 a2) (xi (E 0) 8).toNatClampNeg a1.toNatClampNeg r.toInt))) (HB dC dI 72 ad) (va_A (WX 72 ad E) sz)) 0 0 (va_A (WX 72 ad E) sz) := by
  refine Met.ofW (cc := cX13_placeOf) (maxL := 9) (ret := (some .int)) (by decide) rfl ?_
  intro p e s m args below meth c s₁ B hml hv
  obtain ⟨hargs, hsz, hP, hK, hD0, hEV⟩ := hv
  subst hsz
  have hx := B.exec
  have hb := B.bytes
  have hr := B.returns
  have hts := atoms_spec (ws := v_placeOfM) B.pre
  have hown : s.vm.findClass RX13 = some m.cls := findClass_of_methodNamed B.named
  have hlocks := B.notSynchronized
  have hinX13 : ∀ w ∈ u_ws RX13 TX13 97, w ∈ v_placeOfM := fun w h => vA_in _ w (in_X13 w h)
  generalize hAe : va_A (WX 72 ad E) s.heap.size = A at hEV ⊢
  have hA : ∀ q : Nat, s.heap.size ≤ q → A q := fun q h => by rw [← hAe]; exact Or.inr h
  have hD : va_D A (WX 72 ad E) := by rw [← hAe]; exact hD0.self
  have hS : va_S A s.heap s.heap [] := va_S.rf
  have hI := hI0
  have hKp : Kp w_placeOfM E E := Kp.rf
  have hl := lv_entry ([.ref (ad 0), .int a0, .int a1, .int a2]) (n := 9) (Nat.le_of_ble_eq_true rfl)
  obtain ⟨Q, hQ⟩ : ∃ Q, Q = MQ below (va_Qi (S := Nat → va_E) (fun r u => IX cT shM spM 72 ad u ∧ Kp w_placeOfM E u ∧ ((PlS (fun o9 => CdM E a0 (nI o9) a2 0) (tmM E a0 a2) (xi (E 0) 8).toNatClampNeg a1.toNatClampNeg r.toInt))) (HB dC dI 72 ad) (A)) args s 0 0 (A) := ⟨_, rfl⟩
  rw [← hQ, show entryFrame m args 9 = _ from (congrArg (fun z => entryFrame m z 9) hargs).trans (lg_entry_eq _ _ _)]
  generalize (lg_sl ([.ref (ad 0), .int a0, .int a1, .int a2]) ++ List.replicate (9 - (lg_sl ([.ref (ad 0), .int a0, .int a1, .int a2])).length) Slot.unset).toArray = ls at hl ⊢
  have hl : lv_has ls 9 [(0, .ref (ad 0)), (1, .int a0), (2, .int a1), (3, .int a2)] := hl
  have z0z : (0 : Int32).toInt = 0 := rfl
  have ib8 : 0 ≤ (xi (E 0) 8).toInt ∧ (xi (E 0) 8).toInt ≤ 16 := hI0.iv 0 (Nat.le_of_ble_eq_true rfl) rfl (Nat.le_of_ble_eq_true rfl) rfl
  have z0 := ln_0
  have z1 := ln_1
  have z2 := ln_2
  have z5 := ln_5
  refine lv_aload_n hx hb dX13_placeOf_0 rfl (lv_at hl 0 rfl) ?_
  refine lv_iload_n hx hb dX13_placeOf_1 rfl (lv_at hl 1 rfl) ?_
  refine lv_iload_n hx hb dX13_placeOf_2 rfl (lv_at hl 2 rfl) ?_
  refine lv_iload_n hx hb dX13_placeOf_3 rfl (lv_at hl 3 rfl) ?_
  refine th_i (va_runV (As := [.int a0, .int a1, .int a2]) (rest := []) ⟨hx, hb, hml, hown, hts⟩ (q_correctedOfM l dC dI cT ad E s.heap.size a0 a1 a2 hI hh0 (by exact CdM_0 hh2) (by exact hh3)) (cwV 3 hts (gi_V (in_30 _ (zs4 (zs4 (zs4 (zs0))))) (in_30 _ (zs4 (zs4 (zs4 (zs1 (zs0)))))) (in_30 _ (zs4 (zs4 (zs4 (zs1 (zs1 (zs0))))))) (in_24 _ (zs4 (zs4 (zs4 (zs1 (zs1 (zs1 (zs0)))))))) (in_30 _ (zs4 (zs4 (zs4 (zs1 (zs1 (zs1 (zs0))))))))) rfl rfl rfl ⟨rfl, hz_yX13_correctedOf_3⟩ ⟨Nat.le_of_ble_eq_true rfl, Nat.le_of_ble_eq_true rfl⟩) ⟨HW_bl, va_recv hK hP (ci := 14) (q0 := 0) rfl (hI.ob 0 (Nat.le_of_ble_eq_true rfl) rfl), (HW_wi hP hK (WX_D hD) hS hA hEV)⟩ rfl rfl hl.1 rfl (lv_room (Nat.le_of_ble_eq_true rfl)) dX13_placeOf_4 ⟨Nat.le_of_ble_eq_true rfl, Nat.le_of_ble_eq_true rfl⟩) (WX_D hD) hS hA (fun r1 E2 H locs hw hP hS => ?_)
  obtain ⟨hI, kq3, hw⟩ := hw
  have hKb := hKp
  have hKp := hKp.tr kq3 (wl_sub rfl rfl)
  have f4 := hw
  refine lv_istore (lv' := [(4, .int r1), (0, .ref (ad 0)), (1, .int a0), (2, .int a1), (3, .int a2)]) hx hb dX13_placeOf_7 hl (by decide) rfl (fun ls hl => ?_)
  refine lv_iconst (v := 0) hx hb dX13_placeOf_9 (by decide) ?_
  refine lv_istore (lv' := [(5, .int 0), (4, .int r1), (0, .ref (ad 0)), (1, .int a0), (2, .int a1), (3, .int a2)]) hx hb dX13_placeOf_10 hl (by decide) rfl (fun ls hl => ?_)
  refine lv_iconst (v := 0) hx hb dX13_placeOf_12 (by decide) ?_
  refine lv_istore (lv' := [(6, .int 0), (5, .int 0), (4, .int r1), (0, .ref (ad 0)), (1, .int a0), (2, .int a1), (3, .int a2)]) hx hb dX13_placeOf_13 hl (by decide) rfl (fun ls hl => ?_)
  refine lv_iconst (v := 0) hx hb dX13_placeOf_15 (by decide) ?_
  refine lv_istore (lv' := [(7, .int 0), (6, .int 0), (5, .int 0), (4, .int r1), (0, .ref (ad 0)), (1, .int a0), (2, .int a1), (3, .int a2)]) hx hb dX13_placeOf_16 hl (by decide) rfl (fun ls hl => ?_)
  have hL18 : ∀ d : Nat, ∀ (v18_7 : Int32) (v18_6 : Int32) (v18_5 : Int32) (E18_ : Nat → va_E) (H : Heap) (locs : List Loc) (ls : Array Slot), 0 ≤ v18_7.toInt ∧ v18_7.toInt ≤ 16 → 0 ≤ v18_6.toInt ∧ v18_6.toInt ≤ 16 → 0 ≤ v18_5.toInt ∧ v18_5.toInt ≤ 16 → CnR (fun o9 => CdM E a0 (nI o9) a2 0 ∧ (tmM E a0 a2 o9).toInt < r1.toInt) v18_7.toNatClampNeg v18_5.toInt → CnR (fun o9 => CdM E a0 (nI o9) a2 0 ∧ (tmM E a0 a2 o9).toInt = r1.toInt) v18_7.toNatClampNeg v18_6.toInt → v18_7.toInt ≤ (xi (E 0) 8).toInt → 0 ≤ v18_5.toInt ∧ v18_5.toInt ≤ v18_7.toInt → 0 ≤ v18_6.toInt ∧ v18_6.toInt ≤ v18_7.toInt → 16 - v18_7.toInt < (d : Int) → IX cT shM spM 72 ad E18_ → Kp w_placeOfM E E18_ → va_P (dC, dI) vwCl (WX 72 ad E18_) H → va_S A s.heap H locs → lv_has ls 9 [(7, .int v18_7), (6, .int v18_6), (5, .int v18_5), (4, .int r1), (0, .ref (ad 0)), (1, .int a0), (2, .int a1), (3, .int a2)] → W p l e (headSpec v_placeOfM rm_placeOfM).room s m args below meth c H locs 0 0 Q (F0 m 18 ls []) := by
    intro d
    induction d with
    | zero =>
      intro v18_7 v18_6 v18_5 E18_ H locs ls hv18_7 hv18_6 hv18_5 hx18_0 hx18_1 hx18_2 hx18_3 hx18_4 hx18_5 hI hKp hP hS hl
      exact absurd hx18_5 (by first | exact ms_zu hv18_7.2 | omega)
    | succ d ih18 =>
      intro v18_7 v18_6 v18_5 E18_ H locs ls hv18_7 hv18_6 hv18_5 hx18_0 hx18_1 hx18_2 hx18_3 hx18_4 hx18_5 hI hKp hP hS hl
      refine lv_iload hx hb dX13_placeOf_18 (lv_at hl 0 rfl) ?_
      refine lv_aload_n hx hb dX13_placeOf_20 rfl (lv_at hl 4 rfl) ?_
      have i5 : 0 ≤ (xi (E 0) 8).toInt ∧ (xi (E 0) 8).toInt ≤ 16 := hI0.iv 0 (Nat.le_of_ble_eq_true rfl) rfl (Nat.le_of_ble_eq_true rfl) rfl
      refine th_get (ci := 14) (C := RX13) (T := TX13) (N := 97) (v := .int (xi (E 0) 8)) hx hb hts hinX13 hown hK hP hI 0 (Nat.le_of_ble_eq_true rfl) rfl rfl 8 (Nat.le_of_ble_eq_true rfl) (hts _ (vA_in _ _ (in_24 _ (zs16 (zs4 (zs1 (zs1 (zs0)))))))) (fun _ h9 => h9) (th_v0 hKp hI0 0 (Nat.le_of_ble_eq_true rfl) rfl (Nat.le_of_ble_eq_true rfl) rfl rfl) dX13_placeOf_21 ?_
      refine lv_icmp_ge (tgt := 91) hx hb dX13_placeOf_24 (by decide) (fun c6 => ?_) (fun c6 => ?_)
      · --24 taken
        have t7 : (xi (E 0) 8).toInt ≤ v18_7.toInt := ti_le c6
        refine lv_iconst (v := 5) hx hb dX13_placeOf_91 (by decide) ?_
        refine lv_iconst (v := 2) hx hb dX13_placeOf_92 (by decide) ?_
        refine lv_iload hx hb dX13_placeOf_93 (lv_at hl 2 rfl) ?_
        refine lv_imul hx hb dX13_placeOf_95 ?_
        refine lv_topi (fun y8 ey8 => ?_)
        obtain ⟨ty8, iy8⟩ := ti_mul (e := 0) (f := 32) ln_2 hv18_5 ey8 (by decide)
        have ty8 : y8.toInt = 2 * v18_5.toInt := ty8
        have iy8 : 0 ≤ y8.toInt ∧ y8.toInt ≤ 32 := iy8
        refine lv_iconst (v := 1) hx hb dX13_placeOf_96 (by decide) ?_
        refine lv_iadd hx hb dX13_placeOf_97 ?_
        refine lv_topi (fun y9 ey9 => ?_)
        obtain ⟨ty9, iy9⟩ := ti_add (e := 1) (f := 33) iy8 ln_1 ey9 (by decide)
        have ty9 : y9.toInt = y8.toInt + 1 := ty9
        have iy9 : 1 ≤ y9.toInt ∧ y9.toInt ≤ 33 := iy9
        refine lv_iload hx hb dX13_placeOf_98 (lv_at hl 1 rfl) ?_
        refine lv_iadd hx hb dX13_placeOf_100 ?_
        refine lv_topi (fun y10 ey10 => ?_)
        obtain ⟨ty10, iy10⟩ := ti_add (e := 1) (f := 49) iy9 hv18_6 ey10 (by decide)
        have ty10 : y10.toInt = y9.toInt + v18_6.toInt := ty10
        have iy10 : 1 ≤ y10.toInt ∧ y10.toInt ≤ 49 := iy10
        refine lv_imul hx hb dX13_placeOf_101 ?_
        refine lv_topi (fun y11 ey11 => ?_)
        obtain ⟨ty11, iy11⟩ := ti_mul (e := 5) (f := 245) ln_5 iy10 ey11 (by decide)
        have ty11 : y11.toInt = 5 * y10.toInt := ty11
        have iy11 : 5 ≤ y11.toInt ∧ y11.toInt ≤ 245 := iy11
        rw [hQ]
        exact W.iret (v := y11) hx hb hr (fun t ht hW => ⟨⟨y11, E18_, rfl, ⟨hI, hKp, ⟨v18_5.toInt, v18_6.toInt, (by have h9 := hx18_0; rw [show v18_7.toNatClampNeg = (xi (E 0) 8).toNatClampNeg by rw [tn_, tn_]; omega] at h9; rw [show tmM E a0 a2 a1.toNatClampNeg = r1 from by show tmB E a0 (nI a1.toNatClampNeg) a2 = _; rw [nI_tn (show 0 ≤ a1.toInt by omega)]; exact f4.symm]; exact h9), (by have h9 := hx18_1; rw [show v18_7.toNatClampNeg = (xi (E 0) 8).toNatClampNeg by rw [tn_, tn_]; omega] at h9; rw [show tmM E a0 a2 a1.toNatClampNeg = r1 from by show tmB E a0 (nI a1.toNatClampNeg) a2 = _; rw [nI_tn (show 0 ≤ a1.toInt by omega)]; exact f4.symm]; exact h9), by omega⟩⟩, by show va_P (dC, dI) vwCl (WX 72 ad E18_) t.heap; rw [ht]; exact hP⟩, hS.F ht⟩) hS.2.2 dX13_placeOf_102
      · --24 not
        have t12 : v18_7.toInt < (xi (E 0) 8).toInt := ti_nle c6
        have i13 : 0 ≤ v18_7.toInt ∧ v18_7.toInt ≤ 15 := iv_lt_l t12 hv18_7 i5 (by decide)
        have i14 : 1 ≤ (xi (E 0) 8).toInt ∧ (xi (E 0) 8).toInt ≤ 16 := iv_lt_r t12 hv18_7 i5 (by decide)
        have i15 : 0 ≤ v18_5.toInt ∧ v18_5.toInt ≤ 15 := by omega
        have i16 : 0 ≤ v18_6.toInt ∧ v18_6.toInt ≤ 15 := by omega
        refine lv_aload_n hx hb dX13_placeOf_27 rfl (lv_at hl 4 rfl) ?_
        refine lv_iload_n hx hb dX13_placeOf_28 rfl (lv_at hl 5 rfl) ?_
        refine lv_iload hx hb dX13_placeOf_29 (lv_at hl 0 rfl) ?_
        refine lv_iload_n hx hb dX13_placeOf_31 rfl (lv_at hl 7 rfl) ?_
        refine th_ri (va_runV (As := [.int a0, .int v18_7, .int a2]) (rest := []) ⟨hx, hb, hml, hown, hts⟩ (q_codeOfM l dC dI cT ad E18_ H.size a0 v18_7 a2 hI hh0 i13) (cwV 3 hts (gi_V (in_27 _ (zs16 (zs16 (zs4 (zs0))))) (in_27 _ (zs16 (zs16 (zs4 (zs1 (zs0)))))) (in_27 _ (zs16 (zs16 (zs4 (zs1 (zs1 (zs0))))))) (in_24 _ (zs4 (zs4 (zs4 (zs1 (zs1 (zs1 (zs0)))))))) (in_27 _ (zs16 (zs16 (zs4 (zs1 (zs1 (zs1 (zs0))))))))) rfl rfl rfl ⟨rfl, hz_yX13_codeOf_3⟩ ⟨Nat.le_of_ble_eq_true rfl, Nat.le_of_ble_eq_true rfl⟩) ⟨HW_bl, va_recv hK hP (ci := 14) (q0 := 0) rfl (hI.ob 0 (Nat.le_of_ble_eq_true rfl) rfl), (HW_wi hP hK (WX_D hD) hS hA hEV)⟩ rfl rfl hl.1 rfl (lv_room (Nat.le_of_ble_eq_true rfl)) dX13_placeOf_32 ⟨Nat.le_of_ble_eq_true rfl, Nat.le_of_ble_eq_true rfl⟩) hS hP (fun r17 H locs hw hP hS => ?_)
        obtain ⟨f18, f19⟩ := hw
        have i20 : 0 ≤ (xi (E 0) 47).toInt ∧ (xi (E 0) 47).toInt ≤ 300 := (show 0 ≤ (xi (E 0) 47).toInt ∧ (xi (E 0) 47).toInt ≤ 300 from hI0.iv 0 (Nat.le_of_ble_eq_true rfl) rfl (Nat.le_of_ble_eq_true rfl) rfl)
        have k22 : KdN E E18_ := KdN.of hKp rfl rfl rfl rfl rfl
        have k21 : CdM E a0 (nI v18_7.toNatClampNeg) a2 r17.toInt := by rw [nI_tn (show 0 ≤ v18_7.toInt by omega)]; exact k22.cd.mp f19
        refine lv_if_eq (tgt := 41) hx hb dX13_placeOf_35 (by decide) (fun c23 => ?_) (fun c23 => ?_)
        · --35 taken
          have t24 : r17.toInt = 0 := ti_eq c23
          have i25 : 0 ≤ r17.toInt ∧ r17.toInt ≤ 0 := iv_eqi t24 f18 (il_ 0) (by decide)
          refine lv_aload_n hx hb dX13_placeOf_41 rfl (lv_at hl 4 rfl) ?_
          refine lv_iload_n hx hb dX13_placeOf_42 rfl (lv_at hl 5 rfl) ?_
          refine lv_iload hx hb dX13_placeOf_43 (lv_at hl 0 rfl) ?_
          refine lv_iload_n hx hb dX13_placeOf_45 rfl (lv_at hl 7 rfl) ?_
          refine th_i (va_runV (As := [.int a0, .int v18_7, .int a2]) (rest := []) ⟨hx, hb, hml, hown, hts⟩ (q_correctedOfM l dC dI cT ad E18_ H.size a0 v18_7 a2 hI hh0 (by rw [k22.lr]; exact CdM_0 (by have h9 := k21; rw [nI_tn (show 0 ≤ v18_7.toInt by omega), show r17.toInt = 0 by omega] at h9; exact h9)) (by exact k22.txm hh3)) (cwV 3 hts (gi_V (in_30 _ (zs4 (zs4 (zs4 (zs0))))) (in_30 _ (zs4 (zs4 (zs4 (zs1 (zs0)))))) (in_30 _ (zs4 (zs4 (zs4 (zs1 (zs1 (zs0))))))) (in_24 _ (zs4 (zs4 (zs4 (zs1 (zs1 (zs1 (zs0)))))))) (in_30 _ (zs4 (zs4 (zs4 (zs1 (zs1 (zs1 (zs0))))))))) rfl rfl rfl ⟨rfl, hz_yX13_correctedOf_3⟩ ⟨Nat.le_of_ble_eq_true rfl, Nat.le_of_ble_eq_true rfl⟩) ⟨HW_bl, va_recv hK hP (ci := 14) (q0 := 0) rfl (hI.ob 0 (Nat.le_of_ble_eq_true rfl) rfl), (HW_wi hP hK (WX_D hD) hS hA hEV)⟩ rfl rfl hl.1 rfl (lv_room (Nat.le_of_ble_eq_true rfl)) dX13_placeOf_46 ⟨Nat.le_of_ble_eq_true rfl, Nat.le_of_ble_eq_true rfl⟩) (WX_D hD) hS hA (fun r26 E27 H locs hw hP hS => ?_)
          obtain ⟨hI, kq28, hw⟩ := hw
          have hKb := hKp
          have hKp := hKp.tr kq28 (wl_sub rfl rfl)
          have f29 := hw
          have k30 : r26 = tmM E a0 a2 v18_7.toNatClampNeg := by show r26 = tmB E a0 (nI v18_7.toNatClampNeg) a2; rw [nI_tn (show 0 ≤ v18_7.toInt by omega)]; exact f29.trans (k22.tm a0 v18_7 a2)
          refine lv_istore (lv' := [(8, .int r26), (7, .int v18_7), (6, .int v18_6), (5, .int v18_5), (4, .int r1), (0, .ref (ad 0)), (1, .int a0), (2, .int a1), (3, .int a2)]) hx hb dX13_placeOf_49 hl (by decide) rfl (fun ls hl => ?_)
          refine lv_iload hx hb dX13_placeOf_51 (lv_at hl 3 rfl) ?_
          refine lv_iload hx hb dX13_placeOf_53 (lv_at hl 0 rfl) ?_
          refine lv_iload hx hb dX13_placeOf_55 (lv_at hl 4 rfl) ?_
          refine lv_icmp_ge (tgt := 64) hx hb dX13_placeOf_57 (by decide) (fun c31 => ?_) (fun c31 => ?_)
          · --57 taken
            have t32 : r1.toInt ≤ r26.toInt := ti_le c31
            refine lv_iconst (v := 0) hx hb dX13_placeOf_64 (by decide) ?_
            refine lv_iadd hx hb dX13_placeOf_65 ?_
            refine lv_topi (fun y33 ey33 => ?_)
            obtain ⟨ty33, iy33⟩ := ti_add (e := 0) (f := 15) i15 ln_0 ey33 (by decide)
            have ty33 : y33.toInt = v18_5.toInt + 0 := ty33
            have iy33 : 0 ≤ y33.toInt ∧ y33.toInt ≤ 15 := iy33
            refine lv_istore (lv' := [(5, .int y33), (8, .int r26), (7, .int v18_7), (6, .int v18_6), (4, .int r1), (0, .ref (ad 0)), (1, .int a0), (2, .int a1), (3, .int a2)]) hx hb dX13_placeOf_66 hl (by decide) rfl (fun ls hl => ?_)
            refine lv_iload hx hb dX13_placeOf_68 (lv_at hl 3 rfl) ?_
            refine lv_iload hx hb dX13_placeOf_70 (lv_at hl 1 rfl) ?_
            refine lv_iload hx hb dX13_placeOf_72 (lv_at hl 4 rfl) ?_
            refine lv_icmp_ne (tgt := 81) hx hb dX13_placeOf_74 (by decide) (fun c34 => ?_) (fun c34 => ?_)
            · --74 taken
              have t35 : ¬ r26.toInt = r1.toInt := ti_ne c34
              refine lv_iconst (v := 0) hx hb dX13_placeOf_81 (by decide) ?_
              refine lv_iadd hx hb dX13_placeOf_82 ?_
              refine lv_topi (fun y36 ey36 => ?_)
              obtain ⟨ty36, iy36⟩ := ti_add (e := 0) (f := 15) i16 ln_0 ey36 (by decide)
              have ty36 : y36.toInt = v18_6.toInt + 0 := ty36
              have iy36 : 0 ≤ y36.toInt ∧ y36.toInt ≤ 15 := iy36
              refine lv_istore (lv' := [(6, .int y36), (5, .int y33), (8, .int r26), (7, .int v18_7), (4, .int r1), (0, .ref (ad 0)), (1, .int a0), (2, .int a1), (3, .int a2)]) hx hb dX13_placeOf_83 hl (by decide) rfl (fun ls hl => ?_)
              obtain ⟨y37, ey37⟩ : ∃ y : Int32, y = v18_7 + (1 : Int32) := ⟨_, rfl⟩
              obtain ⟨ty37, iy37⟩ := ti_add (e := 1) (f := 16) i13 ln_1 ey37 (by decide)
              have ty37 : y37.toInt = v18_7.toInt + 1 := ty37
              have iy37 : 1 ≤ y37.toInt ∧ y37.toInt ≤ 16 := iy37
              refine lv_iinc (v := y37) (lv' := [(7, .int y37), (6, .int y36), (5, .int y33), (8, .int r26), (4, .int r1), (0, .ref (ad 0)), (1, .int a0), (2, .int a1), (3, .int a2)]) hx hb dX13_placeOf_85 hl (k := 3) rfl (by rw [ey37]; rfl) (by decide) rfl (fun ls hl => ?_)
              refine lv_goto (tgt := 18) hx hb dX13_placeOf_88 (by decide) ?_
              exact ih18 y37 y36 y33 E27 _ _ _ (iv_w iy37 (by decide)) (iv_w iy36 (by decide)) (iv_w iy33 (by decide)) (hx18_0.no (fun q9 => by have h9 := q9.2; rw [← k30] at h9; omega) (by omega) (by rw [tn_ y37, tn_ v18_7]; omega)) (hx18_1.no (fun q9 => by have h9 := q9.2; rw [← k30] at h9; omega) (by omega) (by rw [tn_ y37, tn_ v18_7]; omega)) (by omega) (by omega) (by omega) (by first | exact ms_su hx18_5 ty37 (by decide) | omega) hI hKp hP hS (lv_sub hl [0, 1, 2, 4, 5, 6, 7, 8] rfl)
            · --74 not
              have t38 : r26.toInt = r1.toInt := ti_eq c34
              refine lv_iconst (v := 1) hx hb dX13_placeOf_77 (by decide) ?_
              refine lv_goto (tgt := 82) hx hb dX13_placeOf_78 (by decide) ?_
              refine lv_iadd hx hb dX13_placeOf_82 ?_
              refine lv_topi (fun y39 ey39 => ?_)
              obtain ⟨ty39, iy39⟩ := ti_add (e := 1) (f := 16) i16 ln_1 ey39 (by decide)
              have ty39 : y39.toInt = v18_6.toInt + 1 := ty39
              have iy39 : 1 ≤ y39.toInt ∧ y39.toInt ≤ 16 := iy39
              refine lv_istore (lv' := [(6, .int y39), (5, .int y33), (8, .int r26), (7, .int v18_7), (4, .int r1), (0, .ref (ad 0)), (1, .int a0), (2, .int a1), (3, .int a2)]) hx hb dX13_placeOf_83 hl (by decide) rfl (fun ls hl => ?_)
              obtain ⟨y40, ey40⟩ : ∃ y : Int32, y = v18_7 + (1 : Int32) := ⟨_, rfl⟩
              obtain ⟨ty40, iy40⟩ := ti_add (e := 1) (f := 16) i13 ln_1 ey40 (by decide)
              have ty40 : y40.toInt = v18_7.toInt + 1 := ty40
              have iy40 : 1 ≤ y40.toInt ∧ y40.toInt ≤ 16 := iy40
              refine lv_iinc (v := y40) (lv' := [(7, .int y40), (6, .int y39), (5, .int y33), (8, .int r26), (4, .int r1), (0, .ref (ad 0)), (1, .int a0), (2, .int a1), (3, .int a2)]) hx hb dX13_placeOf_85 hl (k := 3) rfl (by rw [ey40]; rfl) (by decide) rfl (fun ls hl => ?_)
              refine lv_goto (tgt := 18) hx hb dX13_placeOf_88 (by decide) ?_
              exact ih18 y40 y39 y33 E27 _ _ _ (iv_w iy40 (by decide)) (iv_w iy39 (by decide)) (iv_w iy33 (by decide)) (hx18_0.no (fun q9 => by have h9 := q9.2; rw [← k30] at h9; omega) (by omega) (by rw [tn_ y40, tn_ v18_7]; omega)) (hx18_1.one ⟨(by have h9 := k21; rw [show r17.toInt = 0 by omega] at h9; exact h9), by rw [← k30]; omega⟩ (by omega) (by rw [tn_ y40, tn_ v18_7]; omega)) (by omega) (by omega) (by omega) (by first | exact ms_su hx18_5 ty40 (by decide) | omega) hI hKp hP hS (lv_sub hl [0, 1, 2, 4, 5, 6, 7, 8] rfl)
          · --57 not
            have t41 : r26.toInt < r1.toInt := ti_nle c31
            have i42 : -2147483648 ≤ r26.toInt ∧ r26.toInt ≤ 2147483646 := iv_lt_l t41 (iv_all _) (iv_all _) (by decide)
            have i43 : -2147483647 ≤ r1.toInt ∧ r1.toInt ≤ 2147483647 := iv_lt_r t41 (iv_all _) (iv_all _) (by decide)
            refine lv_iconst (v := 1) hx hb dX13_placeOf_60 (by decide) ?_
            refine lv_goto (tgt := 65) hx hb dX13_placeOf_61 (by decide) ?_
            refine lv_iadd hx hb dX13_placeOf_65 ?_
            refine lv_topi (fun y44 ey44 => ?_)
            obtain ⟨ty44, iy44⟩ := ti_add (e := 1) (f := 16) i15 ln_1 ey44 (by decide)
            have ty44 : y44.toInt = v18_5.toInt + 1 := ty44
            have iy44 : 1 ≤ y44.toInt ∧ y44.toInt ≤ 16 := iy44
            refine lv_istore (lv' := [(5, .int y44), (8, .int r26), (7, .int v18_7), (6, .int v18_6), (4, .int r1), (0, .ref (ad 0)), (1, .int a0), (2, .int a1), (3, .int a2)]) hx hb dX13_placeOf_66 hl (by decide) rfl (fun ls hl => ?_)
            refine lv_iload hx hb dX13_placeOf_68 (lv_at hl 3 rfl) ?_
            refine lv_iload hx hb dX13_placeOf_70 (lv_at hl 1 rfl) ?_
            refine lv_iload hx hb dX13_placeOf_72 (lv_at hl 4 rfl) ?_
            refine lv_icmp_ne (tgt := 81) hx hb dX13_placeOf_74 (by decide) (fun c45 => ?_) (fun c45 => ?_)
            · --74 taken
              have t46 : ¬ r26.toInt = r1.toInt := ti_ne c45
              refine lv_iconst (v := 0) hx hb dX13_placeOf_81 (by decide) ?_
              refine lv_iadd hx hb dX13_placeOf_82 ?_
              refine lv_topi (fun y47 ey47 => ?_)
              obtain ⟨ty47, iy47⟩ := ti_add (e := 0) (f := 15) i16 ln_0 ey47 (by decide)
              have ty47 : y47.toInt = v18_6.toInt + 0 := ty47
              have iy47 : 0 ≤ y47.toInt ∧ y47.toInt ≤ 15 := iy47
              refine lv_istore (lv' := [(6, .int y47), (5, .int y44), (8, .int r26), (7, .int v18_7), (4, .int r1), (0, .ref (ad 0)), (1, .int a0), (2, .int a1), (3, .int a2)]) hx hb dX13_placeOf_83 hl (by decide) rfl (fun ls hl => ?_)
              obtain ⟨y48, ey48⟩ : ∃ y : Int32, y = v18_7 + (1 : Int32) := ⟨_, rfl⟩
              obtain ⟨ty48, iy48⟩ := ti_add (e := 1) (f := 16) i13 ln_1 ey48 (by decide)
              have ty48 : y48.toInt = v18_7.toInt + 1 := ty48
              have iy48 : 1 ≤ y48.toInt ∧ y48.toInt ≤ 16 := iy48
              refine lv_iinc (v := y48) (lv' := [(7, .int y48), (6, .int y47), (5, .int y44), (8, .int r26), (4, .int r1), (0, .ref (ad 0)), (1, .int a0), (2, .int a1), (3, .int a2)]) hx hb dX13_placeOf_85 hl (k := 3) rfl (by rw [ey48]; rfl) (by decide) rfl (fun ls hl => ?_)
              refine lv_goto (tgt := 18) hx hb dX13_placeOf_88 (by decide) ?_
              exact ih18 y48 y47 y44 E27 _ _ _ (iv_w iy48 (by decide)) (iv_w iy47 (by decide)) (iv_w iy44 (by decide)) (hx18_0.one ⟨(by have h9 := k21; rw [show r17.toInt = 0 by omega] at h9; exact h9), by rw [← k30]; omega⟩ (by omega) (by rw [tn_ y48, tn_ v18_7]; omega)) (hx18_1.no (fun q9 => by have h9 := q9.2; rw [← k30] at h9; omega) (by omega) (by rw [tn_ y48, tn_ v18_7]; omega)) (by omega) (by omega) (by omega) (by first | exact ms_su hx18_5 ty48 (by decide) | omega) hI hKp hP hS (lv_sub hl [0, 1, 2, 4, 5, 6, 7, 8] rfl)
            · --74 not
              have t49 : r26.toInt = r1.toInt := ti_eq c45
              have i50 : -2147483647 ≤ r26.toInt ∧ r26.toInt ≤ 2147483646 := iv_eqi t49 i42 i43 (by decide)
              have i51 : -2147483647 ≤ r1.toInt ∧ r1.toInt ≤ 2147483646 := iv_eqi t49.symm i43 i42 (by decide)
              refine lv_iconst (v := 1) hx hb dX13_placeOf_77 (by decide) ?_
              refine lv_goto (tgt := 82) hx hb dX13_placeOf_78 (by decide) ?_
              refine lv_iadd hx hb dX13_placeOf_82 ?_
              refine lv_topi (fun y52 ey52 => ?_)
              obtain ⟨ty52, iy52⟩ := ti_add (e := 1) (f := 16) i16 ln_1 ey52 (by decide)
              have ty52 : y52.toInt = v18_6.toInt + 1 := ty52
              have iy52 : 1 ≤ y52.toInt ∧ y52.toInt ≤ 16 := iy52
              refine lv_istore (lv' := [(6, .int y52), (5, .int y44), (8, .int r26), (7, .int v18_7), (4, .int r1), (0, .ref (ad 0)), (1, .int a0), (2, .int a1), (3, .int a2)]) hx hb dX13_placeOf_83 hl (by decide) rfl (fun ls hl => ?_)
              obtain ⟨y53, ey53⟩ : ∃ y : Int32, y = v18_7 + (1 : Int32) := ⟨_, rfl⟩
              obtain ⟨ty53, iy53⟩ := ti_add (e := 1) (f := 16) i13 ln_1 ey53 (by decide)
              have ty53 : y53.toInt = v18_7.toInt + 1 := ty53
              have iy53 : 1 ≤ y53.toInt ∧ y53.toInt ≤ 16 := iy53
              refine lv_iinc (v := y53) (lv' := [(7, .int y53), (6, .int y52), (5, .int y44), (8, .int r26), (4, .int r1), (0, .ref (ad 0)), (1, .int a0), (2, .int a1), (3, .int a2)]) hx hb dX13_placeOf_85 hl (k := 3) rfl (by rw [ey53]; rfl) (by decide) rfl (fun ls hl => ?_)
              refine lv_goto (tgt := 18) hx hb dX13_placeOf_88 (by decide) ?_
              exact ih18 y53 y52 y44 E27 _ _ _ (iv_w iy53 (by decide)) (iv_w iy52 (by decide)) (iv_w iy44 (by decide)) (hx18_0.one ⟨(by have h9 := k21; rw [show r17.toInt = 0 by omega] at h9; exact h9), by rw [← k30]; omega⟩ (by omega) (by rw [tn_ y53, tn_ v18_7]; omega)) (hx18_1.one ⟨(by have h9 := k21; rw [show r17.toInt = 0 by omega] at h9; exact h9), by rw [← k30]; omega⟩ (by omega) (by rw [tn_ y53, tn_ v18_7]; omega)) (by omega) (by omega) (by omega) (by first | exact ms_su hx18_5 ty53 (by decide) | omega) hI hKp hP hS (lv_sub hl [0, 1, 2, 4, 5, 6, 7, 8] rfl)
        · --35 not
          have t54 : ¬ r17.toInt = 0 := ti_ne c23
          have i55 : 1 ≤ r17.toInt ∧ r17.toInt ≤ 5 := iv_ne_l t54 f18 (il_ 0)
          refine lv_goto (tgt := 85) hx hb dX13_placeOf_38 (by decide) ?_
          obtain ⟨y56, ey56⟩ : ∃ y : Int32, y = v18_7 + (1 : Int32) := ⟨_, rfl⟩
          obtain ⟨ty56, iy56⟩ := ti_add (e := 1) (f := 16) i13 ln_1 ey56 (by decide)
          have ty56 : y56.toInt = v18_7.toInt + 1 := ty56
          have iy56 : 1 ≤ y56.toInt ∧ y56.toInt ≤ 16 := iy56
          refine lv_iinc (v := y56) (lv' := [(7, .int y56), (6, .int v18_6), (5, .int v18_5), (4, .int r1), (0, .ref (ad 0)), (1, .int a0), (2, .int a1), (3, .int a2)]) hx hb dX13_placeOf_85 hl (k := 0) rfl (by rw [ey56]; rfl) (by decide) rfl (fun ls hl => ?_)
          refine lv_goto (tgt := 18) hx hb dX13_placeOf_88 (by decide) ?_
          exact ih18 y56 v18_6 v18_5 E18_ _ _ _ (iv_w iy56 (by decide)) (iv_w i16 (by decide)) (iv_w i15 (by decide)) (hx18_0.no (fun q9 => absurd (k21.fn q9.1) (by omega)) rfl (by rw [tn_ y56, tn_ v18_7]; omega)) (hx18_1.no (fun q9 => absurd (k21.fn q9.1) (by omega)) rfl (by rw [tn_ y56, tn_ v18_7]; omega)) (by omega) (by omega) (by omega) (by first | exact ms_su hx18_5 ty56 (by decide) | omega) hI hKp hP hS (lv_sub hl [0, 1, 2, 3, 4, 5, 6, 7] rfl)
  exact hL18 (17) (0 : Int32) (0 : Int32) (0 : Int32) E2 _ _ _ (iv_w ln_0 (by decide)) (iv_w ln_0 (by decide)) (iv_w ln_0 (by decide)) (show CnR _ 0 0 from rfl) (show CnR _ 0 0 from rfl) (by have z9 := ln_0; omega) (by have z9 := ln_0; omega) (by have z9 := ln_0; omega) (by have h9 := ln_0; first | exact ms_bu h9.1 (by decide) | omega) hI hKp hP hS (lv_sub hl [0, 1, 2, 3, 4, 5, 6, 7] rfl)
def v_placedM : List Cond := .code yX13_placed cX13_placed 4 (some .int) :: vA
abbrev rm_placedM : Room := { frames := 74, cells := 0, slots := 0, locals := 2960 }
def w_placedM : Nat → Nat → Bool := wl [12] [(0, 0), (0, 18), (0, 19), (0, 20), (0, 21), (0, 22), (0, 23), (0, 24), (0, 25), (0, 26)]
set_option maxHeartbeats 4000000 in
set_option maxRecDepth 100000 in
theorem q_placedM (l : Launch) (dC : Nat → ClassId) (dI : Nat → Nat → Nat) (cT : Nat → ClassId) (ad : Nat → Nat) (E : Nat → va_E) (sz : Nat) (a0 : Int32) (a1 : Int32) (a2 : Int32) (hI0 : IX cT shM spM 72 ad E) (hh0 : TXM E) : Met l yX13_placed v_placedM rm_placedM (va_Pc [.ref (ad 0), .int a0, .int a1, .int a2] (HW dC dI (TYM cT) 72 ad E sz)) (va_Qi (S := Nat → va_E) (fun r u => IX cT shM spM 72 ad u ∧ Kp w_placedM E u ∧ ((((((((0 ≤ a0.toInt ∧ a0.toInt < (xi (E 0) 46).toInt) ∧ (0 ≤ a1.toInt ∧ a1.toInt < (xi (E 0) 8).toInt) ∧ (0 ≤ a2.toInt ∧ a2.toInt ≤ (xi (E 0) 1).toInt) ∧ (xi (E 20) a0.toInt.toNat).toInt ≤ a2.toInt) ∧ (xi (E 21) (16 * a0.toInt + a1.toInt).toNat).toInt ≤ a2.toInt) ∧ CdM E a0 a1 a2 0) → (PlS (fun o9 => CdM E a0 (nI o9) a2 0) (tmM E a0 a2) (xi (E 0) 8).toNatClampNeg a1.toNatClampNeg r.toInt)) ∧ (¬ ((((0 ≤ a0.toInt ∧ a0.toInt < (xi (E 0) 46).toInt) ∧ (0 ≤ a1.toInt ∧ a1.toInt < (xi (E 0) 8).toInt) ∧ (0 ≤ a2.toInt ∧ a2.toInt ≤ (xi (E 0) 1).toInt) ∧ (xi (E 20) a0.toInt.toNat).toInt ≤ a2.toInt) ∧ (xi (E 21) (16 * a0.toInt + a1.toInt).toNat).toInt ≤ a2.toInt) ∧ CdM E a0 a1 a2 0) → (r.toInt = -1)))))) (HB dC dI 72 ad) (va_A (WX 72 ad E) sz)) 0 0 (va_A (WX 72 ad E) sz) := by
  refine Met.ofW (cc := cX13_placed) (maxL := 4) (ret := (some .int)) (by decide) rfl ?_
  intro p e s m args below meth c s₁ B hml hv
  obtain ⟨hargs, hsz, hP, hK, hD0, hEV⟩ := hv
  subst hsz
  have hx := B.exec
  have hb := B.bytes
  have hr := B.returns
  have hts := atoms_spec (ws := v_placedM) B.pre
  have hown : s.vm.findClass RX13 = some m.cls := findClass_of_methodNamed B.named
  have hlocks := B.notSynchronized
  have hinX13 : ∀ w ∈ u_ws RX13 TX13 97, w ∈ v_placedM := fun w h => vA_in _ w (in_X13 w h)
  generalize hAe : va_A (WX 72 ad E) s.heap.size = A at hEV ⊢
  have hA : ∀ q : Nat, s.heap.size ≤ q → A q := fun q h => by rw [← hAe]; exact Or.inr h
  have hD : va_D A (WX 72 ad E) := by rw [← hAe]; exact hD0.self
  have hS : va_S A s.heap s.heap [] := va_S.rf
  have hI := hI0
  have hKp : Kp w_placedM E E := Kp.rf
  have hl := lv_entry ([.ref (ad 0), .int a0, .int a1, .int a2]) (n := 4) (Nat.le_of_ble_eq_true rfl)
  obtain ⟨Q, hQ⟩ : ∃ Q, Q = MQ below (va_Qi (S := Nat → va_E) (fun r u => IX cT shM spM 72 ad u ∧ Kp w_placedM E u ∧ ((((((((0 ≤ a0.toInt ∧ a0.toInt < (xi (E 0) 46).toInt) ∧ (0 ≤ a1.toInt ∧ a1.toInt < (xi (E 0) 8).toInt) ∧ (0 ≤ a2.toInt ∧ a2.toInt ≤ (xi (E 0) 1).toInt) ∧ (xi (E 20) a0.toInt.toNat).toInt ≤ a2.toInt) ∧ (xi (E 21) (16 * a0.toInt + a1.toInt).toNat).toInt ≤ a2.toInt) ∧ CdM E a0 a1 a2 0) → (PlS (fun o9 => CdM E a0 (nI o9) a2 0) (tmM E a0 a2) (xi (E 0) 8).toNatClampNeg a1.toNatClampNeg r.toInt)) ∧ (¬ ((((0 ≤ a0.toInt ∧ a0.toInt < (xi (E 0) 46).toInt) ∧ (0 ≤ a1.toInt ∧ a1.toInt < (xi (E 0) 8).toInt) ∧ (0 ≤ a2.toInt ∧ a2.toInt ≤ (xi (E 0) 1).toInt) ∧ (xi (E 20) a0.toInt.toNat).toInt ≤ a2.toInt) ∧ (xi (E 21) (16 * a0.toInt + a1.toInt).toNat).toInt ≤ a2.toInt) ∧ CdM E a0 a1 a2 0) → (r.toInt = -1)))))) (HB dC dI 72 ad) (A)) args s 0 0 (A) := ⟨_, rfl⟩
  rw [← hQ, show entryFrame m args 4 = _ from (congrArg (fun z => entryFrame m z 4) hargs).trans (lg_entry_eq _ _ _)]
  generalize (lg_sl ([.ref (ad 0), .int a0, .int a1, .int a2]) ++ List.replicate (4 - (lg_sl ([.ref (ad 0), .int a0, .int a1, .int a2])).length) Slot.unset).toArray = ls at hl ⊢
  have hl : lv_has ls 4 [(0, .ref (ad 0)), (1, .int a0), (2, .int a1), (3, .int a2)] := hl
  refine lv_aload_n hx hb dX13_placed_0 rfl (lv_at hl 0 rfl) ?_
  refine lv_iload_n hx hb dX13_placed_1 rfl (lv_at hl 1 rfl) ?_
  refine lv_iload_n hx hb dX13_placed_2 rfl (lv_at hl 2 rfl) ?_
  refine lv_iload_n hx hb dX13_placed_3 rfl (lv_at hl 3 rfl) ?_
  refine th_i (va_runV (As := [.int a0, .int a1, .int a2]) (rest := []) ⟨hx, hb, hml, hown, hts⟩ (q_asksEntry l dC dI cT ad E s.heap.size a0 a1 a2 hI) (cwV 3 hts (gi_V (in_30 _ (zs4 (zs1 (zs1 (zs0))))) (in_30 _ (zs4 (zs1 (zs1 (zs1 (zs0)))))) (in_30 _ (zs4 (zs4 (zs0)))) (in_24 _ (zs4 (zs4 (zs4 (zs1 (zs1 (zs1 (zs0)))))))) (in_24 _ (zs16 (zs4 (zs4 (zs4 (zs1 (zs1 (zs1 (zs0)))))))))) rfl rfl rfl ⟨rfl, hz_yX13_asksEntry_3⟩ ⟨Nat.le_of_ble_eq_true rfl, Nat.le_of_ble_eq_true rfl⟩) ⟨HW_bl, va_recv hK hP (ci := 14) (q0 := 0) rfl (hI.ob 0 (Nat.le_of_ble_eq_true rfl) rfl), (HW_wi hP hK (WX_D hD) hS hA hEV)⟩ rfl rfl hl.1 rfl (lv_room (Nat.le_of_ble_eq_true rfl)) dX13_placed_4 ⟨Nat.le_of_ble_eq_true rfl, Nat.le_of_ble_eq_true rfl⟩) (WX_D hD) hS hA (fun r1 E2 H locs hw hP hS => ?_)
  obtain ⟨hI, kq3, hw⟩ := hw
  have hKb := hKp
  have hKp := hKp.tr kq3 (wl_sub rfl rfl)
  rcases hw with hw | hw
  · -- asksEntry, case 0
    obtain ⟨rfl, f4, f5, f6, f7⟩ := hw
    have i8 : 0 ≤ (xi (E 0) 46).toInt ∧ (xi (E 0) 46).toInt ≤ 20 := (show 0 ≤ (xi (E 0) 46).toInt ∧ (xi (E 0) 46).toInt ≤ 20 from hI0.iv 0 (Nat.le_of_ble_eq_true rfl) rfl (Nat.le_of_ble_eq_true rfl) rfl)
    have i9 : 0 ≤ (xi (E 0) 8).toInt ∧ (xi (E 0) 8).toInt ≤ 16 := (show 0 ≤ (xi (E 0) 8).toInt ∧ (xi (E 0) 8).toInt ≤ 16 from hI0.iv 0 (Nat.le_of_ble_eq_true rfl) rfl (Nat.le_of_ble_eq_true rfl) rfl)
    have i10 : 0 ≤ (xi (E 0) 1).toInt ∧ (xi (E 0) 1).toInt ≤ 400 := (show 0 ≤ (xi (E 0) 1).toInt ∧ (xi (E 0) 1).toInt ≤ 400 from hI0.iv 0 (Nat.le_of_ble_eq_true rfl) rfl (Nat.le_of_ble_eq_true rfl) rfl)
    refine lv_if_eq (tgt := 30) hx hb dX13_placed_7 (by decide) (fun c11 => ?_) (fun c11 => ?_)
    · --7 taken
      exact absurd c11 (by decide)
    · --7 not
      refine lv_aload_n hx hb dX13_placed_10 rfl (lv_at hl 0 rfl) ?_
      refine lv_iload_n hx hb dX13_placed_11 rfl (lv_at hl 1 rfl) ?_
      refine lv_iload_n hx hb dX13_placed_12 rfl (lv_at hl 2 rfl) ?_
      refine lv_iload_n hx hb dX13_placed_13 rfl (lv_at hl 3 rfl) ?_
      refine th_ri (va_runV (As := [.int a0, .int a1, .int a2]) (rest := []) ⟨hx, hb, hml, hown, hts⟩ (q_codeOfM l dC dI cT ad E2 H.size a0 a1 a2 hI f5 f6) (cwV 3 hts (gi_V (in_27 _ (zs16 (zs16 (zs4 (zs0))))) (in_27 _ (zs16 (zs16 (zs4 (zs1 (zs0)))))) (in_27 _ (zs16 (zs16 (zs4 (zs1 (zs1 (zs0))))))) (in_24 _ (zs4 (zs4 (zs4 (zs1 (zs1 (zs1 (zs0)))))))) (in_27 _ (zs16 (zs16 (zs4 (zs1 (zs1 (zs1 (zs0))))))))) rfl rfl rfl ⟨rfl, hz_yX13_codeOf_3⟩ ⟨Nat.le_of_ble_eq_true rfl, Nat.le_of_ble_eq_true rfl⟩) ⟨HW_bl, va_recv hK hP (ci := 14) (q0 := 0) rfl (hI.ob 0 (Nat.le_of_ble_eq_true rfl) rfl), (HW_wi hP hK (WX_D hD) hS hA hEV)⟩ rfl rfl hl.1 rfl (lv_room (Nat.le_of_ble_eq_true rfl)) dX13_placed_14 ⟨Nat.le_of_ble_eq_true rfl, Nat.le_of_ble_eq_true rfl⟩) hS hP (fun r12 H locs hw hP hS => ?_)
      obtain ⟨f13, f14⟩ := hw
      have i15 : 0 ≤ (xi (E 0) 47).toInt ∧ (xi (E 0) 47).toInt ≤ 300 := (show 0 ≤ (xi (E 0) 47).toInt ∧ (xi (E 0) 47).toInt ≤ 300 from hI0.iv 0 (Nat.le_of_ble_eq_true rfl) rfl (Nat.le_of_ble_eq_true rfl) rfl)
      have k17 : KdN E E2 := KdN.of hKp rfl rfl rfl rfl rfl
      have k16 : CdM E a0 a1 a2 r12.toInt := k17.cd.mp f14
      refine lv_if_ne (tgt := 30) hx hb dX13_placed_17 (by decide) (fun c18 => ?_) (fun c18 => ?_)
      · --17 taken
        have t19 : ¬ r12.toInt = 0 := ti_ne c18
        have i20 : 1 ≤ r12.toInt ∧ r12.toInt ≤ 5 := iv_ne_l t19 f13 (il_ 0)
        refine lv_iconst (v := -1) hx hb dX13_placed_30 (by decide) ?_
        rw [hQ]
        exact W.iret (v := (-1)) hx hb hr (fun t ht hW => ⟨⟨(-1), E2, rfl, ⟨hI, hKp, ⟨fun q9 => absurd (k16.fn q9.2) (by omega), fun _ => rfl⟩⟩, by show va_P (dC, dI) vwCl (WX 72 ad E2) t.heap; rw [ht]; exact hP⟩, hS.F ht⟩) hS.2.2 dX13_placed_31
      · --17 not
        have t21 : r12.toInt = 0 := ti_eq c18
        have i22 : 0 ≤ r12.toInt ∧ r12.toInt ≤ 0 := iv_eqi t21 f13 (il_ 0) (by decide)
        refine lv_aload_n hx hb dX13_placed_20 rfl (lv_at hl 0 rfl) ?_
        refine lv_iload_n hx hb dX13_placed_21 rfl (lv_at hl 1 rfl) ?_
        refine lv_iload_n hx hb dX13_placed_22 rfl (lv_at hl 2 rfl) ?_
        refine lv_iload_n hx hb dX13_placed_23 rfl (lv_at hl 3 rfl) ?_
        refine th_i (va_runV (As := [.int a0, .int a1, .int a2]) (rest := []) ⟨hx, hb, hml, hown, hts⟩ (q_placeOfM l dC dI cT ad E2 H.size a0 a1 a2 hI f5 f6 (by exact k17.cd.mpr (by have h9 := k16; rw [show r12.toInt = 0 by omega] at h9; exact h9)) (by exact k17.txm hh0)) (cwV 3 hts (gi_V (in_32 _ (zs16 (zs4 (zs4 (zs4 (zs1 (zs1 (zs1 (zs0))))))))) (in_32 _ (zs16 (zs16 (zs0)))) (in_32 _ (zs16 (zs16 (zs1 (zs0))))) (in_24 _ (zs4 (zs4 (zs4 (zs1 (zs1 (zs1 (zs0)))))))) (in_32 _ (zs16 (zs4 (zs4 (zs4 (zs1 (zs0)))))))) rfl rfl rfl ⟨rfl, hz_yX13_placeOf_3⟩ ⟨Nat.le_of_ble_eq_true rfl, Nat.le_of_ble_eq_true rfl⟩) ⟨HW_bl, va_recv hK hP (ci := 14) (q0 := 0) rfl (hI.ob 0 (Nat.le_of_ble_eq_true rfl) rfl), (HW_wi hP hK (WX_D hD) hS hA hEV)⟩ rfl rfl hl.1 rfl (lv_room (Nat.le_of_ble_eq_true rfl)) dX13_placed_24 ⟨Nat.le_of_ble_eq_true rfl, Nat.le_of_ble_eq_true rfl⟩) (WX_D hD) hS hA (fun r23 E24 H locs hw hP hS => ?_)
        obtain ⟨hI, kq25, hw⟩ := hw
        have hKb := hKp
        have hKp := hKp.tr kq25 (wl_sub rfl rfl)
        have f26 := hw
        try rw [hKb.ei 0 8 rfl] at f26
        refine lv_goto (tgt := 31) hx hb dX13_placed_27 (by decide) ?_
        rw [hQ]
        exact W.iret (v := r23) hx hb hr (fun t ht hW => ⟨⟨r23, E24, rfl, ⟨hI, hKp, ⟨fun _ => (PlS_kd k17 f26), fun q9 => absurd (⟨f4, by have h9 := k16; rw [show r12.toInt = 0 by omega] at h9; exact h9⟩ : (((0 ≤ a0.toInt ∧ a0.toInt < (xi (E 0) 46).toInt) ∧ (0 ≤ a1.toInt ∧ a1.toInt < (xi (E 0) 8).toInt) ∧ (0 ≤ a2.toInt ∧ a2.toInt ≤ (xi (E 0) 1).toInt) ∧ (xi (E 20) a0.toInt.toNat).toInt ≤ a2.toInt) ∧ (xi (E 21) (16 * a0.toInt + a1.toInt).toNat).toInt ≤ a2.toInt) ∧ CdM E a0 a1 a2 0) q9⟩⟩, by show va_P (dC, dI) vwCl (WX 72 ad E24) t.heap; rw [ht]; exact hP⟩, hS.F ht⟩) hS.2.2 dX13_placed_31
  · -- asksEntry, case 1
    obtain ⟨rfl, f27⟩ := hw
    have i28 : 0 ≤ (xi (E 0) 46).toInt ∧ (xi (E 0) 46).toInt ≤ 20 := (show 0 ≤ (xi (E 0) 46).toInt ∧ (xi (E 0) 46).toInt ≤ 20 from hI0.iv 0 (Nat.le_of_ble_eq_true rfl) rfl (Nat.le_of_ble_eq_true rfl) rfl)
    have i29 : 0 ≤ (xi (E 0) 8).toInt ∧ (xi (E 0) 8).toInt ≤ 16 := (show 0 ≤ (xi (E 0) 8).toInt ∧ (xi (E 0) 8).toInt ≤ 16 from hI0.iv 0 (Nat.le_of_ble_eq_true rfl) rfl (Nat.le_of_ble_eq_true rfl) rfl)
    have i30 : 0 ≤ (xi (E 0) 1).toInt ∧ (xi (E 0) 1).toInt ≤ 400 := (show 0 ≤ (xi (E 0) 1).toInt ∧ (xi (E 0) 1).toInt ≤ 400 from hI0.iv 0 (Nat.le_of_ble_eq_true rfl) rfl (Nat.le_of_ble_eq_true rfl) rfl)
    refine lv_if_eq (tgt := 30) hx hb dX13_placed_7 (by decide) (fun c31 => ?_) (fun c31 => ?_)
    · --7 taken
      refine lv_iconst (v := -1) hx hb dX13_placed_30 (by decide) ?_
      rw [hQ]
      exact W.iret (v := (-1)) hx hb hr (fun t ht hW => ⟨⟨(-1), E2, rfl, ⟨hI, hKp, ⟨fun q9 => absurd q9.1 f27, fun _ => rfl⟩⟩, by show va_P (dC, dI) vwCl (WX 72 ad E2) t.heap; rw [ht]; exact hP⟩, hS.F ht⟩) hS.2.2 dX13_placed_31
    · --7 not
      exact absurd c31 (by decide)
section
/-! ===== POINTS (pure) ===== -/
def SmR (P : Nat → Prop) (F : Nat → Int → Prop) : Nat → Int → Prop
  | 0, s => s = 0
  | k + 1, s => (P k ∧ ∃ v, F k v ∧ SmR P F k (s - v)) ∨ (¬ P k ∧ SmR P F k s)
theorem SmR.one {P : Nat → Prop} {F : Nat → Int → Prop} {k k' : Nat} {s s' v : Int} (h : SmR P F k s) (hp : P k) (hf : F k v) (e : s' = s + v) (ek : k' = k + 1) : SmR P F k' s' := by
  subst ek
  refine Or.inl ⟨hp, v, hf, ?_⟩
  rw [show s' - v = s by omega]
  exact h
theorem SmR.no {P : Nat → Prop} {F : Nat → Int → Prop} {k k' : Nat} {s s' : Int} (h : SmR P F k s) (hp : ¬ P k) (e : s' = s) (ek : k' = k + 1) : SmR P F k' s' := by
  subst ek
  rw [e]
  exact Or.inr ⟨hp, h⟩
theorem SmR.un {P P' : Nat → Prop} {F F' : Nat → Int → Prop} : ∀ (n : Nat) (s s' : Int), SmR P F n s → SmR P' F' n s' → (∀ k, k < n → (P k ↔ P' k)) → (∀ k, k < n → P k → ∀ v v', F k v → F' k v' → v = v') → s = s' := by
  intro n
  induction n with
  | zero => exact fun s s' h h' _ _ => Eq.trans h (Eq.symm h')
  | succ n ih =>
    intro s s' h h' e f
    have en := e n (by omega)
    have e' : ∀ k, k < n → (P k ↔ P' k) := fun k hk => e k (by omega)
    have f' : ∀ k, k < n → P k → ∀ v v', F k v → F' k v' → v = v' := fun k hk => f k (by omega)
    rcases h with ⟨h1, v, h2, h3⟩ | ⟨h1, h2⟩ <;> rcases h' with ⟨g1, v', g2, g3⟩ | ⟨g1, g2⟩
    · have e1 := f n (by omega) h1 v v' h2 g2
      have e2 := ih _ _ h3 g3 e' f'
      omega
    · exact absurd (en.mp h1) g1
    · exact absurd (en.mpr g1) h1
    · exact ih _ _ h2 g2 e' f'
theorem SmR.cg {P P' : Nat → Prop} {F F' : Nat → Int → Prop} : ∀ (n : Nat) (s : Int), SmR P F n s → (∀ k, k < n → (P k ↔ P' k)) → (∀ k, k < n → P k → ∀ v, F k v → F' k v) → SmR P' F' n s := by
  intro n
  induction n with
  | zero => exact fun s h _ _ => h
  | succ n ih =>
    intro s h e f
    have en := e n (by omega)
    rcases h with ⟨h1, v, h2, h3⟩ | ⟨h1, h2⟩
    · exact Or.inl ⟨en.mp h1, v, f n (by omega) h1 v h2, ih _ h3 (fun k hk => e k (by omega)) (fun k hk => f k (by omega))⟩
    · exact Or.inr ⟨fun z => h1 (en.mpr z), ih _ h2 (fun k hk => e k (by omega)) (fun k hk => f k (by omega))⟩
/-- those behind n don't count -/
theorem SmR.ext {P : Nat → Prop} {F : Nat → Int → Prop} {n : Nat} {s : Int} (h : SmR P F n s) : ∀ d, (∀ k, n ≤ k → k < n + d → ¬ P k) → SmR P F (n + d) s := by
  intro d
  induction d with
  | zero => exact fun _ => h
  | succ d ih => exact fun e => Or.inr ⟨e (n + d) (by omega) (by omega), ih (fun k h1 h2 => e k h1 (by omega))⟩
theorem CnR.ext {P : Nat → Prop} {n : Nat} {c : Int} (h : CnR P n c) : ∀ d, (∀ k, n ≤ k → k < n + d → ¬ P k) → CnR P (n + d) c := by
  intro d
  induction d with
  | zero => exact fun _ => h
  | succ d ih => exact fun e => Or.inr ⟨e (n + d) (by omega) (by omega), ih (fun k h1 h2 => e k h1 (by omega))⟩
/-- what counts is the first ones -/
theorem CnR.pre {P : Nat → Prop} : ∀ (m : Nat) (c : Int), CnR P m c → (∀ i k, i ≤ k → k < m → P k → P i) → ∀ k, k < m → (P k ↔ (k : Int) < c) := by
  intro m
  induction m with
  | zero => exact fun c _ _ k hk => absurd hk (Nat.not_lt_zero k)
  | succ m ih =>
    intro c h mo k hk
    have mo' : ∀ i k, i ≤ k → k < m → P k → P i := fun i k h1 h2 => mo i k h1 (by omega)
    rcases h with ⟨h1, h2⟩ | ⟨h1, h2⟩
    · have hall : ∀ i, i < m + 1 → P i := fun i hi => mo i m (by omega) (by omega) h1
      have hc : c - 1 = (m : Int) := by
        have hb := CnR.bd m _ h2
        by_cases z : c - 1 = (m : Int)
        · exact z
        · exfalso
          have h3 := ih _ h2 mo' (c - 1).toNat (by omega)
          have h4 := h3.mp (hall _ (by omega))
          omega
      exact ⟨fun _ => by omega, fun _ => hall k hk⟩
    · have hb := CnR.bd m _ h2
      by_cases z : k = m
      · subst z
        exact ⟨fun w => absurd w h1, fun w => by omega⟩
      · exact ih _ h2 mo' k (by omega)
def ptL (c pl e f : Int) : Nat → Int32 := lset (lset (lset (lset lz 3 (fI c)) 4 (fI pl)) 5 (fI e)) 6 (fI f)
def clamp (w : Int) : Int := max 0 (min 10000 w)
/-- POINTS without REDRESS -/
def PpC (cf : Nat → Nat) (E : Nat → va_E) (race q : Int32) (b : Nat) (p : Int) : Prop := ∃ c pl f : Int, CdR cf E race q b c ∧ (c = 0 → PlS (fun o => CdR cf E race q o 0) (tmC cf E race q) 16 b pl) ∧ (¬ c = 0 → pl = 0) ∧ CnR (fun o => CdR cf E race q o 0) 16 f ∧ p = clamp (wV cf E 112 (lawC cf E (rcS E race.toNatClampNeg 1) q) (ptL (if c = -1 then 2 else c) pl ((entC (xi (E (64 * (race.toNatClampNeg + 1) + 7))) q.toInt 16 : Nat) : Int) f)).toInt
/-- the letters as the Sheet lays them -/
def plL (E : Nat → va_E) (b : Nat) : Nat → Int32 := ptL (if (xi (E 26) b).toInt = -1 then 2 else (xi (E 26) b).toInt) (xi (E 30) b).toInt (xi (E 3) 7).toInt (xi (E 3) 8).toInt
theorem plL_of {E : Nat → va_E} {b : Nat} {c3 c4 c5 c6 : Int32} (h3 : c3.toInt = if (xi (E 26) b).toInt = -1 then 2 else (xi (E 26) b).toInt) (h4 : c4.toInt = (xi (E 30) b).toInt) (h5 : c5.toInt = (xi (E 3) 7).toInt) (h6 : c6.toInt = (xi (E 3) 8).toInt) : lset (lset (lset (lset lz 3 c3) 4 c4) 5 c5) 6 c6 = plL E b := by
  unfold plL ptL
  rw [fI_of h3, fI_of h4, fI_of h5, fI_of h6]
theorem PpC.of {cf : Nat → Nat} {E u : Nat → va_E} {race q : Int32} {b : Nat} {p : Int} (h : ShR cf E u race q) (hb : b < 16) (hp : p = clamp (wV cf E 112 (xi (u 3) 6) (plL u b)).toInt) : PpC cf E race q b p := by
  refine ⟨(xi (u 26) b).toInt, (xi (u 30) b).toInt, (xi (u 3) 8).toInt, (h.1 b hb).1, fun z => h.pl hb z, (h.1 b hb).2.2.2.2, h.2.2.2.cg 16 _ (fun o ho => (h.1 o ho).fin), ?_⟩
  rw [hp, h.2.1]
  unfold plL
  rw [h.2.2.1]
/-! ===== what the class tells stands where only its fixed cells are written ===== -/
theorem outC_k {E E' : Nat → va_E} (k : K64 E E') : outC E' = outC E := funext (fun race => funext (fun q => funext (fun b => funext (fun p => by
  have ep : pA E' p = pA E p := funext (fun j => k.pa p j)
  unfold outC gC
  rw [ep]))))
theorem lRC_k {E E' : Nat → va_E} (k : K64 E E') : lRC E' = lRC E := funext (fun race => funext (fun b => funext (fun q => funext (fun n => by
  unfold lRC
  rw [show (fun i => xi (E' (64 * (i + 1) + 12)) 0) = (fun i => xi (E (64 * (i + 1) + 12)) 0) from funext (fun i => k (64 * (i + 1) + 12) (by omega) 0), show (fun i => xi (E' (64 * (i + 1) + 12)) 1) = (fun i => xi (E (64 * (i + 1) + 12)) 1) from funext (fun i => k (64 * (i + 1) + 12) (by omega) 1), show (fun i => xi (E' (64 * (i + 1) + 12)) 4) = (fun i => xi (E (64 * (i + 1) + 12)) 4) from funext (fun i => k (64 * (i + 1) + 12) (by omega) 4)]))))
theorem cdN_k {E E' : Nat → va_E} (k : K64 E E') : cdN E' = cdN E := funext (fun race => funext (fun q => funext (fun n => funext (fun b => funext (fun c => by
  unfold cdN cd0 entCd
  rw [lRC_k k, k (64 * (race.toNatClampNeg + 1) + 7) (by omega) b, k (64 * ((lRC E race (nI b) q n).toNatClampNeg + 1) + 12) (by omega) 2])))))
theorem scN_k {E E' : Nat → va_E} (k : K64 E E') : scN E' = scN E := funext (fun race => funext (fun q => funext (fun n => funext (fun b => funext (fun c => by
  unfold scN
  rw [lRC_k k, k (64 * ((lRC E race (nI b) q n).toNatClampNeg + 1) + 12) (by omega) 3])))))
theorem CdR_k {cf : Nat → Nat} {E E' : Nat → va_E} (k : K64 E E') : CdR cf E' = CdR cf E := funext (fun race => funext (fun q => funext (fun b => funext (fun c => by
  unfold CdR
  rw [outC_k k, cdN_k k]))))
theorem rcS_k {E E' : Nat → va_E} (k : K64 E E') : rcS E' = rcS E := funext (fun i => funext (fun j => k (64 * (i + 1) + 6) (by omega) j))
theorem entr_k {E E' : Nat → va_E} (k : K64 E E') (i : Nat) : xi (E' (64 * (i + 1) + 7)) = xi (E (64 * (i + 1) + 7)) := funext (fun j => k (64 * (i + 1) + 7) (by omega) j)
theorem ShR.k {cf : Nat → Nat} {E E' u : Nat → va_E} {race q : Int32} (k : K64 E E') (h : ShR cf E' u race q) : ShR cf E u race q := by
  have en : ∀ (b d q : Int32), numC cf E' b d q = numC cf E b d q := fun b d q => numC_k k
  unfold ShR ShB at h ⊢
  rw [CdR_k k, scN_k k, rcS_k k, lawC_cg k, entr_k k] at h
  simp only [en] at h
  exact h
/-- REDRESS of a BOAT as known in q -/
def redC (E : Nat → va_E) (b : Nat) (q : Int) (o : Nat) : Prop := ¬ (xi (E (64 * (o + 1) + 8)) b).toInt = -1 ∧ (xi (E (64 * (o + 1) + 8)) b).toInt ≤ q
theorem redC_k {E E' : Nat → va_E} (k : K64 E E') : redC E' = redC E := funext (fun b => funext (fun q => funext (fun o => by
  unfold redC
  rw [k (64 * (o + 1) + 8) (by omega) b])))
def meanI (s m : Int) : Int := if m = 0 then 0 else s / m
/-- POINTS of the class -/
def PtC (cf : Nat → Nat) (E : Nat → va_E) (race q : Int32) (b : Nat) (p : Int) : Prop := (¬ redC E b q.toInt race.toNatClampNeg → PpC cf E race q b p) ∧ (redC E b q.toInt race.toNatClampNeg → ∃ n s m : Int, CnR (fun i => (rcS E i 0).toInt ≤ q.toInt) (cf 2) n ∧ SmR (fun o => ¬ (o : Int) = race.toInt ∧ ¬ redC E b q.toInt o) (fun o v => PpC cf E (nI o) q b v) n.toNat s ∧ CnR (fun o => ¬ (o : Int) = race.toInt ∧ ¬ redC E b q.toInt o) n.toNat m ∧ p = meanI s m)
/-- what meanBeside makes of the row -/
def MnB (E : Nat → va_E) (race b : Nat) (q : Int) (n : Nat) (p : Int) : Prop := ∃ s m : Int, SmR (fun o => ¬ o = race ∧ ¬ redC E b q o) (fun o v => v = (xi (E 31) (16 * o + b)).toInt) n s ∧ CnR (fun o => ¬ o = race ∧ ¬ redC E b q o) n m ∧ p = meanI s m
theorem MnB.pt {cf : Nat → Nat} {E u : Nat → va_E} {race q : Int32} {b n : Nat} {p c : Int} (k : K64 E u) (h0 : 0 ≤ race.toInt) (hr : redC E b q.toInt race.toNatClampNeg) (h : MnB u race.toNatClampNeg b q.toInt n p) (hn : CnR (fun i => (rcS E i 0).toInt ≤ q.toInt) (cf 2) c) (hc : c.toNat = n) (hp : ∀ o, o < n → PpC cf E (nI o) q b (xi (u 31) (16 * o + b)).toInt) : PtC cf E race q b p := by
  refine ⟨fun z => absurd hr z, fun _ => ?_⟩
  obtain ⟨s, m, h1, h2, h3⟩ := h
  have e : ∀ o : Nat, (¬ o = race.toNatClampNeg ∧ ¬ redC u b q.toInt o) ↔ (¬ (o : Int) = race.toInt ∧ ¬ redC E b q.toInt o) := fun o => by
    rw [redC_k k, tn_]
    constructor
    · rintro ⟨z1, z2⟩
      exact ⟨by omega, z2⟩
    · rintro ⟨z1, z2⟩
      exact ⟨by omega, z2⟩
  refine ⟨c, s, m, hn, ?_, ?_, h3⟩
  · rw [hc]
    exact h1.cg n s (fun o _ => e o) (fun o ho _ v hv => by rw [hv]; exact hp o ho)
  · rw [hc]
    exact h2.cg n m (fun o _ => e o)
theorem row_c {E E' : Nat → va_E} {k k' ix v : Int32} {b : Nat} {P : Nat → Int → Prop} (h : ∀ o, o < k.toNatClampNeg → P o (xi (E 31) (16 * o + b)).toInt) (p : Pw E E' 31 ix.toNatClampNeg (.int v)) (hix : ix.toInt = 16 * k.toInt + (b : Int)) (hb : b < 16) (hv : P k.toNatClampNeg v.toInt) (e : k'.toInt = k.toInt + 1) (h0 : 0 ≤ k.toInt) : ∀ o, o < k'.toNatClampNeg → P o (xi (E' 31) (16 * o + b)).toInt := fun o ho => by
  have ei : ix.toNatClampNeg = 16 * k.toNatClampNeg + b := by
    rw [tn_, tn_]
    omega
  by_cases c : o = k.toNatClampNeg
  · subst c
    rw [← ei, show xi (E' 31) ix.toNatClampNeg = v from vi_e p.1]
    exact hv
  · rw [show xi (E' 31) (16 * o + b) = xi (E 31) (16 * o + b) from congrArg vi (p.2 31 (16 * o + b) (fun q => c (by have := q.2; omega)))]
    exact h o (by rw [tn_] at ho c ⊢; omega)
theorem row_cc {E E' : Nat → va_E} {n b : Nat} {P : Nat → Int → Prop} (h : ∀ o, o < n → P o (xi (E 31) (16 * o + b)).toInt) (k : ∀ j, xi (E' 31) j = xi (E 31) j) : ∀ o, o < n → P o (xi (E' 31) (16 * o + b)).toInt := fun o ho => by
  rw [k]
  exact h o ho
theorem lawC_lt {cf : Nat → Nat} {E : Nat → va_E} {day q x : Int32} (hC : CF cf) (h : x = lawC cf E day q) : x.toInt < ((cf 1 : Nat) : Int) := by
  obtain ⟨⟨-, h1, -⟩, -⟩ := id hC
  have h2 := cO_in (gB := fun _ => 0) (gF := fun k9 => xi (E (64 * (k9 + 1) + 1)) 0) (gT := fun k9 => xi (E (64 * (k9 + 1) + 1)) 1) (boat := 0) (day := day) (q := q) (cf 1) (by omega)
  rw [h]
  unfold lawC
  omega
end

