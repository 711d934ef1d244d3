set_option maxRecDepth 100000 in
theorem zh_dX4_isDecided_0_0 : zc cX4_isDecided 0 [42, 180, 0, 15, 2, 160, 0, 19, 42, 180, 0, 9, 2, 159, 0, 7] = true := by decide +kernel
set_option maxRecDepth 100000 in
theorem zh_dX4_isDecided_16_16 : zc cX4_isDecided 16 [4, 167, 0, 20, 3, 167, 0, 16, 42, 180, 0, 18, 2, 159, 0, 7] = true := by decide +kernel
set_option maxRecDepth 100000 in
theorem zh_dX4_isDecided_32_32 : zc cX4_isDecided 32 [4, 167, 0, 4, 3, 172] = true := by decide +kernel
set_option maxRecDepth 100000 in
theorem zh_dX4_settle_0_0 : zc cX4_settle 0 [42, 180, 0, 15, 2, 160, 0, 16, 42, 28, 181, 0, 9, 42, 27, 181] = true := by decide +kernel
set_option maxRecDepth 100000 in
theorem zh_dX4_settle_15_16 : zc cX4_settle 16 [0, 36, 167, 0, 13, 42, 28, 181, 0, 18, 42, 27, 181, 0, 39, 177] = true := by decide +kernel
set_option maxRecDepth 100000 in
theorem zh_dX12_decide_0_0 : zc cX12_decide 0 [42, 180, 0, 10, 27, 42, 180, 0, 10, 180, 0, 55, 182, 0, 226, 154] = true := by decide +kernel
set_option maxRecDepth 100000 in
theorem zh_dX12_decide_15_16 : zc cX12_decide 16 [0, 5, 2, 172, 42, 180, 0, 10, 180, 0, 220, 27, 182, 0, 138, 192] = true := by decide +kernel
set_option maxRecDepth 100000 in
theorem zh_dX12_decide_31_32 : zc cX12_decide 32 [0, 223, 77, 44, 182, 0, 236, 153, 0, 5, 2, 172, 42, 180, 0, 44] = true := by decide +kernel
set_option maxRecDepth 100000 in
theorem zh_dX12_decide_48_48 : zc cX12_decide 48 [44, 3, 42, 180, 0, 10, 180, 0, 55, 182, 0, 233, 4, 160, 0, 7] = true := by decide +kernel
set_option maxRecDepth 100000 in
theorem zh_dX12_decide_64_64 : zc cX12_decide 64 [4, 167, 0, 4, 3, 62, 42, 180, 0, 44, 44, 4, 42, 180, 0, 10] = true := by decide +kernel
set_option maxRecDepth 100000 in
theorem zh_dX12_decide_80_80 : zc cX12_decide 80 [180, 0, 55, 182, 0, 233, 4, 160, 0, 7, 29, 5, 128, 62, 44, 29] = true := by decide +kernel
set_option maxRecDepth 100000 in
theorem zh_dX12_decide_96_96 : zc cX12_decide 96 [42, 180, 0, 10, 180, 0, 55, 182, 0, 240, 29, 172] = true := by decide +kernel
set_option maxRecDepth 100000 in
theorem zh_dX12_reopen_0_0 : zc cX12_reopen 0 [42, 180, 0, 10, 27, 42, 180, 0, 10, 180, 0, 55, 182, 0, 226, 154] = true := by decide +kernel
set_option maxRecDepth 100000 in
theorem zh_dX12_reopen_15_16 : zc cX12_reopen 16 [0, 5, 3, 172, 42, 180, 0, 10, 180, 0, 220, 27, 182, 0, 138, 192] = true := by decide +kernel
set_option maxRecDepth 100000 in
theorem zh_dX12_reopen_31_32 : zc cX12_reopen 32 [0, 223, 77, 44, 182, 0, 236, 153, 0, 11, 44, 180, 0, 243, 2, 159] = true := by decide +kernel
set_option maxRecDepth 100000 in
theorem zh_dX12_reopen_47_48 : zc cX12_reopen 48 [0, 5, 3, 172, 44, 42, 180, 0, 10, 180, 0, 55, 181, 0, 243, 4] = true := by decide +kernel
set_option maxRecDepth 100000 in
theorem zh_dX12_reopen_64_64 : zc cX12_reopen 64 [172] = true := by decide +kernel
set_option maxRecDepth 100000 in
theorem zh_dX13_decide_0_0 : zc cX13_decide 0 [42, 3, 181, 0, 228, 27, 3, 42, 180, 1, 208, 4, 100, 184, 0, 235] = true := by decide +kernel
set_option maxRecDepth 100000 in
theorem zh_dX13_decide_16_16 : zc cX13_decide 16 [153, 0, 12, 42, 180, 0, 177, 27, 51, 153, 0, 5, 2, 172, 42, 27] = true := by decide +kernel
set_option maxRecDepth 100000 in
theorem zh_dX13_decide_32_32 : zc cX13_decide 32 [3, 42, 180, 0, 232, 182, 1, 225, 61, 5, 27, 104, 42, 180, 0, 174] = true := by decide +kernel
set_option maxRecDepth 100000 in
theorem zh_dX13_decide_48_48 : zc cX13_decide 48 [27, 46, 96, 62, 42, 180, 0, 165, 29, 42, 27, 3, 42, 180, 0, 232] = true := by decide +kernel
set_option maxRecDepth 100000 in
theorem zh_dX13_decide_64_64 : zc cX13_decide 64 [182, 1, 244, 4, 160, 0, 7, 4, 167, 0, 4, 3, 42, 27, 4, 42] = true := by decide +kernel
set_option maxRecDepth 100000 in
theorem zh_dX13_decide_80_80 : zc cX13_decide 80 [180, 0, 232, 182, 1, 244, 4, 160, 0, 7, 5, 167, 0, 4, 3, 96] = true := by decide +kernel
set_option maxRecDepth 100000 in
theorem zh_dX13_decide_96_96 : zc cX13_decide 96 [79, 42, 180, 0, 168, 29, 42, 180, 0, 232, 79, 42, 180, 0, 171, 29] = true := by decide +kernel
set_option maxRecDepth 100000 in
theorem zh_dX13_decide_112_112 : zc cX13_decide 112 [17, 3, 232, 79, 42, 180, 0, 174, 27, 92, 46, 4, 96, 79, 42, 180] = true := by decide +kernel
set_option maxRecDepth 100000 in
theorem zh_dX13_decide_127_128 : zc cX13_decide 128 [0, 177, 27, 4, 84, 42, 180, 0, 165, 29, 46, 172] = true := by decide +kernel
set_option maxRecDepth 100000 in
theorem zh_dX13_reopen_0_0 : zc cX13_reopen 0 [42, 3, 181, 0, 228, 27, 3, 42, 180, 1, 208, 4, 100, 184, 0, 235] = true := by decide +kernel
set_option maxRecDepth 100000 in
theorem zh_dX13_reopen_16_16 : zc cX13_reopen 16 [153, 0, 22, 42, 180, 0, 177, 27, 51, 153, 0, 13, 42, 180, 0, 174] = true := by decide +kernel
set_option maxRecDepth 100000 in
theorem zh_dX13_reopen_32_32 : zc cX13_reopen 32 [27, 46, 5, 160, 0, 5, 3, 172, 42, 180, 0, 177, 27, 3, 84, 42] = true := by decide +kernel
set_option maxRecDepth 100000 in
theorem zh_dX13_reopen_48_48 : zc cX13_reopen 48 [180, 0, 171, 5, 27, 104, 42, 180, 0, 232, 79, 4, 172] = true := by decide +kernel
set_option maxRecDepth 100000 in
theorem zh_dX13_told_0_0 : zc cX13_told 0 [42, 42, 27, 182, 1, 137, 153, 0, 17, 28, 3, 16, 8, 184, 0, 235] = true := by decide +kernel
set_option maxRecDepth 100000 in
theorem zh_dX13_told_16_16 : zc cX13_told 16 [153, 0, 7, 3, 167, 0, 4, 4, 181, 0, 228, 42, 180, 0, 228, 158] = true := by decide +kernel
set_option maxRecDepth 100000 in
theorem zh_dX13_told_31_32 : zc cX13_told 32 [0, 5, 3, 172, 28, 170, 0, 0, 0, 0, 0, 140, 0, 0, 0, 0] = true := by decide +kernel
set_option maxRecDepth 100000 in
theorem zh_dX13_told_84_80 : zc cX13_told 80 [0, 0, 0, 133, 42, 180, 0, 50, 27, 46, 172, 42, 180, 0, 53, 27] = true := by decide +kernel
set_option maxRecDepth 100000 in
theorem zh_dX13_told_96_96 : zc cX13_told 96 [46, 172, 42, 180, 0, 56, 27, 46, 172, 42, 180, 0, 59, 27, 46, 172] = true := by decide +kernel
set_option maxRecDepth 100000 in
theorem zh_dX13_told_112_112 : zc cX13_told 112 [42, 180, 0, 62, 27, 46, 172, 42, 180, 0, 65, 27, 46, 172, 3, 62] = true := by decide +kernel
set_option maxRecDepth 100000 in
theorem zh_dX13_told_128_128 : zc cX13_told 128 [3, 54, 4, 21, 4, 42, 180, 0, 239, 162, 0, 31, 29, 42, 27, 21] = true := by decide +kernel
set_option maxRecDepth 100000 in
theorem zh_dX13_told_143_144 : zc cX13_told 144 [4, 42, 180, 0, 232, 182, 1, 140, 153, 0, 7, 4, 167, 0, 4, 3] = true := by decide +kernel
set_option maxRecDepth 100000 in
theorem zh_dX13_told_160_160 : zc cX13_told 160 [96, 62, 132, 4, 1, 167, 255, 222, 29, 172, 42, 180, 0, 68, 27, 46] = true := by decide +kernel
set_option maxRecDepth 100000 in
theorem zh_dX13_told_176_176 : zc cX13_told 176 [172, 42, 180, 0, 71, 27, 46, 172] = true := by decide +kernel
theorem dX4_isDecided_0 : decode cX4_isDecided 0 = .ok (.aload_n 0, 1) := zo_42 (zi_at zh_dX4_isDecided_0_0 0 rfl)
theorem dX4_isDecided_1 : decode cX4_isDecided 1 = .ok (.getfield 15, 3) := zo_180 (zi_at zh_dX4_isDecided_0_0 1 rfl) (zi_at zh_dX4_isDecided_0_0 2 rfl) (zi_at zh_dX4_isDecided_0_0 3 rfl) rfl
theorem dX4_isDecided_4 : decode cX4_isDecided 4 = .ok (.iconst (-1), 1) := zo_2 (zi_at zh_dX4_isDecided_0_0 4 rfl)
theorem dX4_isDecided_5 : decode cX4_isDecided 5 = .ok (.if_icmp .ne 19, 3) := zo_160 (zi_at zh_dX4_isDecided_0_0 5 rfl) (zi_at zh_dX4_isDecided_0_0 6 rfl) (zi_at zh_dX4_isDecided_0_0 7 rfl) rfl
theorem dX4_isDecided_8 : decode cX4_isDecided 8 = .ok (.aload_n 0, 1) := zo_42 (zi_at zh_dX4_isDecided_0_0 8 rfl)
theorem dX4_isDecided_9 : decode cX4_isDecided 9 = .ok (.getfield 9, 3) := zo_180 (zi_at zh_dX4_isDecided_0_0 9 rfl) (zi_at zh_dX4_isDecided_0_0 10 rfl) (zi_at zh_dX4_isDecided_0_0 11 rfl) rfl
theorem dX4_isDecided_12 : decode cX4_isDecided 12 = .ok (.iconst (-1), 1) := zo_2 (zi_at zh_dX4_isDecided_0_0 12 rfl)
theorem dX4_isDecided_13 : decode cX4_isDecided 13 = .ok (.if_icmp .eq 7, 3) := zo_159 (zi_at zh_dX4_isDecided_0_0 13 rfl) (zi_at zh_dX4_isDecided_0_0 14 rfl) (zi_at zh_dX4_isDecided_0_0 15 rfl) rfl
theorem dX4_isDecided_16 : decode cX4_isDecided 16 = .ok (.iconst 1, 1) := zo_4 (zi_at zh_dX4_isDecided_16_16 0 rfl)
theorem dX4_isDecided_17 : decode cX4_isDecided 17 = .ok (.goto 20, 3) := zo_167 (zi_at zh_dX4_isDecided_16_16 1 rfl) (zi_at zh_dX4_isDecided_16_16 2 rfl) (zi_at zh_dX4_isDecided_16_16 3 rfl) rfl
theorem dX4_isDecided_20 : decode cX4_isDecided 20 = .ok (.iconst 0, 1) := zo_3 (zi_at zh_dX4_isDecided_16_16 4 rfl)
theorem dX4_isDecided_21 : decode cX4_isDecided 21 = .ok (.goto 16, 3) := zo_167 (zi_at zh_dX4_isDecided_16_16 5 rfl) (zi_at zh_dX4_isDecided_16_16 6 rfl) (zi_at zh_dX4_isDecided_16_16 7 rfl) rfl
theorem dX4_isDecided_24 : decode cX4_isDecided 24 = .ok (.aload_n 0, 1) := zo_42 (zi_at zh_dX4_isDecided_16_16 8 rfl)
theorem dX4_isDecided_25 : decode cX4_isDecided 25 = .ok (.getfield 18, 3) := zo_180 (zi_at zh_dX4_isDecided_16_16 9 rfl) (zi_at zh_dX4_isDecided_16_16 10 rfl) (zi_at zh_dX4_isDecided_16_16 11 rfl) rfl
theorem dX4_isDecided_28 : decode cX4_isDecided 28 = .ok (.iconst (-1), 1) := zo_2 (zi_at zh_dX4_isDecided_16_16 12 rfl)
theorem dX4_isDecided_29 : decode cX4_isDecided 29 = .ok (.if_icmp .eq 7, 3) := zo_159 (zi_at zh_dX4_isDecided_16_16 13 rfl) (zi_at zh_dX4_isDecided_16_16 14 rfl) (zi_at zh_dX4_isDecided_16_16 15 rfl) rfl
theorem dX4_isDecided_32 : decode cX4_isDecided 32 = .ok (.iconst 1, 1) := zo_4 (zi_at zh_dX4_isDecided_32_32 0 rfl)
theorem dX4_isDecided_33 : decode cX4_isDecided 33 = .ok (.goto 4, 3) := zo_167 (zi_at zh_dX4_isDecided_32_32 1 rfl) (zi_at zh_dX4_isDecided_32_32 2 rfl) (zi_at zh_dX4_isDecided_32_32 3 rfl) rfl
theorem dX4_isDecided_36 : decode cX4_isDecided 36 = .ok (.iconst 0, 1) := zo_3 (zi_at zh_dX4_isDecided_32_32 4 rfl)
theorem dX4_isDecided_37 : decode cX4_isDecided 37 = .ok (.ireturn, 1) := zo_172 (zi_at zh_dX4_isDecided_32_32 5 rfl)
theorem dX4_settle_0 : decode cX4_settle 0 = .ok (.aload_n 0, 1) := zo_42 (zi_at zh_dX4_settle_0_0 0 rfl)
theorem dX4_settle_1 : decode cX4_settle 1 = .ok (.getfield 15, 3) := zo_180 (zi_at zh_dX4_settle_0_0 1 rfl) (zi_at zh_dX4_settle_0_0 2 rfl) (zi_at zh_dX4_settle_0_0 3 rfl) rfl
theorem dX4_settle_4 : decode cX4_settle 4 = .ok (.iconst (-1), 1) := zo_2 (zi_at zh_dX4_settle_0_0 4 rfl)
theorem dX4_settle_5 : decode cX4_settle 5 = .ok (.if_icmp .ne 16, 3) := zo_160 (zi_at zh_dX4_settle_0_0 5 rfl) (zi_at zh_dX4_settle_0_0 6 rfl) (zi_at zh_dX4_settle_0_0 7 rfl) rfl
theorem dX4_settle_8 : decode cX4_settle 8 = .ok (.aload_n 0, 1) := zo_42 (zi_at zh_dX4_settle_0_0 8 rfl)
theorem dX4_settle_9 : decode cX4_settle 9 = .ok (.iload_n 2, 1) := zo_28 (zi_at zh_dX4_settle_0_0 9 rfl)
theorem dX4_settle_10 : decode cX4_settle 10 = .ok (.putfield 9, 3) := zo_181 (zi_at zh_dX4_settle_0_0 10 rfl) (zi_at zh_dX4_settle_0_0 11 rfl) (zi_at zh_dX4_settle_0_0 12 rfl) rfl
theorem dX4_settle_13 : decode cX4_settle 13 = .ok (.aload_n 0, 1) := zo_42 (zi_at zh_dX4_settle_0_0 13 rfl)
theorem dX4_settle_14 : decode cX4_settle 14 = .ok (.iload_n 1, 1) := zo_27 (zi_at zh_dX4_settle_0_0 14 rfl)
theorem dX4_settle_15 : decode cX4_settle 15 = .ok (.putfield 36, 3) := zo_181 (zi_at zh_dX4_settle_0_0 15 rfl) (zi_at zh_dX4_settle_15_16 0 rfl) (zi_at zh_dX4_settle_15_16 1 rfl) rfl
theorem dX4_settle_18 : decode cX4_settle 18 = .ok (.goto 13, 3) := zo_167 (zi_at zh_dX4_settle_15_16 2 rfl) (zi_at zh_dX4_settle_15_16 3 rfl) (zi_at zh_dX4_settle_15_16 4 rfl) rfl
theorem dX4_settle_21 : decode cX4_settle 21 = .ok (.aload_n 0, 1) := zo_42 (zi_at zh_dX4_settle_15_16 5 rfl)
theorem dX4_settle_22 : decode cX4_settle 22 = .ok (.iload_n 2, 1) := zo_28 (zi_at zh_dX4_settle_15_16 6 rfl)
theorem dX4_settle_23 : decode cX4_settle 23 = .ok (.putfield 18, 3) := zo_181 (zi_at zh_dX4_settle_15_16 7 rfl) (zi_at zh_dX4_settle_15_16 8 rfl) (zi_at zh_dX4_settle_15_16 9 rfl) rfl
theorem dX4_settle_26 : decode cX4_settle 26 = .ok (.aload_n 0, 1) := zo_42 (zi_at zh_dX4_settle_15_16 10 rfl)
theorem dX4_settle_27 : decode cX4_settle 27 = .ok (.iload_n 1, 1) := zo_27 (zi_at zh_dX4_settle_15_16 11 rfl)
theorem dX4_settle_28 : decode cX4_settle 28 = .ok (.putfield 39, 3) := zo_181 (zi_at zh_dX4_settle_15_16 12 rfl) (zi_at zh_dX4_settle_15_16 13 rfl) (zi_at zh_dX4_settle_15_16 14 rfl) rfl
theorem dX4_settle_31 : decode cX4_settle 31 = .ok (.return_, 1) := zo_177 (zi_at zh_dX4_settle_15_16 15 rfl)
theorem dX12_decide_0 : decode cX12_decide 0 = .ok (.aload_n 0, 1) := zo_42 (zi_at zh_dX12_decide_0_0 0 rfl)
theorem dX12_decide_1 : decode cX12_decide 1 = .ok (.getfield 10, 3) := zo_180 (zi_at zh_dX12_decide_0_0 1 rfl) (zi_at zh_dX12_decide_0_0 2 rfl) (zi_at zh_dX12_decide_0_0 3 rfl) rfl
theorem dX12_decide_4 : decode cX12_decide 4 = .ok (.iload_n 1, 1) := zo_27 (zi_at zh_dX12_decide_0_0 4 rfl)
theorem dX12_decide_5 : decode cX12_decide 5 = .ok (.aload_n 0, 1) := zo_42 (zi_at zh_dX12_decide_0_0 5 rfl)
theorem dX12_decide_6 : decode cX12_decide 6 = .ok (.getfield 10, 3) := zo_180 (zi_at zh_dX12_decide_0_0 6 rfl) (zi_at zh_dX12_decide_0_0 7 rfl) (zi_at zh_dX12_decide_0_0 8 rfl) rfl
theorem dX12_decide_9 : decode cX12_decide 9 = .ok (.getfield 55, 3) := zo_180 (zi_at zh_dX12_decide_0_0 9 rfl) (zi_at zh_dX12_decide_0_0 10 rfl) (zi_at zh_dX12_decide_0_0 11 rfl) rfl
theorem dX12_decide_12 : decode cX12_decide 12 = .ok (.invokevirtual 226, 3) := zo_182 (zi_at zh_dX12_decide_0_0 12 rfl) (zi_at zh_dX12_decide_0_0 13 rfl) (zi_at zh_dX12_decide_0_0 14 rfl) rfl
theorem dX12_decide_15 : decode cX12_decide 15 = .ok (.ifCond .ne 5, 3) := zo_154 (zi_at zh_dX12_decide_0_0 15 rfl) (zi_at zh_dX12_decide_15_16 0 rfl) (zi_at zh_dX12_decide_15_16 1 rfl) rfl
theorem dX12_decide_18 : decode cX12_decide 18 = .ok (.iconst (-1), 1) := zo_2 (zi_at zh_dX12_decide_15_16 2 rfl)
theorem dX12_decide_19 : decode cX12_decide 19 = .ok (.ireturn, 1) := zo_172 (zi_at zh_dX12_decide_15_16 3 rfl)
theorem dX12_decide_20 : decode cX12_decide 20 = .ok (.aload_n 0, 1) := zo_42 (zi_at zh_dX12_decide_15_16 4 rfl)
theorem dX12_decide_21 : decode cX12_decide 21 = .ok (.getfield 10, 3) := zo_180 (zi_at zh_dX12_decide_15_16 5 rfl) (zi_at zh_dX12_decide_15_16 6 rfl) (zi_at zh_dX12_decide_15_16 7 rfl) rfl
theorem dX12_decide_24 : decode cX12_decide 24 = .ok (.getfield 220, 3) := zo_180 (zi_at zh_dX12_decide_15_16 8 rfl) (zi_at zh_dX12_decide_15_16 9 rfl) (zi_at zh_dX12_decide_15_16 10 rfl) rfl
theorem dX12_decide_27 : decode cX12_decide 27 = .ok (.iload_n 1, 1) := zo_27 (zi_at zh_dX12_decide_15_16 11 rfl)
theorem dX12_decide_28 : decode cX12_decide 28 = .ok (.invokevirtual 138, 3) := zo_182 (zi_at zh_dX12_decide_15_16 12 rfl) (zi_at zh_dX12_decide_15_16 13 rfl) (zi_at zh_dX12_decide_15_16 14 rfl) rfl
theorem dX12_decide_31 : decode cX12_decide 31 = .ok (.checkcast 223, 3) := zo_192 (zi_at zh_dX12_decide_15_16 15 rfl) (zi_at zh_dX12_decide_31_32 0 rfl) (zi_at zh_dX12_decide_31_32 1 rfl) rfl
theorem dX12_decide_34 : decode cX12_decide 34 = .ok (.astore_n 2, 1) := zo_77 (zi_at zh_dX12_decide_31_32 2 rfl)
theorem dX12_decide_35 : decode cX12_decide 35 = .ok (.aload_n 2, 1) := zo_44 (zi_at zh_dX12_decide_31_32 3 rfl)
theorem dX12_decide_36 : decode cX12_decide 36 = .ok (.invokevirtual 236, 3) := zo_182 (zi_at zh_dX12_decide_31_32 4 rfl) (zi_at zh_dX12_decide_31_32 5 rfl) (zi_at zh_dX12_decide_31_32 6 rfl) rfl
theorem dX12_decide_39 : decode cX12_decide 39 = .ok (.ifCond .eq 5, 3) := zo_153 (zi_at zh_dX12_decide_31_32 7 rfl) (zi_at zh_dX12_decide_31_32 8 rfl) (zi_at zh_dX12_decide_31_32 9 rfl) rfl
theorem dX12_decide_42 : decode cX12_decide 42 = .ok (.iconst (-1), 1) := zo_2 (zi_at zh_dX12_decide_31_32 10 rfl)
theorem dX12_decide_43 : decode cX12_decide 43 = .ok (.ireturn, 1) := zo_172 (zi_at zh_dX12_decide_31_32 11 rfl)
theorem dX12_decide_44 : decode cX12_decide 44 = .ok (.aload_n 0, 1) := zo_42 (zi_at zh_dX12_decide_31_32 12 rfl)
theorem dX12_decide_45 : decode cX12_decide 45 = .ok (.getfield 44, 3) := zo_180 (zi_at zh_dX12_decide_31_32 13 rfl) (zi_at zh_dX12_decide_31_32 14 rfl) (zi_at zh_dX12_decide_31_32 15 rfl) rfl
theorem dX12_decide_48 : decode cX12_decide 48 = .ok (.aload_n 2, 1) := zo_44 (zi_at zh_dX12_decide_48_48 0 rfl)
theorem dX12_decide_49 : decode cX12_decide 49 = .ok (.iconst 0, 1) := zo_3 (zi_at zh_dX12_decide_48_48 1 rfl)
theorem dX12_decide_50 : decode cX12_decide 50 = .ok (.aload_n 0, 1) := zo_42 (zi_at zh_dX12_decide_48_48 2 rfl)
theorem dX12_decide_51 : decode cX12_decide 51 = .ok (.getfield 10, 3) := zo_180 (zi_at zh_dX12_decide_48_48 3 rfl) (zi_at zh_dX12_decide_48_48 4 rfl) (zi_at zh_dX12_decide_48_48 5 rfl) rfl
theorem dX12_decide_54 : decode cX12_decide 54 = .ok (.getfield 55, 3) := zo_180 (zi_at zh_dX12_decide_48_48 6 rfl) (zi_at zh_dX12_decide_48_48 7 rfl) (zi_at zh_dX12_decide_48_48 8 rfl) rfl
theorem dX12_decide_57 : decode cX12_decide 57 = .ok (.invokevirtual 233, 3) := zo_182 (zi_at zh_dX12_decide_48_48 9 rfl) (zi_at zh_dX12_decide_48_48 10 rfl) (zi_at zh_dX12_decide_48_48 11 rfl) rfl
theorem dX12_decide_60 : decode cX12_decide 60 = .ok (.iconst 1, 1) := zo_4 (zi_at zh_dX12_decide_48_48 12 rfl)
theorem dX12_decide_61 : decode cX12_decide 61 = .ok (.if_icmp .ne 7, 3) := zo_160 (zi_at zh_dX12_decide_48_48 13 rfl) (zi_at zh_dX12_decide_48_48 14 rfl) (zi_at zh_dX12_decide_48_48 15 rfl) rfl
theorem dX12_decide_64 : decode cX12_decide 64 = .ok (.iconst 1, 1) := zo_4 (zi_at zh_dX12_decide_64_64 0 rfl)
theorem dX12_decide_65 : decode cX12_decide 65 = .ok (.goto 4, 3) := zo_167 (zi_at zh_dX12_decide_64_64 1 rfl) (zi_at zh_dX12_decide_64_64 2 rfl) (zi_at zh_dX12_decide_64_64 3 rfl) rfl
theorem dX12_decide_68 : decode cX12_decide 68 = .ok (.iconst 0, 1) := zo_3 (zi_at zh_dX12_decide_64_64 4 rfl)
theorem dX12_decide_69 : decode cX12_decide 69 = .ok (.istore_n 3, 1) := zo_62 (zi_at zh_dX12_decide_64_64 5 rfl)
theorem dX12_decide_70 : decode cX12_decide 70 = .ok (.aload_n 0, 1) := zo_42 (zi_at zh_dX12_decide_64_64 6 rfl)
theorem dX12_decide_71 : decode cX12_decide 71 = .ok (.getfield 44, 3) := zo_180 (zi_at zh_dX12_decide_64_64 7 rfl) (zi_at zh_dX12_decide_64_64 8 rfl) (zi_at zh_dX12_decide_64_64 9 rfl) rfl
theorem dX12_decide_74 : decode cX12_decide 74 = .ok (.aload_n 2, 1) := zo_44 (zi_at zh_dX12_decide_64_64 10 rfl)
theorem dX12_decide_75 : decode cX12_decide 75 = .ok (.iconst 1, 1) := zo_4 (zi_at zh_dX12_decide_64_64 11 rfl)
theorem dX12_decide_76 : decode cX12_decide 76 = .ok (.aload_n 0, 1) := zo_42 (zi_at zh_dX12_decide_64_64 12 rfl)
theorem dX12_decide_77 : decode cX12_decide 77 = .ok (.getfield 10, 3) := zo_180 (zi_at zh_dX12_decide_64_64 13 rfl) (zi_at zh_dX12_decide_64_64 14 rfl) (zi_at zh_dX12_decide_64_64 15 rfl) rfl
theorem dX12_decide_80 : decode cX12_decide 80 = .ok (.getfield 55, 3) := zo_180 (zi_at zh_dX12_decide_80_80 0 rfl) (zi_at zh_dX12_decide_80_80 1 rfl) (zi_at zh_dX12_decide_80_80 2 rfl) rfl
theorem dX12_decide_83 : decode cX12_decide 83 = .ok (.invokevirtual 233, 3) := zo_182 (zi_at zh_dX12_decide_80_80 3 rfl) (zi_at zh_dX12_decide_80_80 4 rfl) (zi_at zh_dX12_decide_80_80 5 rfl) rfl
theorem dX12_decide_86 : decode cX12_decide 86 = .ok (.iconst 1, 1) := zo_4 (zi_at zh_dX12_decide_80_80 6 rfl)
theorem dX12_decide_87 : decode cX12_decide 87 = .ok (.if_icmp .ne 7, 3) := zo_160 (zi_at zh_dX12_decide_80_80 7 rfl) (zi_at zh_dX12_decide_80_80 8 rfl) (zi_at zh_dX12_decide_80_80 9 rfl) rfl
theorem dX12_decide_90 : decode cX12_decide 90 = .ok (.iload_n 3, 1) := zo_29 (zi_at zh_dX12_decide_80_80 10 rfl)
theorem dX12_decide_91 : decode cX12_decide 91 = .ok (.iconst 2, 1) := zo_5 (zi_at zh_dX12_decide_80_80 11 rfl)
theorem dX12_decide_92 : decode cX12_decide 92 = .ok (.ior, 1) := zo_128 (zi_at zh_dX12_decide_80_80 12 rfl)
theorem dX12_decide_93 : decode cX12_decide 93 = .ok (.istore_n 3, 1) := zo_62 (zi_at zh_dX12_decide_80_80 13 rfl)
theorem dX12_decide_94 : decode cX12_decide 94 = .ok (.aload_n 2, 1) := zo_44 (zi_at zh_dX12_decide_80_80 14 rfl)
theorem dX12_decide_95 : decode cX12_decide 95 = .ok (.iload_n 3, 1) := zo_29 (zi_at zh_dX12_decide_80_80 15 rfl)
theorem dX12_decide_96 : decode cX12_decide 96 = .ok (.aload_n 0, 1) := zo_42 (zi_at zh_dX12_decide_96_96 0 rfl)
theorem dX12_decide_97 : decode cX12_decide 97 = .ok (.getfield 10, 3) := zo_180 (zi_at zh_dX12_decide_96_96 1 rfl) (zi_at zh_dX12_decide_96_96 2 rfl) (zi_at zh_dX12_decide_96_96 3 rfl) rfl
theorem dX12_decide_100 : decode cX12_decide 100 = .ok (.getfield 55, 3) := zo_180 (zi_at zh_dX12_decide_96_96 4 rfl) (zi_at zh_dX12_decide_96_96 5 rfl) (zi_at zh_dX12_decide_96_96 6 rfl) rfl
theorem dX12_decide_103 : decode cX12_decide 103 = .ok (.invokevirtual 240, 3) := zo_182 (zi_at zh_dX12_decide_96_96 7 rfl) (zi_at zh_dX12_decide_96_96 8 rfl) (zi_at zh_dX12_decide_96_96 9 rfl) rfl
theorem dX12_decide_106 : decode cX12_decide 106 = .ok (.iload_n 3, 1) := zo_29 (zi_at zh_dX12_decide_96_96 10 rfl)
theorem dX12_decide_107 : decode cX12_decide 107 = .ok (.ireturn, 1) := zo_172 (zi_at zh_dX12_decide_96_96 11 rfl)
theorem dX12_reopen_0 : decode cX12_reopen 0 = .ok (.aload_n 0, 1) := zo_42 (zi_at zh_dX12_reopen_0_0 0 rfl)
theorem dX12_reopen_1 : decode cX12_reopen 1 = .ok (.getfield 10, 3) := zo_180 (zi_at zh_dX12_reopen_0_0 1 rfl) (zi_at zh_dX12_reopen_0_0 2 rfl) (zi_at zh_dX12_reopen_0_0 3 rfl) rfl
theorem dX12_reopen_4 : decode cX12_reopen 4 = .ok (.iload_n 1, 1) := zo_27 (zi_at zh_dX12_reopen_0_0 4 rfl)
theorem dX12_reopen_5 : decode cX12_reopen 5 = .ok (.aload_n 0, 1) := zo_42 (zi_at zh_dX12_reopen_0_0 5 rfl)
theorem dX12_reopen_6 : decode cX12_reopen 6 = .ok (.getfield 10, 3) := zo_180 (zi_at zh_dX12_reopen_0_0 6 rfl) (zi_at zh_dX12_reopen_0_0 7 rfl) (zi_at zh_dX12_reopen_0_0 8 rfl) rfl
theorem dX12_reopen_9 : decode cX12_reopen 9 = .ok (.getfield 55, 3) := zo_180 (zi_at zh_dX12_reopen_0_0 9 rfl) (zi_at zh_dX12_reopen_0_0 10 rfl) (zi_at zh_dX12_reopen_0_0 11 rfl) rfl
theorem dX12_reopen_12 : decode cX12_reopen 12 = .ok (.invokevirtual 226, 3) := zo_182 (zi_at zh_dX12_reopen_0_0 12 rfl) (zi_at zh_dX12_reopen_0_0 13 rfl) (zi_at zh_dX12_reopen_0_0 14 rfl) rfl
theorem dX12_reopen_15 : decode cX12_reopen 15 = .ok (.ifCond .ne 5, 3) := zo_154 (zi_at zh_dX12_reopen_0_0 15 rfl) (zi_at zh_dX12_reopen_15_16 0 rfl) (zi_at zh_dX12_reopen_15_16 1 rfl) rfl
theorem dX12_reopen_18 : decode cX12_reopen 18 = .ok (.iconst 0, 1) := zo_3 (zi_at zh_dX12_reopen_15_16 2 rfl)
theorem dX12_reopen_19 : decode cX12_reopen 19 = .ok (.ireturn, 1) := zo_172 (zi_at zh_dX12_reopen_15_16 3 rfl)
theorem dX12_reopen_20 : decode cX12_reopen 20 = .ok (.aload_n 0, 1) := zo_42 (zi_at zh_dX12_reopen_15_16 4 rfl)
theorem dX12_reopen_21 : decode cX12_reopen 21 = .ok (.getfield 10, 3) := zo_180 (zi_at zh_dX12_reopen_15_16 5 rfl) (zi_at zh_dX12_reopen_15_16 6 rfl) (zi_at zh_dX12_reopen_15_16 7 rfl) rfl
theorem dX12_reopen_24 : decode cX12_reopen 24 = .ok (.getfield 220, 3) := zo_180 (zi_at zh_dX12_reopen_15_16 8 rfl) (zi_at zh_dX12_reopen_15_16 9 rfl) (zi_at zh_dX12_reopen_15_16 10 rfl) rfl
theorem dX12_reopen_27 : decode cX12_reopen 27 = .ok (.iload_n 1, 1) := zo_27 (zi_at zh_dX12_reopen_15_16 11 rfl)
theorem dX12_reopen_28 : decode cX12_reopen 28 = .ok (.invokevirtual 138, 3) := zo_182 (zi_at zh_dX12_reopen_15_16 12 rfl) (zi_at zh_dX12_reopen_15_16 13 rfl) (zi_at zh_dX12_reopen_15_16 14 rfl) rfl
theorem dX12_reopen_31 : decode cX12_reopen 31 = .ok (.checkcast 223, 3) := zo_192 (zi_at zh_dX12_reopen_15_16 15 rfl) (zi_at zh_dX12_reopen_31_32 0 rfl) (zi_at zh_dX12_reopen_31_32 1 rfl) rfl
theorem dX12_reopen_34 : decode cX12_reopen 34 = .ok (.astore_n 2, 1) := zo_77 (zi_at zh_dX12_reopen_31_32 2 rfl)
theorem dX12_reopen_35 : decode cX12_reopen 35 = .ok (.aload_n 2, 1) := zo_44 (zi_at zh_dX12_reopen_31_32 3 rfl)
theorem dX12_reopen_36 : decode cX12_reopen 36 = .ok (.invokevirtual 236, 3) := zo_182 (zi_at zh_dX12_reopen_31_32 4 rfl) (zi_at zh_dX12_reopen_31_32 5 rfl) (zi_at zh_dX12_reopen_31_32 6 rfl) rfl
theorem dX12_reopen_39 : decode cX12_reopen 39 = .ok (.ifCond .eq 11, 3) := zo_153 (zi_at zh_dX12_reopen_31_32 7 rfl) (zi_at zh_dX12_reopen_31_32 8 rfl) (zi_at zh_dX12_reopen_31_32 9 rfl) rfl
theorem dX12_reopen_42 : decode cX12_reopen 42 = .ok (.aload_n 2, 1) := zo_44 (zi_at zh_dX12_reopen_31_32 10 rfl)
theorem dX12_reopen_43 : decode cX12_reopen 43 = .ok (.getfield 243, 3) := zo_180 (zi_at zh_dX12_reopen_31_32 11 rfl) (zi_at zh_dX12_reopen_31_32 12 rfl) (zi_at zh_dX12_reopen_31_32 13 rfl) rfl
theorem dX12_reopen_46 : decode cX12_reopen 46 = .ok (.iconst (-1), 1) := zo_2 (zi_at zh_dX12_reopen_31_32 14 rfl)
theorem dX12_reopen_47 : decode cX12_reopen 47 = .ok (.if_icmp .eq 5, 3) := zo_159 (zi_at zh_dX12_reopen_31_32 15 rfl) (zi_at zh_dX12_reopen_47_48 0 rfl) (zi_at zh_dX12_reopen_47_48 1 rfl) rfl
theorem dX12_reopen_50 : decode cX12_reopen 50 = .ok (.iconst 0, 1) := zo_3 (zi_at zh_dX12_reopen_47_48 2 rfl)
theorem dX12_reopen_51 : decode cX12_reopen 51 = .ok (.ireturn, 1) := zo_172 (zi_at zh_dX12_reopen_47_48 3 rfl)
theorem dX12_reopen_52 : decode cX12_reopen 52 = .ok (.aload_n 2, 1) := zo_44 (zi_at zh_dX12_reopen_47_48 4 rfl)
theorem dX12_reopen_53 : decode cX12_reopen 53 = .ok (.aload_n 0, 1) := zo_42 (zi_at zh_dX12_reopen_47_48 5 rfl)
theorem dX12_reopen_54 : decode cX12_reopen 54 = .ok (.getfield 10, 3) := zo_180 (zi_at zh_dX12_reopen_47_48 6 rfl) (zi_at zh_dX12_reopen_47_48 7 rfl) (zi_at zh_dX12_reopen_47_48 8 rfl) rfl
theorem dX12_reopen_57 : decode cX12_reopen 57 = .ok (.getfield 55, 3) := zo_180 (zi_at zh_dX12_reopen_47_48 9 rfl) (zi_at zh_dX12_reopen_47_48 10 rfl) (zi_at zh_dX12_reopen_47_48 11 rfl) rfl
theorem dX12_reopen_60 : decode cX12_reopen 60 = .ok (.putfield 243, 3) := zo_181 (zi_at zh_dX12_reopen_47_48 12 rfl) (zi_at zh_dX12_reopen_47_48 13 rfl) (zi_at zh_dX12_reopen_47_48 14 rfl) rfl
theorem dX12_reopen_63 : decode cX12_reopen 63 = .ok (.iconst 1, 1) := zo_4 (zi_at zh_dX12_reopen_47_48 15 rfl)
theorem dX12_reopen_64 : decode cX12_reopen 64 = .ok (.ireturn, 1) := zo_172 (zi_at zh_dX12_reopen_64_64 0 rfl)
theorem dX13_decide_0 : decode cX13_decide 0 = .ok (.aload_n 0, 1) := zo_42 (zi_at zh_dX13_decide_0_0 0 rfl)
theorem dX13_decide_1 : decode cX13_decide 1 = .ok (.iconst 0, 1) := zo_3 (zi_at zh_dX13_decide_0_0 1 rfl)
theorem dX13_decide_2 : decode cX13_decide 2 = .ok (.putfield 228, 3) := zo_181 (zi_at zh_dX13_decide_0_0 2 rfl) (zi_at zh_dX13_decide_0_0 3 rfl) (zi_at zh_dX13_decide_0_0 4 rfl) rfl
theorem dX13_decide_5 : decode cX13_decide 5 = .ok (.iload_n 1, 1) := zo_27 (zi_at zh_dX13_decide_0_0 5 rfl)
theorem dX13_decide_6 : decode cX13_decide 6 = .ok (.iconst 0, 1) := zo_3 (zi_at zh_dX13_decide_0_0 6 rfl)
theorem dX13_decide_7 : decode cX13_decide 7 = .ok (.aload_n 0, 1) := zo_42 (zi_at zh_dX13_decide_0_0 7 rfl)
theorem dX13_decide_8 : decode cX13_decide 8 = .ok (.getfield 464, 3) := zo_180 (zi_at zh_dX13_decide_0_0 8 rfl) (zi_at zh_dX13_decide_0_0 9 rfl) (zi_at zh_dX13_decide_0_0 10 rfl) rfl
theorem dX13_decide_11 : decode cX13_decide 11 = .ok (.iconst 1, 1) := zo_4 (zi_at zh_dX13_decide_0_0 11 rfl)
theorem dX13_decide_12 : decode cX13_decide 12 = .ok (.isub, 1) := zo_100 (zi_at zh_dX13_decide_0_0 12 rfl)
theorem dX13_decide_13 : decode cX13_decide 13 = .ok (.invokestatic 235, 3) := zo_184 (zi_at zh_dX13_decide_0_0 13 rfl) (zi_at zh_dX13_decide_0_0 14 rfl) (zi_at zh_dX13_decide_0_0 15 rfl) rfl
theorem dX13_decide_16 : decode cX13_decide 16 = .ok (.ifCond .eq 12, 3) := zo_153 (zi_at zh_dX13_decide_16_16 0 rfl) (zi_at zh_dX13_decide_16_16 1 rfl) (zi_at zh_dX13_decide_16_16 2 rfl) rfl
theorem dX13_decide_19 : decode cX13_decide 19 = .ok (.aload_n 0, 1) := zo_42 (zi_at zh_dX13_decide_16_16 3 rfl)
theorem dX13_decide_20 : decode cX13_decide 20 = .ok (.getfield 177, 3) := zo_180 (zi_at zh_dX13_decide_16_16 4 rfl) (zi_at zh_dX13_decide_16_16 5 rfl) (zi_at zh_dX13_decide_16_16 6 rfl) rfl
theorem dX13_decide_23 : decode cX13_decide 23 = .ok (.iload_n 1, 1) := zo_27 (zi_at zh_dX13_decide_16_16 7 rfl)
theorem dX13_decide_24 : decode cX13_decide 24 = .ok (.baload, 1) := zo_51 (zi_at zh_dX13_decide_16_16 8 rfl)
theorem dX13_decide_25 : decode cX13_decide 25 = .ok (.ifCond .eq 5, 3) := zo_153 (zi_at zh_dX13_decide_16_16 9 rfl) (zi_at zh_dX13_decide_16_16 10 rfl) (zi_at zh_dX13_decide_16_16 11 rfl) rfl
theorem dX13_decide_28 : decode cX13_decide 28 = .ok (.iconst (-1), 1) := zo_2 (zi_at zh_dX13_decide_16_16 12 rfl)
theorem dX13_decide_29 : decode cX13_decide 29 = .ok (.ireturn, 1) := zo_172 (zi_at zh_dX13_decide_16_16 13 rfl)
theorem dX13_decide_30 : decode cX13_decide 30 = .ok (.aload_n 0, 1) := zo_42 (zi_at zh_dX13_decide_16_16 14 rfl)
theorem dX13_decide_31 : decode cX13_decide 31 = .ok (.iload_n 1, 1) := zo_27 (zi_at zh_dX13_decide_16_16 15 rfl)
theorem dX13_decide_32 : decode cX13_decide 32 = .ok (.iconst 0, 1) := zo_3 (zi_at zh_dX13_decide_32_32 0 rfl)
theorem dX13_decide_33 : decode cX13_decide 33 = .ok (.aload_n 0, 1) := zo_42 (zi_at zh_dX13_decide_32_32 1 rfl)
theorem dX13_decide_34 : decode cX13_decide 34 = .ok (.getfield 232, 3) := zo_180 (zi_at zh_dX13_decide_32_32 2 rfl) (zi_at zh_dX13_decide_32_32 3 rfl) (zi_at zh_dX13_decide_32_32 4 rfl) rfl
theorem dX13_decide_37 : decode cX13_decide 37 = .ok (.invokevirtual 481, 3) := zo_182 (zi_at zh_dX13_decide_32_32 5 rfl) (zi_at zh_dX13_decide_32_32 6 rfl) (zi_at zh_dX13_decide_32_32 7 rfl) rfl
theorem dX13_decide_40 : decode cX13_decide 40 = .ok (.istore_n 2, 1) := zo_61 (zi_at zh_dX13_decide_32_32 8 rfl)
theorem dX13_decide_41 : decode cX13_decide 41 = .ok (.iconst 2, 1) := zo_5 (zi_at zh_dX13_decide_32_32 9 rfl)
theorem dX13_decide_42 : decode cX13_decide 42 = .ok (.iload_n 1, 1) := zo_27 (zi_at zh_dX13_decide_32_32 10 rfl)
theorem dX13_decide_43 : decode cX13_decide 43 = .ok (.imul, 1) := zo_104 (zi_at zh_dX13_decide_32_32 11 rfl)
theorem dX13_decide_44 : decode cX13_decide 44 = .ok (.aload_n 0, 1) := zo_42 (zi_at zh_dX13_decide_32_32 12 rfl)
theorem dX13_decide_45 : decode cX13_decide 45 = .ok (.getfield 174, 3) := zo_180 (zi_at zh_dX13_decide_32_32 13 rfl) (zi_at zh_dX13_decide_32_32 14 rfl) (zi_at zh_dX13_decide_32_32 15 rfl) rfl
theorem dX13_decide_48 : decode cX13_decide 48 = .ok (.iload_n 1, 1) := zo_27 (zi_at zh_dX13_decide_48_48 0 rfl)
theorem dX13_decide_49 : decode cX13_decide 49 = .ok (.iaload, 1) := zo_46 (zi_at zh_dX13_decide_48_48 1 rfl)
theorem dX13_decide_50 : decode cX13_decide 50 = .ok (.iadd, 1) := zo_96 (zi_at zh_dX13_decide_48_48 2 rfl)
theorem dX13_decide_51 : decode cX13_decide 51 = .ok (.istore_n 3, 1) := zo_62 (zi_at zh_dX13_decide_48_48 3 rfl)
theorem dX13_decide_52 : decode cX13_decide 52 = .ok (.aload_n 0, 1) := zo_42 (zi_at zh_dX13_decide_48_48 4 rfl)
theorem dX13_decide_53 : decode cX13_decide 53 = .ok (.getfield 165, 3) := zo_180 (zi_at zh_dX13_decide_48_48 5 rfl) (zi_at zh_dX13_decide_48_48 6 rfl) (zi_at zh_dX13_decide_48_48 7 rfl) rfl
theorem dX13_decide_56 : decode cX13_decide 56 = .ok (.iload_n 3, 1) := zo_29 (zi_at zh_dX13_decide_48_48 8 rfl)
theorem dX13_decide_57 : decode cX13_decide 57 = .ok (.aload_n 0, 1) := zo_42 (zi_at zh_dX13_decide_48_48 9 rfl)
theorem dX13_decide_58 : decode cX13_decide 58 = .ok (.iload_n 1, 1) := zo_27 (zi_at zh_dX13_decide_48_48 10 rfl)
theorem dX13_decide_59 : decode cX13_decide 59 = .ok (.iconst 0, 1) := zo_3 (zi_at zh_dX13_decide_48_48 11 rfl)
theorem dX13_decide_60 : decode cX13_decide 60 = .ok (.aload_n 0, 1) := zo_42 (zi_at zh_dX13_decide_48_48 12 rfl)
theorem dX13_decide_61 : decode cX13_decide 61 = .ok (.getfield 232, 3) := zo_180 (zi_at zh_dX13_decide_48_48 13 rfl) (zi_at zh_dX13_decide_48_48 14 rfl) (zi_at zh_dX13_decide_48_48 15 rfl) rfl
theorem dX13_decide_64 : decode cX13_decide 64 = .ok (.invokevirtual 500, 3) := zo_182 (zi_at zh_dX13_decide_64_64 0 rfl) (zi_at zh_dX13_decide_64_64 1 rfl) (zi_at zh_dX13_decide_64_64 2 rfl) rfl
theorem dX13_decide_67 : decode cX13_decide 67 = .ok (.iconst 1, 1) := zo_4 (zi_at zh_dX13_decide_64_64 3 rfl)
theorem dX13_decide_68 : decode cX13_decide 68 = .ok (.if_icmp .ne 7, 3) := zo_160 (zi_at zh_dX13_decide_64_64 4 rfl) (zi_at zh_dX13_decide_64_64 5 rfl) (zi_at zh_dX13_decide_64_64 6 rfl) rfl
theorem dX13_decide_71 : decode cX13_decide 71 = .ok (.iconst 1, 1) := zo_4 (zi_at zh_dX13_decide_64_64 7 rfl)
theorem dX13_decide_72 : decode cX13_decide 72 = .ok (.goto 4, 3) := zo_167 (zi_at zh_dX13_decide_64_64 8 rfl) (zi_at zh_dX13_decide_64_64 9 rfl) (zi_at zh_dX13_decide_64_64 10 rfl) rfl
theorem dX13_decide_75 : decode cX13_decide 75 = .ok (.iconst 0, 1) := zo_3 (zi_at zh_dX13_decide_64_64 11 rfl)
theorem dX13_decide_76 : decode cX13_decide 76 = .ok (.aload_n 0, 1) := zo_42 (zi_at zh_dX13_decide_64_64 12 rfl)
theorem dX13_decide_77 : decode cX13_decide 77 = .ok (.iload_n 1, 1) := zo_27 (zi_at zh_dX13_decide_64_64 13 rfl)
theorem dX13_decide_78 : decode cX13_decide 78 = .ok (.iconst 1, 1) := zo_4 (zi_at zh_dX13_decide_64_64 14 rfl)
theorem dX13_decide_79 : decode cX13_decide 79 = .ok (.aload_n 0, 1) := zo_42 (zi_at zh_dX13_decide_64_64 15 rfl)
theorem dX13_decide_80 : decode cX13_decide 80 = .ok (.getfield 232, 3) := zo_180 (zi_at zh_dX13_decide_80_80 0 rfl) (zi_at zh_dX13_decide_80_80 1 rfl) (zi_at zh_dX13_decide_80_80 2 rfl) rfl
theorem dX13_decide_83 : decode cX13_decide 83 = .ok (.invokevirtual 500, 3) := zo_182 (zi_at zh_dX13_decide_80_80 3 rfl) (zi_at zh_dX13_decide_80_80 4 rfl) (zi_at zh_dX13_decide_80_80 5 rfl) rfl
theorem dX13_decide_86 : decode cX13_decide 86 = .ok (.iconst 1, 1) := zo_4 (zi_at zh_dX13_decide_80_80 6 rfl)
theorem dX13_decide_87 : decode cX13_decide 87 = .ok (.if_icmp .ne 7, 3) := zo_160 (zi_at zh_dX13_decide_80_80 7 rfl) (zi_at zh_dX13_decide_80_80 8 rfl) (zi_at zh_dX13_decide_80_80 9 rfl) rfl
theorem dX13_decide_90 : decode cX13_decide 90 = .ok (.iconst 2, 1) := zo_5 (zi_at zh_dX13_decide_80_80 10 rfl)
theorem dX13_decide_91 : decode cX13_decide 91 = .ok (.goto 4, 3) := zo_167 (zi_at zh_dX13_decide_80_80 11 rfl) (zi_at zh_dX13_decide_80_80 12 rfl) (zi_at zh_dX13_decide_80_80 13 rfl) rfl
theorem dX13_decide_94 : decode cX13_decide 94 = .ok (.iconst 0, 1) := zo_3 (zi_at zh_dX13_decide_80_80 14 rfl)
theorem dX13_decide_95 : decode cX13_decide 95 = .ok (.iadd, 1) := zo_96 (zi_at zh_dX13_decide_80_80 15 rfl)
theorem dX13_decide_96 : decode cX13_decide 96 = .ok (.iastore, 1) := zo_79 (zi_at zh_dX13_decide_96_96 0 rfl)
theorem dX13_decide_97 : decode cX13_decide 97 = .ok (.aload_n 0, 1) := zo_42 (zi_at zh_dX13_decide_96_96 1 rfl)
theorem dX13_decide_98 : decode cX13_decide 98 = .ok (.getfield 168, 3) := zo_180 (zi_at zh_dX13_decide_96_96 2 rfl) (zi_at zh_dX13_decide_96_96 3 rfl) (zi_at zh_dX13_decide_96_96 4 rfl) rfl
theorem dX13_decide_101 : decode cX13_decide 101 = .ok (.iload_n 3, 1) := zo_29 (zi_at zh_dX13_decide_96_96 5 rfl)
theorem dX13_decide_102 : decode cX13_decide 102 = .ok (.aload_n 0, 1) := zo_42 (zi_at zh_dX13_decide_96_96 6 rfl)
theorem dX13_decide_103 : decode cX13_decide 103 = .ok (.getfield 232, 3) := zo_180 (zi_at zh_dX13_decide_96_96 7 rfl) (zi_at zh_dX13_decide_96_96 8 rfl) (zi_at zh_dX13_decide_96_96 9 rfl) rfl
theorem dX13_decide_106 : decode cX13_decide 106 = .ok (.iastore, 1) := zo_79 (zi_at zh_dX13_decide_96_96 10 rfl)
theorem dX13_decide_107 : decode cX13_decide 107 = .ok (.aload_n 0, 1) := zo_42 (zi_at zh_dX13_decide_96_96 11 rfl)
theorem dX13_decide_108 : decode cX13_decide 108 = .ok (.getfield 171, 3) := zo_180 (zi_at zh_dX13_decide_96_96 12 rfl) (zi_at zh_dX13_decide_96_96 13 rfl) (zi_at zh_dX13_decide_96_96 14 rfl) rfl
theorem dX13_decide_111 : decode cX13_decide 111 = .ok (.iload_n 3, 1) := zo_29 (zi_at zh_dX13_decide_96_96 15 rfl)
theorem dX13_decide_112 : decode cX13_decide 112 = .ok (.sipush 1000, 3) := zo_17 (zi_at zh_dX13_decide_112_112 0 rfl) (zi_at zh_dX13_decide_112_112 1 rfl) (zi_at zh_dX13_decide_112_112 2 rfl) rfl
theorem dX13_decide_115 : decode cX13_decide 115 = .ok (.iastore, 1) := zo_79 (zi_at zh_dX13_decide_112_112 3 rfl)
theorem dX13_decide_116 : decode cX13_decide 116 = .ok (.aload_n 0, 1) := zo_42 (zi_at zh_dX13_decide_112_112 4 rfl)
theorem dX13_decide_117 : decode cX13_decide 117 = .ok (.getfield 174, 3) := zo_180 (zi_at zh_dX13_decide_112_112 5 rfl) (zi_at zh_dX13_decide_112_112 6 rfl) (zi_at zh_dX13_decide_112_112 7 rfl) rfl
theorem dX13_decide_120 : decode cX13_decide 120 = .ok (.iload_n 1, 1) := zo_27 (zi_at zh_dX13_decide_112_112 8 rfl)
theorem dX13_decide_121 : decode cX13_decide 121 = .ok (.dup2, 1) := zo_92 (zi_at zh_dX13_decide_112_112 9 rfl)
theorem dX13_decide_122 : decode cX13_decide 122 = .ok (.iaload, 1) := zo_46 (zi_at zh_dX13_decide_112_112 10 rfl)
theorem dX13_decide_123 : decode cX13_decide 123 = .ok (.iconst 1, 1) := zo_4 (zi_at zh_dX13_decide_112_112 11 rfl)
theorem dX13_decide_124 : decode cX13_decide 124 = .ok (.iadd, 1) := zo_96 (zi_at zh_dX13_decide_112_112 12 rfl)
theorem dX13_decide_125 : decode cX13_decide 125 = .ok (.iastore, 1) := zo_79 (zi_at zh_dX13_decide_112_112 13 rfl)
theorem dX13_decide_126 : decode cX13_decide 126 = .ok (.aload_n 0, 1) := zo_42 (zi_at zh_dX13_decide_112_112 14 rfl)
theorem dX13_decide_127 : decode cX13_decide 127 = .ok (.getfield 177, 3) := zo_180 (zi_at zh_dX13_decide_112_112 15 rfl) (zi_at zh_dX13_decide_127_128 0 rfl) (zi_at zh_dX13_decide_127_128 1 rfl) rfl
theorem dX13_decide_130 : decode cX13_decide 130 = .ok (.iload_n 1, 1) := zo_27 (zi_at zh_dX13_decide_127_128 2 rfl)
theorem dX13_decide_131 : decode cX13_decide 131 = .ok (.iconst 1, 1) := zo_4 (zi_at zh_dX13_decide_127_128 3 rfl)
theorem dX13_decide_132 : decode cX13_decide 132 = .ok (.bastore, 1) := zo_84 (zi_at zh_dX13_decide_127_128 4 rfl)
theorem dX13_decide_133 : decode cX13_decide 133 = .ok (.aload_n 0, 1) := zo_42 (zi_at zh_dX13_decide_127_128 5 rfl)
theorem dX13_decide_134 : decode cX13_decide 134 = .ok (.getfield 165, 3) := zo_180 (zi_at zh_dX13_decide_127_128 6 rfl) (zi_at zh_dX13_decide_127_128 7 rfl) (zi_at zh_dX13_decide_127_128 8 rfl) rfl
theorem dX13_decide_137 : decode cX13_decide 137 = .ok (.iload_n 3, 1) := zo_29 (zi_at zh_dX13_decide_127_128 9 rfl)
theorem dX13_decide_138 : decode cX13_decide 138 = .ok (.iaload, 1) := zo_46 (zi_at zh_dX13_decide_127_128 10 rfl)
theorem dX13_decide_139 : decode cX13_decide 139 = .ok (.ireturn, 1) := zo_172 (zi_at zh_dX13_decide_127_128 11 rfl)
theorem dX13_reopen_0 : decode cX13_reopen 0 = .ok (.aload_n 0, 1) := zo_42 (zi_at zh_dX13_reopen_0_0 0 rfl)
theorem dX13_reopen_1 : decode cX13_reopen 1 = .ok (.iconst 0, 1) := zo_3 (zi_at zh_dX13_reopen_0_0 1 rfl)
theorem dX13_reopen_2 : decode cX13_reopen 2 = .ok (.putfield 228, 3) := zo_181 (zi_at zh_dX13_reopen_0_0 2 rfl) (zi_at zh_dX13_reopen_0_0 3 rfl) (zi_at zh_dX13_reopen_0_0 4 rfl) rfl
theorem dX13_reopen_5 : decode cX13_reopen 5 = .ok (.iload_n 1, 1) := zo_27 (zi_at zh_dX13_reopen_0_0 5 rfl)
theorem dX13_reopen_6 : decode cX13_reopen 6 = .ok (.iconst 0, 1) := zo_3 (zi_at zh_dX13_reopen_0_0 6 rfl)
theorem dX13_reopen_7 : decode cX13_reopen 7 = .ok (.aload_n 0, 1) := zo_42 (zi_at zh_dX13_reopen_0_0 7 rfl)
theorem dX13_reopen_8 : decode cX13_reopen 8 = .ok (.getfield 464, 3) := zo_180 (zi_at zh_dX13_reopen_0_0 8 rfl) (zi_at zh_dX13_reopen_0_0 9 rfl) (zi_at zh_dX13_reopen_0_0 10 rfl) rfl
theorem dX13_reopen_11 : decode cX13_reopen 11 = .ok (.iconst 1, 1) := zo_4 (zi_at zh_dX13_reopen_0_0 11 rfl)
theorem dX13_reopen_12 : decode cX13_reopen 12 = .ok (.isub, 1) := zo_100 (zi_at zh_dX13_reopen_0_0 12 rfl)
theorem dX13_reopen_13 : decode cX13_reopen 13 = .ok (.invokestatic 235, 3) := zo_184 (zi_at zh_dX13_reopen_0_0 13 rfl) (zi_at zh_dX13_reopen_0_0 14 rfl) (zi_at zh_dX13_reopen_0_0 15 rfl) rfl
theorem dX13_reopen_16 : decode cX13_reopen 16 = .ok (.ifCond .eq 22, 3) := zo_153 (zi_at zh_dX13_reopen_16_16 0 rfl) (zi_at zh_dX13_reopen_16_16 1 rfl) (zi_at zh_dX13_reopen_16_16 2 rfl) rfl
theorem dX13_reopen_19 : decode cX13_reopen 19 = .ok (.aload_n 0, 1) := zo_42 (zi_at zh_dX13_reopen_16_16 3 rfl)
theorem dX13_reopen_20 : decode cX13_reopen 20 = .ok (.getfield 177, 3) := zo_180 (zi_at zh_dX13_reopen_16_16 4 rfl) (zi_at zh_dX13_reopen_16_16 5 rfl) (zi_at zh_dX13_reopen_16_16 6 rfl) rfl
theorem dX13_reopen_23 : decode cX13_reopen 23 = .ok (.iload_n 1, 1) := zo_27 (zi_at zh_dX13_reopen_16_16 7 rfl)
theorem dX13_reopen_24 : decode cX13_reopen 24 = .ok (.baload, 1) := zo_51 (zi_at zh_dX13_reopen_16_16 8 rfl)
theorem dX13_reopen_25 : decode cX13_reopen 25 = .ok (.ifCond .eq 13, 3) := zo_153 (zi_at zh_dX13_reopen_16_16 9 rfl) (zi_at zh_dX13_reopen_16_16 10 rfl) (zi_at zh_dX13_reopen_16_16 11 rfl) rfl
theorem dX13_reopen_28 : decode cX13_reopen 28 = .ok (.aload_n 0, 1) := zo_42 (zi_at zh_dX13_reopen_16_16 12 rfl)
theorem dX13_reopen_29 : decode cX13_reopen 29 = .ok (.getfield 174, 3) := zo_180 (zi_at zh_dX13_reopen_16_16 13 rfl) (zi_at zh_dX13_reopen_16_16 14 rfl) (zi_at zh_dX13_reopen_16_16 15 rfl) rfl
theorem dX13_reopen_32 : decode cX13_reopen 32 = .ok (.iload_n 1, 1) := zo_27 (zi_at zh_dX13_reopen_32_32 0 rfl)
theorem dX13_reopen_33 : decode cX13_reopen 33 = .ok (.iaload, 1) := zo_46 (zi_at zh_dX13_reopen_32_32 1 rfl)
theorem dX13_reopen_34 : decode cX13_reopen 34 = .ok (.iconst 2, 1) := zo_5 (zi_at zh_dX13_reopen_32_32 2 rfl)
theorem dX13_reopen_35 : decode cX13_reopen 35 = .ok (.if_icmp .ne 5, 3) := zo_160 (zi_at zh_dX13_reopen_32_32 3 rfl) (zi_at zh_dX13_reopen_32_32 4 rfl) (zi_at zh_dX13_reopen_32_32 5 rfl) rfl
theorem dX13_reopen_38 : decode cX13_reopen 38 = .ok (.iconst 0, 1) := zo_3 (zi_at zh_dX13_reopen_32_32 6 rfl)
theorem dX13_reopen_39 : decode cX13_reopen 39 = .ok (.ireturn, 1) := zo_172 (zi_at zh_dX13_reopen_32_32 7 rfl)
theorem dX13_reopen_40 : decode cX13_reopen 40 = .ok (.aload_n 0, 1) := zo_42 (zi_at zh_dX13_reopen_32_32 8 rfl)
theorem dX13_reopen_41 : decode cX13_reopen 41 = .ok (.getfield 177, 3) := zo_180 (zi_at zh_dX13_reopen_32_32 9 rfl) (zi_at zh_dX13_reopen_32_32 10 rfl) (zi_at zh_dX13_reopen_32_32 11 rfl) rfl
theorem dX13_reopen_44 : decode cX13_reopen 44 = .ok (.iload_n 1, 1) := zo_27 (zi_at zh_dX13_reopen_32_32 12 rfl)
theorem dX13_reopen_45 : decode cX13_reopen 45 = .ok (.iconst 0, 1) := zo_3 (zi_at zh_dX13_reopen_32_32 13 rfl)
theorem dX13_reopen_46 : decode cX13_reopen 46 = .ok (.bastore, 1) := zo_84 (zi_at zh_dX13_reopen_32_32 14 rfl)
theorem dX13_reopen_47 : decode cX13_reopen 47 = .ok (.aload_n 0, 1) := zo_42 (zi_at zh_dX13_reopen_32_32 15 rfl)
theorem dX13_reopen_48 : decode cX13_reopen 48 = .ok (.getfield 171, 3) := zo_180 (zi_at zh_dX13_reopen_48_48 0 rfl) (zi_at zh_dX13_reopen_48_48 1 rfl) (zi_at zh_dX13_reopen_48_48 2 rfl) rfl
theorem dX13_reopen_51 : decode cX13_reopen 51 = .ok (.iconst 2, 1) := zo_5 (zi_at zh_dX13_reopen_48_48 3 rfl)
theorem dX13_reopen_52 : decode cX13_reopen 52 = .ok (.iload_n 1, 1) := zo_27 (zi_at zh_dX13_reopen_48_48 4 rfl)
theorem dX13_reopen_53 : decode cX13_reopen 53 = .ok (.imul, 1) := zo_104 (zi_at zh_dX13_reopen_48_48 5 rfl)
theorem dX13_reopen_54 : decode cX13_reopen 54 = .ok (.aload_n 0, 1) := zo_42 (zi_at zh_dX13_reopen_48_48 6 rfl)
theorem dX13_reopen_55 : decode cX13_reopen 55 = .ok (.getfield 232, 3) := zo_180 (zi_at zh_dX13_reopen_48_48 7 rfl) (zi_at zh_dX13_reopen_48_48 8 rfl) (zi_at zh_dX13_reopen_48_48 9 rfl) rfl
theorem dX13_reopen_58 : decode cX13_reopen 58 = .ok (.iastore, 1) := zo_79 (zi_at zh_dX13_reopen_48_48 10 rfl)
theorem dX13_reopen_59 : decode cX13_reopen 59 = .ok (.iconst 1, 1) := zo_4 (zi_at zh_dX13_reopen_48_48 11 rfl)
theorem dX13_reopen_60 : decode cX13_reopen 60 = .ok (.ireturn, 1) := zo_172 (zi_at zh_dX13_reopen_48_48 12 rfl)
theorem dX13_told_0 : decode cX13_told 0 = .ok (.aload_n 0, 1) := zo_42 (zi_at zh_dX13_told_0_0 0 rfl)
theorem dX13_told_1 : decode cX13_told 1 = .ok (.aload_n 0, 1) := zo_42 (zi_at zh_dX13_told_0_0 1 rfl)
theorem dX13_told_2 : decode cX13_told 2 = .ok (.iload_n 1, 1) := zo_27 (zi_at zh_dX13_told_0_0 2 rfl)
theorem dX13_told_3 : decode cX13_told 3 = .ok (.invokevirtual 393, 3) := zo_182 (zi_at zh_dX13_told_0_0 3 rfl) (zi_at zh_dX13_told_0_0 4 rfl) (zi_at zh_dX13_told_0_0 5 rfl) rfl
theorem dX13_told_6 : decode cX13_told 6 = .ok (.ifCond .eq 17, 3) := zo_153 (zi_at zh_dX13_told_0_0 6 rfl) (zi_at zh_dX13_told_0_0 7 rfl) (zi_at zh_dX13_told_0_0 8 rfl) rfl
theorem dX13_told_9 : decode cX13_told 9 = .ok (.iload_n 2, 1) := zo_28 (zi_at zh_dX13_told_0_0 9 rfl)
theorem dX13_told_10 : decode cX13_told 10 = .ok (.iconst 0, 1) := zo_3 (zi_at zh_dX13_told_0_0 10 rfl)
theorem dX13_told_11 : decode cX13_told 11 = .ok (.bipush 8, 2) := zo_16 (zi_at zh_dX13_told_0_0 11 rfl) (zi_at zh_dX13_told_0_0 12 rfl) rfl
theorem dX13_told_13 : decode cX13_told 13 = .ok (.invokestatic 235, 3) := zo_184 (zi_at zh_dX13_told_0_0 13 rfl) (zi_at zh_dX13_told_0_0 14 rfl) (zi_at zh_dX13_told_0_0 15 rfl) rfl
theorem dX13_told_16 : decode cX13_told 16 = .ok (.ifCond .eq 7, 3) := zo_153 (zi_at zh_dX13_told_16_16 0 rfl) (zi_at zh_dX13_told_16_16 1 rfl) (zi_at zh_dX13_told_16_16 2 rfl) rfl
theorem dX13_told_19 : decode cX13_told 19 = .ok (.iconst 0, 1) := zo_3 (zi_at zh_dX13_told_16_16 3 rfl)
theorem dX13_told_20 : decode cX13_told 20 = .ok (.goto 4, 3) := zo_167 (zi_at zh_dX13_told_16_16 4 rfl) (zi_at zh_dX13_told_16_16 5 rfl) (zi_at zh_dX13_told_16_16 6 rfl) rfl
theorem dX13_told_23 : decode cX13_told 23 = .ok (.iconst 1, 1) := zo_4 (zi_at zh_dX13_told_16_16 7 rfl)
theorem dX13_told_24 : decode cX13_told 24 = .ok (.putfield 228, 3) := zo_181 (zi_at zh_dX13_told_16_16 8 rfl) (zi_at zh_dX13_told_16_16 9 rfl) (zi_at zh_dX13_told_16_16 10 rfl) rfl
theorem dX13_told_27 : decode cX13_told 27 = .ok (.aload_n 0, 1) := zo_42 (zi_at zh_dX13_told_16_16 11 rfl)
theorem dX13_told_28 : decode cX13_told 28 = .ok (.getfield 228, 3) := zo_180 (zi_at zh_dX13_told_16_16 12 rfl) (zi_at zh_dX13_told_16_16 13 rfl) (zi_at zh_dX13_told_16_16 14 rfl) rfl
theorem dX13_told_31 : decode cX13_told 31 = .ok (.ifCond .le 5, 3) := zo_158 (zi_at zh_dX13_told_16_16 15 rfl) (zi_at zh_dX13_told_31_32 0 rfl) (zi_at zh_dX13_told_31_32 1 rfl) rfl
theorem dX13_told_34 : decode cX13_told 34 = .ok (.iconst 0, 1) := zo_3 (zi_at zh_dX13_told_31_32 2 rfl)
theorem dX13_told_35 : decode cX13_told 35 = .ok (.ireturn, 1) := zo_172 (zi_at zh_dX13_told_31_32 3 rfl)
theorem dX13_told_36 : decode cX13_told 36 = .ok (.iload_n 2, 1) := zo_28 (zi_at zh_dX13_told_31_32 4 rfl)
theorem dX13_told_37 : decode cX13_told 37 = .ok (.tableswitch 140 0 7 #[47, 54, 61, 68, 75, 82, 89, 133], 47) := by decide +kernel
theorem dX13_told_84 : decode cX13_told 84 = .ok (.aload_n 0, 1) := zo_42 (zi_at zh_dX13_told_84_80 4 rfl)
theorem dX13_told_85 : decode cX13_told 85 = .ok (.getfield 50, 3) := zo_180 (zi_at zh_dX13_told_84_80 5 rfl) (zi_at zh_dX13_told_84_80 6 rfl) (zi_at zh_dX13_told_84_80 7 rfl) rfl
theorem dX13_told_88 : decode cX13_told 88 = .ok (.iload_n 1, 1) := zo_27 (zi_at zh_dX13_told_84_80 8 rfl)
theorem dX13_told_89 : decode cX13_told 89 = .ok (.iaload, 1) := zo_46 (zi_at zh_dX13_told_84_80 9 rfl)
theorem dX13_told_90 : decode cX13_told 90 = .ok (.ireturn, 1) := zo_172 (zi_at zh_dX13_told_84_80 10 rfl)
theorem dX13_told_91 : decode cX13_told 91 = .ok (.aload_n 0, 1) := zo_42 (zi_at zh_dX13_told_84_80 11 rfl)
theorem dX13_told_92 : decode cX13_told 92 = .ok (.getfield 53, 3) := zo_180 (zi_at zh_dX13_told_84_80 12 rfl) (zi_at zh_dX13_told_84_80 13 rfl) (zi_at zh_dX13_told_84_80 14 rfl) rfl
theorem dX13_told_95 : decode cX13_told 95 = .ok (.iload_n 1, 1) := zo_27 (zi_at zh_dX13_told_84_80 15 rfl)
theorem dX13_told_96 : decode cX13_told 96 = .ok (.iaload, 1) := zo_46 (zi_at zh_dX13_told_96_96 0 rfl)
theorem dX13_told_97 : decode cX13_told 97 = .ok (.ireturn, 1) := zo_172 (zi_at zh_dX13_told_96_96 1 rfl)
theorem dX13_told_98 : decode cX13_told 98 = .ok (.aload_n 0, 1) := zo_42 (zi_at zh_dX13_told_96_96 2 rfl)
theorem dX13_told_99 : decode cX13_told 99 = .ok (.getfield 56, 3) := zo_180 (zi_at zh_dX13_told_96_96 3 rfl) (zi_at zh_dX13_told_96_96 4 rfl) (zi_at zh_dX13_told_96_96 5 rfl) rfl
theorem dX13_told_102 : decode cX13_told 102 = .ok (.iload_n 1, 1) := zo_27 (zi_at zh_dX13_told_96_96 6 rfl)
theorem dX13_told_103 : decode cX13_told 103 = .ok (.iaload, 1) := zo_46 (zi_at zh_dX13_told_96_96 7 rfl)
theorem dX13_told_104 : decode cX13_told 104 = .ok (.ireturn, 1) := zo_172 (zi_at zh_dX13_told_96_96 8 rfl)
theorem dX13_told_105 : decode cX13_told 105 = .ok (.aload_n 0, 1) := zo_42 (zi_at zh_dX13_told_96_96 9 rfl)
theorem dX13_told_106 : decode cX13_told 106 = .ok (.getfield 59, 3) := zo_180 (zi_at zh_dX13_told_96_96 10 rfl) (zi_at zh_dX13_told_96_96 11 rfl) (zi_at zh_dX13_told_96_96 12 rfl) rfl
theorem dX13_told_109 : decode cX13_told 109 = .ok (.iload_n 1, 1) := zo_27 (zi_at zh_dX13_told_96_96 13 rfl)
theorem dX13_told_110 : decode cX13_told 110 = .ok (.iaload, 1) := zo_46 (zi_at zh_dX13_told_96_96 14 rfl)
theorem dX13_told_111 : decode cX13_told 111 = .ok (.ireturn, 1) := zo_172 (zi_at zh_dX13_told_96_96 15 rfl)
theorem dX13_told_112 : decode cX13_told 112 = .ok (.aload_n 0, 1) := zo_42 (zi_at zh_dX13_told_112_112 0 rfl)
theorem dX13_told_113 : decode cX13_told 113 = .ok (.getfield 62, 3) := zo_180 (zi_at zh_dX13_told_112_112 1 rfl) (zi_at zh_dX13_told_112_112 2 rfl) (zi_at zh_dX13_told_112_112 3 rfl) rfl
theorem dX13_told_116 : decode cX13_told 116 = .ok (.iload_n 1, 1) := zo_27 (zi_at zh_dX13_told_112_112 4 rfl)
theorem dX13_told_117 : decode cX13_told 117 = .ok (.iaload, 1) := zo_46 (zi_at zh_dX13_told_112_112 5 rfl)
theorem dX13_told_118 : decode cX13_told 118 = .ok (.ireturn, 1) := zo_172 (zi_at zh_dX13_told_112_112 6 rfl)
theorem dX13_told_119 : decode cX13_told 119 = .ok (.aload_n 0, 1) := zo_42 (zi_at zh_dX13_told_112_112 7 rfl)
theorem dX13_told_120 : decode cX13_told 120 = .ok (.getfield 65, 3) := zo_180 (zi_at zh_dX13_told_112_112 8 rfl) (zi_at zh_dX13_told_112_112 9 rfl) (zi_at zh_dX13_told_112_112 10 rfl) rfl
theorem dX13_told_123 : decode cX13_told 123 = .ok (.iload_n 1, 1) := zo_27 (zi_at zh_dX13_told_112_112 11 rfl)
theorem dX13_told_124 : decode cX13_told 124 = .ok (.iaload, 1) := zo_46 (zi_at zh_dX13_told_112_112 12 rfl)
theorem dX13_told_125 : decode cX13_told 125 = .ok (.ireturn, 1) := zo_172 (zi_at zh_dX13_told_112_112 13 rfl)
theorem dX13_told_126 : decode cX13_told 126 = .ok (.iconst 0, 1) := zo_3 (zi_at zh_dX13_told_112_112 14 rfl)
theorem dX13_told_127 : decode cX13_told 127 = .ok (.istore_n 3, 1) := zo_62 (zi_at zh_dX13_told_112_112 15 rfl)
theorem dX13_told_128 : decode cX13_told 128 = .ok (.iconst 0, 1) := zo_3 (zi_at zh_dX13_told_128_128 0 rfl)
theorem dX13_told_129 : decode cX13_told 129 = .ok (.istore 4, 2) := zo_54 (zi_at zh_dX13_told_128_128 1 rfl) (zi_at zh_dX13_told_128_128 2 rfl)
theorem dX13_told_131 : decode cX13_told 131 = .ok (.iload 4, 2) := zo_21 (zi_at zh_dX13_told_128_128 3 rfl) (zi_at zh_dX13_told_128_128 4 rfl)
theorem dX13_told_133 : decode cX13_told 133 = .ok (.aload_n 0, 1) := zo_42 (zi_at zh_dX13_told_128_128 5 rfl)
theorem dX13_told_134 : decode cX13_told 134 = .ok (.getfield 239, 3) := zo_180 (zi_at zh_dX13_told_128_128 6 rfl) (zi_at zh_dX13_told_128_128 7 rfl) (zi_at zh_dX13_told_128_128 8 rfl) rfl
theorem dX13_told_137 : decode cX13_told 137 = .ok (.if_icmp .ge 31, 3) := zo_162 (zi_at zh_dX13_told_128_128 9 rfl) (zi_at zh_dX13_told_128_128 10 rfl) (zi_at zh_dX13_told_128_128 11 rfl) rfl
theorem dX13_told_140 : decode cX13_told 140 = .ok (.iload_n 3, 1) := zo_29 (zi_at zh_dX13_told_128_128 12 rfl)
theorem dX13_told_141 : decode cX13_told 141 = .ok (.aload_n 0, 1) := zo_42 (zi_at zh_dX13_told_128_128 13 rfl)
theorem dX13_told_142 : decode cX13_told 142 = .ok (.iload_n 1, 1) := zo_27 (zi_at zh_dX13_told_128_128 14 rfl)
theorem dX13_told_143 : decode cX13_told 143 = .ok (.iload 4, 2) := zo_21 (zi_at zh_dX13_told_128_128 15 rfl) (zi_at zh_dX13_told_143_144 0 rfl)
theorem dX13_told_145 : decode cX13_told 145 = .ok (.aload_n 0, 1) := zo_42 (zi_at zh_dX13_told_143_144 1 rfl)
theorem dX13_told_146 : decode cX13_told 146 = .ok (.getfield 232, 3) := zo_180 (zi_at zh_dX13_told_143_144 2 rfl) (zi_at zh_dX13_told_143_144 3 rfl) (zi_at zh_dX13_told_143_144 4 rfl) rfl
theorem dX13_told_149 : decode cX13_told 149 = .ok (.invokevirtual 396, 3) := zo_182 (zi_at zh_dX13_told_143_144 5 rfl) (zi_at zh_dX13_told_143_144 6 rfl) (zi_at zh_dX13_told_143_144 7 rfl) rfl
theorem dX13_told_152 : decode cX13_told 152 = .ok (.ifCond .eq 7, 3) := zo_153 (zi_at zh_dX13_told_143_144 8 rfl) (zi_at zh_dX13_told_143_144 9 rfl) (zi_at zh_dX13_told_143_144 10 rfl) rfl
theorem dX13_told_155 : decode cX13_told 155 = .ok (.iconst 1, 1) := zo_4 (zi_at zh_dX13_told_143_144 11 rfl)
theorem dX13_told_156 : decode cX13_told 156 = .ok (.goto 4, 3) := zo_167 (zi_at zh_dX13_told_143_144 12 rfl) (zi_at zh_dX13_told_143_144 13 rfl) (zi_at zh_dX13_told_143_144 14 rfl) rfl
theorem dX13_told_159 : decode cX13_told 159 = .ok (.iconst 0, 1) := zo_3 (zi_at zh_dX13_told_143_144 15 rfl)
theorem dX13_told_160 : decode cX13_told 160 = .ok (.iadd, 1) := zo_96 (zi_at zh_dX13_told_160_160 0 rfl)
theorem dX13_told_161 : decode cX13_told 161 = .ok (.istore_n 3, 1) := zo_62 (zi_at zh_dX13_told_160_160 1 rfl)
theorem dX13_told_162 : decode cX13_told 162 = .ok (.iinc 4 1, 3) := zo_132 (zi_at zh_dX13_told_160_160 2 rfl) (zi_at zh_dX13_told_160_160 3 rfl) (zi_at zh_dX13_told_160_160 4 rfl) rfl
theorem dX13_told_165 : decode cX13_told 165 = .ok (.goto (-34), 3) := zo_167 (zi_at zh_dX13_told_160_160 5 rfl) (zi_at zh_dX13_told_160_160 6 rfl) (zi_at zh_dX13_told_160_160 7 rfl) rfl
theorem dX13_told_168 : decode cX13_told 168 = .ok (.iload_n 3, 1) := zo_29 (zi_at zh_dX13_told_160_160 8 rfl)
theorem dX13_told_169 : decode cX13_told 169 = .ok (.ireturn, 1) := zo_172 (zi_at zh_dX13_told_160_160 9 rfl)
theorem dX13_told_170 : decode cX13_told 170 = .ok (.aload_n 0, 1) := zo_42 (zi_at zh_dX13_told_160_160 10 rfl)
theorem dX13_told_171 : decode cX13_told 171 = .ok (.getfield 68, 3) := zo_180 (zi_at zh_dX13_told_160_160 11 rfl) (zi_at zh_dX13_told_160_160 12 rfl) (zi_at zh_dX13_told_160_160 13 rfl) rfl
theorem dX13_told_174 : decode cX13_told 174 = .ok (.iload_n 1, 1) := zo_27 (zi_at zh_dX13_told_160_160 14 rfl)
theorem dX13_told_175 : decode cX13_told 175 = .ok (.iaload, 1) := zo_46 (zi_at zh_dX13_told_160_160 15 rfl)
theorem dX13_told_176 : decode cX13_told 176 = .ok (.ireturn, 1) := zo_172 (zi_at zh_dX13_told_176_176 0 rfl)
theorem dX13_told_177 : decode cX13_told 177 = .ok (.aload_n 0, 1) := zo_42 (zi_at zh_dX13_told_176_176 1 rfl)
theorem dX13_told_178 : decode cX13_told 178 = .ok (.getfield 71, 3) := zo_180 (zi_at zh_dX13_told_176_176 2 rfl) (zi_at zh_dX13_told_176_176 3 rfl) (zi_at zh_dX13_told_176_176 4 rfl) rfl
theorem dX13_told_181 : decode cX13_told 181 = .ok (.iload_n 1, 1) := zo_27 (zi_at zh_dX13_told_176_176 5 rfl)
theorem dX13_told_182 : decode cX13_told 182 = .ok (.iaload, 1) := zo_46 (zi_at zh_dX13_told_176_176 6 rfl)
theorem dX13_told_183 : decode cX13_told 183 = .ok (.ireturn, 1) := zo_172 (zi_at zh_dX13_told_176_176 7 rfl)

def v_pisDecidedX : List Cond := .code yX4_isDecided cX4_isDecided 1 (some .boolean) :: vA
abbrev rm_pisDecidedX : Room := { frames := 0, cells := 0, slots := 0, locals := 0 }
set_option maxHeartbeats 4000000 in
set_option maxRecDepth 100000 in
theorem q_pisDecidedX (l : Launch) (dC : Nat → ClassId) (dI : Nat → Nat → Nat) (cT : Nat → ClassId) (cf : Nat → Nat) (hC : CF cf) (ad : Nat → Nat) (E : Nat → va_E) (sz : Nat) (i : Nat) (hI0 : IXL cT (shC cf) (spC cf) (LC cf) ad E) (hh0 : i < cf 5) : Met l yX4_isDecided v_pisDecidedX rm_pisDecidedX (va_Pc [.ref (ad (64 * (i + 1) + 14))] (HWL dC dI (TYC cT) cf ad E sz)) (va_Qi (S := Unit) (fun r _ => (r = 1 ∧ ((((xi (E (64 * (i + 1) + 14)) 7).toInt = -1 ∧ ¬ (xi (E (64 * (i + 1) + 14)) 5).toInt = -1) ∨ (¬ (xi (E (64 * (i + 1) + 14)) 7).toInt = -1 ∧ ¬ (xi (E (64 * (i + 1) + 14)) 8).toInt = -1)))) ∨ (r = 0 ∧ (¬ ((((xi (E (64 * (i + 1) + 14)) 7).toInt = -1 ∧ ¬ (xi (E (64 * (i + 1) + 14)) 5).toInt = -1) ∨ (¬ (xi (E (64 * (i + 1) + 14)) 7).toInt = -1 ∧ ¬ (xi (E (64 * (i + 1) + 14)) 8).toInt = -1)))))) (fun _ _ => True) (fun _ => False)) 0 0 (fun _ => False) := by
  obtain ⟨⟨hc0, hc1, hc2, hc3, hc4, hc5⟩, hcr⟩ := id hC
  refine Met.ofW (cc := cX4_isDecided) (maxL := 1) (ret := (some .boolean)) (by decide) rfl ?_
  intro p e s m args below meth c s₁ B hml hv
  obtain ⟨hargs, hsz, hP, hK, hD0, hEV⟩ := hv
  subst hsz
  have hx := B.exec
  have hb := B.bytes
  have hr := B.returns
  have hts := atoms_spec (ws := v_pisDecidedX) B.pre
  have hown : s.vm.findClass RX4 = some m.cls := findClass_of_methodNamed B.named
  have hlocks := B.notSynchronized
  have hinX4 : ∀ w ∈ u_ws RX4 TX4 10, w ∈ v_pisDecidedX := fun w h => vA_in _ w (in_X4 w h)
  have hS : va_S (fun _ : Nat => False) s.heap s.heap [] := va_S.rf
  have hD := hD0
  have hI := hI0
  have hKp : Kp (wl [] []) E E := Kp.rf
  have hl := lv_entry ([.ref (ad (64 * (i + 1) + 14))]) (n := 1) (Nat.le_of_ble_eq_true rfl)
  obtain ⟨Q, hQ⟩ : ∃ Q, Q = MQ below (va_Qi (S := Unit) (fun r _ => (r = 1 ∧ ((((xi (E (64 * (i + 1) + 14)) 7).toInt = -1 ∧ ¬ (xi (E (64 * (i + 1) + 14)) 5).toInt = -1) ∨ (¬ (xi (E (64 * (i + 1) + 14)) 7).toInt = -1 ∧ ¬ (xi (E (64 * (i + 1) + 14)) 8).toInt = -1)))) ∨ (r = 0 ∧ (¬ ((((xi (E (64 * (i + 1) + 14)) 7).toInt = -1 ∧ ¬ (xi (E (64 * (i + 1) + 14)) 5).toInt = -1) ∨ (¬ (xi (E (64 * (i + 1) + 14)) 7).toInt = -1 ∧ ¬ (xi (E (64 * (i + 1) + 14)) 8).toInt = -1)))))) (fun _ _ => True) (fun _ => False)) args s 0 0 (fun _ => False) := ⟨_, rfl⟩
  rw [← hQ, show entryFrame m args 1 = _ from (congrArg (fun z => entryFrame m z 1) hargs).trans (lg_entry_eq _ _ _)]
  generalize (lg_sl ([.ref (ad (64 * (i + 1) + 14))]) ++ List.replicate (1 - (lg_sl ([.ref (ad (64 * (i + 1) + 14))])).length) Slot.unset).toArray = ls at hl ⊢
  have hl : lv_has ls 1 [(0, .ref (ad (64 * (i + 1) + 14)))] := hl
  refine lv_aload_n hx hb dX4_isDecided_0 rfl (lv_at hl 0 rfl) ?_
  have i1 : -1 ≤ (xi (E (64 * (i + 1) + 14)) 7).toInt ∧ (xi (E (64 * (i + 1) + 14)) 7).toInt ≤ 400 := hI0.iv (64 * (i + 1) + 14) (mP 14 i (by decide) hh0 (kl_le hC 5 (by decide))) (shC_p 14 i (by decide)) (Nat.le_of_ble_eq_true rfl) (spC_p 14 i (by decide) 7)
  refine th_getL (ci := 5) (C := RX4) (T := TX4) (N := 10) (v := .int (xi (E (64 * (i + 1) + 14)) 7)) hx hb hts hinX4 hown hK hP hI (64 * (i + 1) + 14) (mP 14 i (by decide) hh0 (kl_le hC 5 (by decide))) (shC_p 14 i (by decide)) rfl 7 (Nat.le_of_ble_eq_true rfl) (hts _ (vA_in _ _ (in_5 _ (List.mem_of_getElem? (i := 20) rfl)))) (fun _ h9 => h9) (th_v0L hKp hI0 (64 * (i + 1) + 14) (mP 14 i (by decide) hh0 (kl_le hC 5 (by decide))) (shC_p 14 i (by decide)) (Nat.le_of_ble_eq_true rfl) (spC_p 14 i (by decide) 7) (wl_p rfl rfl (by omega))) dX4_isDecided_1 ?_
  refine lv_iconst (v := -1) hx hb dX4_isDecided_4 (by decide) ?_
  refine lv_icmp_ne (tgt := 24) hx hb dX4_isDecided_5 (by decide) (fun c2 => ?_) (fun c2 => ?_)
  · --5 taken
    have t3 : ¬ (xi (E (64 * (i + 1) + 14)) 7).toInt = -1 := ti_ne c2
    have i4 : 0 ≤ (xi (E (64 * (i + 1) + 14)) 7).toInt ∧ (xi (E (64 * (i + 1) + 14)) 7).toInt ≤ 400 := iv_ne_l t3 i1 (il_ (-1))
    refine lv_aload_n hx hb dX4_isDecided_24 rfl (lv_at hl 0 rfl) ?_
    have i5 : -1 ≤ (xi (E (64 * (i + 1) + 14)) 8).toInt ∧ (xi (E (64 * (i + 1) + 14)) 8).toInt ≤ 400 := hI0.iv (64 * (i + 1) + 14) (mP 14 i (by decide) hh0 (kl_le hC 5 (by decide))) (shC_p 14 i (by decide)) (Nat.le_of_ble_eq_true rfl) (spC_p 14 i (by decide) 8)
    refine th_getL (ci := 5) (C := RX4) (T := TX4) (N := 10) (v := .int (xi (E (64 * (i + 1) + 14)) 8)) hx hb hts hinX4 hown hK hP hI (64 * (i + 1) + 14) (mP 14 i (by decide) hh0 (kl_le hC 5 (by decide))) (shC_p 14 i (by decide)) rfl 8 (Nat.le_of_ble_eq_true rfl) (hts _ (vA_in _ _ (in_5 _ (List.mem_of_getElem? (i := 18) rfl)))) (fun _ h9 => h9) (th_v0L hKp hI0 (64 * (i + 1) + 14) (mP 14 i (by decide) hh0 (kl_le hC 5 (by decide))) (shC_p 14 i (by decide)) (Nat.le_of_ble_eq_true rfl) (spC_p 14 i (by decide) 8) (wl_p rfl rfl (by omega))) dX4_isDecided_25 ?_
    refine lv_iconst (v := -1) hx hb dX4_isDecided_28 (by decide) ?_
    refine lv_icmp_eq (tgt := 36) hx hb dX4_isDecided_29 (by decide) (fun c6 => ?_) (fun c6 => ?_)
    · --29 taken
      have t7 : (xi (E (64 * (i + 1) + 14)) 8).toInt = -1 := ti_eq c6
      have i8 : -1 ≤ (xi (E (64 * (i + 1) + 14)) 8).toInt ∧ (xi (E (64 * (i + 1) + 14)) 8).toInt ≤ -1 := iv_eqi t7 i5 (il_ (-1)) (by decide)
      refine lv_iconst (v := 0) hx hb dX4_isDecided_36 (by decide) ?_
      rw [hQ]
      exact W.zret (v := 0) hx hb hr rfl (fun t ht hW => ⟨⟨0, (), rfl, Or.inr (⟨rfl, by have h8 := ln_0; omega⟩), trivial⟩, hS.F ht⟩) hS.2.2 dX4_isDecided_37
    · --29 not
      have t9 : ¬ (xi (E (64 * (i + 1) + 14)) 8).toInt = -1 := ti_ne c6
      have i10 : 0 ≤ (xi (E (64 * (i + 1) + 14)) 8).toInt ∧ (xi (E (64 * (i + 1) + 14)) 8).toInt ≤ 400 := iv_ne_l t9 i5 (il_ (-1))
      refine lv_iconst (v := 1) hx hb dX4_isDecided_32 (by decide) ?_
      refine lv_goto (tgt := 37) hx hb dX4_isDecided_33 (by decide) ?_
      rw [hQ]
      exact W.zret (v := 1) hx hb hr rfl (fun t ht hW => ⟨⟨1, (), rfl, Or.inl ⟨rfl, by have h8 := ln_1; omega⟩, trivial⟩, hS.F ht⟩) hS.2.2 dX4_isDecided_37
  · --5 not
    have t11 : (xi (E (64 * (i + 1) + 14)) 7).toInt = -1 := ti_eq c2
    have i12 : -1 ≤ (xi (E (64 * (i + 1) + 14)) 7).toInt ∧ (xi (E (64 * (i + 1) + 14)) 7).toInt ≤ -1 := iv_eqi t11 i1 (il_ (-1)) (by decide)
    refine lv_aload_n hx hb dX4_isDecided_8 rfl (lv_at hl 0 rfl) ?_
    have i13 : -1 ≤ (xi (E (64 * (i + 1) + 14)) 5).toInt ∧ (xi (E (64 * (i + 1) + 14)) 5).toInt ≤ 400 := hI0.iv (64 * (i + 1) + 14) (mP 14 i (by decide) hh0 (kl_le hC 5 (by decide))) (shC_p 14 i (by decide)) (Nat.le_of_ble_eq_true rfl) (spC_p 14 i (by decide) 5)
    refine th_getL (ci := 5) (C := RX4) (T := TX4) (N := 10) (v := .int (xi (E (64 * (i + 1) + 14)) 5)) hx hb hts hinX4 hown hK hP hI (64 * (i + 1) + 14) (mP 14 i (by decide) hh0 (kl_le hC 5 (by decide))) (shC_p 14 i (by decide)) rfl 5 (Nat.le_of_ble_eq_true rfl) (hts _ (vA_in _ _ (in_5 _ (List.mem_of_getElem? (i := 21) rfl)))) (fun _ h9 => h9) (th_v0L hKp hI0 (64 * (i + 1) + 14) (mP 14 i (by decide) hh0 (kl_le hC 5 (by decide))) (shC_p 14 i (by decide)) (Nat.le_of_ble_eq_true rfl) (spC_p 14 i (by decide) 5) (wl_p rfl rfl (by omega))) dX4_isDecided_9 ?_
    refine lv_iconst (v := -1) hx hb dX4_isDecided_12 (by decide) ?_
    refine lv_icmp_eq (tgt := 20) hx hb dX4_isDecided_13 (by decide) (fun c14 => ?_) (fun c14 => ?_)
    · --13 taken
      have t15 : (xi (E (64 * (i + 1) + 14)) 5).toInt = -1 := ti_eq c14
      have i16 : -1 ≤ (xi (E (64 * (i + 1) + 14)) 5).toInt ∧ (xi (E (64 * (i + 1) + 14)) 5).toInt ≤ -1 := iv_eqi t15 i13 (il_ (-1)) (by decide)
      refine lv_iconst (v := 0) hx hb dX4_isDecided_20 (by decide) ?_
      refine lv_goto (tgt := 37) hx hb dX4_isDecided_21 (by decide) ?_
      rw [hQ]
      exact W.zret (v := 0) hx hb hr rfl (fun t ht hW => ⟨⟨0, (), rfl, Or.inr (⟨rfl, by have h8 := ln_0; omega⟩), trivial⟩, hS.F ht⟩) hS.2.2 dX4_isDecided_37
    · --13 not
      have t17 : ¬ (xi (E (64 * (i + 1) + 14)) 5).toInt = -1 := ti_ne c14
      have i18 : 0 ≤ (xi (E (64 * (i + 1) + 14)) 5).toInt ∧ (xi (E (64 * (i + 1) + 14)) 5).toInt ≤ 400 := iv_ne_l t17 i13 (il_ (-1))
      refine lv_iconst (v := 1) hx hb dX4_isDecided_16 (by decide) ?_
      refine lv_goto (tgt := 37) hx hb dX4_isDecided_17 (by decide) ?_
      rw [hQ]
      exact W.zret (v := 1) hx hb hr rfl (fun t ht hW => ⟨⟨1, (), rfl, Or.inl ⟨rfl, by have h8 := ln_1; omega⟩, trivial⟩, hS.F ht⟩) hS.2.2 dX4_isDecided_37
def v_settleX : List Cond := .code yX4_settle cX4_settle 3 none :: vA
abbrev rm_settleX : Room := { frames := 0, cells := 0, slots := 0, locals := 0 }
set_option maxHeartbeats 4000000 in
set_option maxRecDepth 100000 in
theorem q_settleX (l : Launch) (dC : Nat → ClassId) (dI : Nat → Nat → Nat) (cT : Nat → ClassId) (cf : Nat → Nat) (hC : CF cf) (ad : Nat → Nat) (E : Nat → va_E) (sz : Nat) (a0 : Int32) (a1 : Int32) (i : Nat) (hI0 : IXL cT (shC cf) (spC cf) (LC cf) ad E) (hh0 : i < cf 5) (hh1 : 0 ≤ a0.toInt ∧ a0.toInt ≤ 3) (hh2 : 0 ≤ a1.toInt ∧ a1.toInt ≤ 400) : Met l yX4_settle v_settleX rm_settleX (va_Pc [.ref (ad (64 * (i + 1) + 14)), .int a0, .int a1] (HWL dC dI (TYC cT) cf ad E sz)) (va_Qv (S := Nat → va_E) (fun u => IXL cT (shC cf) (spC cf) (LC cf) ad u ∧ Kp (wl [] [(64 * (i + 1) + 14, 5), (64 * (i + 1) + 14, 6), (64 * (i + 1) + 14, 8), (64 * (i + 1) + 14, 9)]) E u ∧ ((((xi (E (64 * (i + 1) + 14)) 7).toInt = -1 → (xi (u (64 * (i + 1) + 14)) 5).toInt = a1.toInt ∧ (xi (u (64 * (i + 1) + 14)) 6).toInt = a0.toInt ∧ (xi (u (64 * (i + 1) + 14)) 8).toInt = (xi (E (64 * (i + 1) + 14)) 8).toInt ∧ (xi (u (64 * (i + 1) + 14)) 9).toInt = (xi (E (64 * (i + 1) + 14)) 9).toInt) ∧ (¬ (xi (E (64 * (i + 1) + 14)) 7).toInt = -1 → (xi (u (64 * (i + 1) + 14)) 8).toInt = a1.toInt ∧ (xi (u (64 * (i + 1) + 14)) 9).toInt = a0.toInt ∧ (xi (u (64 * (i + 1) + 14)) 5).toInt = (xi (E (64 * (i + 1) + 14)) 5).toInt ∧ (xi (u (64 * (i + 1) + 14)) 6).toInt = (xi (E (64 * (i + 1) + 14)) 6).toInt)))) (HBL dC dI (LC cf) ad) (va_A (WL (LC cf) ad E) sz)) 0 0 (va_A (WL (LC cf) ad E) sz) := by
  obtain ⟨⟨hc0, hc1, hc2, hc3, hc4, hc5⟩, hcr⟩ := id hC
  refine Met.ofW (cc := cX4_settle) (maxL := 3) (ret := none) (by decide) rfl ?_
  intro p e s m args below meth c s₁ B hml hv
  obtain ⟨hargs, hsz, hP, hK, hD0, hEV⟩ := hv
  subst hsz
  have hx := B.exec
  have hb := B.bytes
  have hr := B.returns
  have hts := atoms_spec (ws := v_settleX) B.pre
  have hown : s.vm.findClass RX4 = some m.cls := findClass_of_methodNamed B.named
  have hlocks := B.notSynchronized
  have hinX4 : ∀ w ∈ u_ws RX4 TX4 10, w ∈ v_settleX := fun w h => vA_in _ w (in_X4 w h)
  generalize hAe : va_A (WL (LC cf) ad E) s.heap.size = A at hEV ⊢
  have hA : ∀ q : Nat, s.heap.size ≤ q → A q := fun q h => by rw [← hAe]; exact Or.inr h
  have hD : va_D A (WL (LC cf) ad E) := by rw [← hAe]; exact hD0.self
  have hS : va_S A s.heap s.heap [] := va_S.rf
  have hI := hI0
  have hKp : Kp (wl [] [(64 * (i + 1) + 14, 5), (64 * (i + 1) + 14, 6), (64 * (i + 1) + 14, 8), (64 * (i + 1) + 14, 9)]) E E := Kp.rf
  have hl := lv_entry ([.ref (ad (64 * (i + 1) + 14)), .int a0, .int a1]) (n := 3) (Nat.le_of_ble_eq_true rfl)
  obtain ⟨Q, hQ⟩ : ∃ Q, Q = MQ below (va_Qv (S := Nat → va_E) (fun u => IXL cT (shC cf) (spC cf) (LC cf) ad u ∧ Kp (wl [] [(64 * (i + 1) + 14, 5), (64 * (i + 1) + 14, 6), (64 * (i + 1) + 14, 8), (64 * (i + 1) + 14, 9)]) E u ∧ ((((xi (E (64 * (i + 1) + 14)) 7).toInt = -1 → (xi (u (64 * (i + 1) + 14)) 5).toInt = a1.toInt ∧ (xi (u (64 * (i + 1) + 14)) 6).toInt = a0.toInt ∧ (xi (u (64 * (i + 1) + 14)) 8).toInt = (xi (E (64 * (i + 1) + 14)) 8).toInt ∧ (xi (u (64 * (i + 1) + 14)) 9).toInt = (xi (E (64 * (i + 1) + 14)) 9).toInt) ∧ (¬ (xi (E (64 * (i + 1) + 14)) 7).toInt = -1 → (xi (u (64 * (i + 1) + 14)) 8).toInt = a1.toInt ∧ (xi (u (64 * (i + 1) + 14)) 9).toInt = a0.toInt ∧ (xi (u (64 * (i + 1) + 14)) 5).toInt = (xi (E (64 * (i + 1) + 14)) 5).toInt ∧ (xi (u (64 * (i + 1) + 14)) 6).toInt = (xi (E (64 * (i + 1) + 14)) 6).toInt)))) (HBL dC dI (LC cf) ad) (A)) args s 0 0 (A) := ⟨_, rfl⟩
  rw [← hQ, show entryFrame m args 3 = _ from (congrArg (fun z => entryFrame m z 3) hargs).trans (lg_entry_eq _ _ _)]
  generalize (lg_sl ([.ref (ad (64 * (i + 1) + 14)), .int a0, .int a1]) ++ List.replicate (3 - (lg_sl ([.ref (ad (64 * (i + 1) + 14)), .int a0, .int a1])).length) Slot.unset).toArray = ls at hl ⊢
  have hl : lv_has ls 3 [(0, .ref (ad (64 * (i + 1) + 14))), (1, .int a0), (2, .int a1)] := hl
  obtain ⟨y1, ey1⟩ : ∃ y, xi (E (64 * (i + 1) + 14)) 5 = y := ⟨_, rfl⟩
  have fy1 : xv (E (64 * (i + 1) + 14)) 5 = .int y1 := (hI.fi (64 * (i + 1) + 14) (mP 14 i (by decide) hh0 (kl_le hC 5 (by decide))) (shC_p 14 i (by decide)) (Nat.le_of_ble_eq_true rfl) (spC_p 14 i (by decide) 5)).trans (congrArg Value.int ey1)
  have i2 : -1 ≤ y1.toInt ∧ y1.toInt ≤ 400 := by rw [← ey1]; exact hI.iv (64 * (i + 1) + 14) (mP 14 i (by decide) hh0 (kl_le hC 5 (by decide))) (shC_p 14 i (by decide)) (Nat.le_of_ble_eq_true rfl) (spC_p 14 i (by decide) 5)
  obtain ⟨y3, ey3⟩ : ∃ y, xi (E (64 * (i + 1) + 14)) 6 = y := ⟨_, rfl⟩
  have fy3 : xv (E (64 * (i + 1) + 14)) 6 = .int y3 := (hI.fi (64 * (i + 1) + 14) (mP 14 i (by decide) hh0 (kl_le hC 5 (by decide))) (shC_p 14 i (by decide)) (Nat.le_of_ble_eq_true rfl) (spC_p 14 i (by decide) 6)).trans (congrArg Value.int ey3)
  have i4 : 0 ≤ y3.toInt ∧ y3.toInt ≤ 3 := by rw [← ey3]; exact hI.iv (64 * (i + 1) + 14) (mP 14 i (by decide) hh0 (kl_le hC 5 (by decide))) (shC_p 14 i (by decide)) (Nat.le_of_ble_eq_true rfl) (spC_p 14 i (by decide) 6)
  have i5 : -1 ≤ (xi (E (64 * (i + 1) + 14)) 7).toInt ∧ (xi (E (64 * (i + 1) + 14)) 7).toInt ≤ 400 := hI0.iv (64 * (i + 1) + 14) (mP 14 i (by decide) hh0 (kl_le hC 5 (by decide))) (shC_p 14 i (by decide)) (Nat.le_of_ble_eq_true rfl) (spC_p 14 i (by decide) 7)
  obtain ⟨y6, ey6⟩ : ∃ y, xi (E (64 * (i + 1) + 14)) 8 = y := ⟨_, rfl⟩
  have fy6 : xv (E (64 * (i + 1) + 14)) 8 = .int y6 := (hI.fi (64 * (i + 1) + 14) (mP 14 i (by decide) hh0 (kl_le hC 5 (by decide))) (shC_p 14 i (by decide)) (Nat.le_of_ble_eq_true rfl) (spC_p 14 i (by decide) 8)).trans (congrArg Value.int ey6)
  have i7 : -1 ≤ y6.toInt ∧ y6.toInt ≤ 400 := by rw [← ey6]; exact hI.iv (64 * (i + 1) + 14) (mP 14 i (by decide) hh0 (kl_le hC 5 (by decide))) (shC_p 14 i (by decide)) (Nat.le_of_ble_eq_true rfl) (spC_p 14 i (by decide) 8)
  obtain ⟨y8, ey8⟩ : ∃ y, xi (E (64 * (i + 1) + 14)) 9 = y := ⟨_, rfl⟩
  have fy8 : xv (E (64 * (i + 1) + 14)) 9 = .int y8 := (hI.fi (64 * (i + 1) + 14) (mP 14 i (by decide) hh0 (kl_le hC 5 (by decide))) (shC_p 14 i (by decide)) (Nat.le_of_ble_eq_true rfl) (spC_p 14 i (by decide) 9)).trans (congrArg Value.int ey8)
  have i9 : 0 ≤ y8.toInt ∧ y8.toInt ≤ 3 := by rw [← ey8]; exact hI.iv (64 * (i + 1) + 14) (mP 14 i (by decide) hh0 (kl_le hC 5 (by decide))) (shC_p 14 i (by decide)) (Nat.le_of_ble_eq_true rfl) (spC_p 14 i (by decide) 9)
  refine lv_aload_n hx hb dX4_settle_0 rfl (lv_at hl 0 rfl) ?_
  refine th_getL (ci := 5) (C := RX4) (T := TX4) (N := 10) (v := .int (xi (E (64 * (i + 1) + 14)) 7)) hx hb hts hinX4 hown hK hP hI (64 * (i + 1) + 14) (mP 14 i (by decide) hh0 (kl_le hC 5 (by decide))) (shC_p 14 i (by decide)) rfl 7 (Nat.le_of_ble_eq_true rfl) (hts _ (vA_in _ _ (in_5 _ (List.mem_of_getElem? (i := 20) rfl)))) (fun _ h9 => h9) (th_v0L hKp hI0 (64 * (i + 1) + 14) (mP 14 i (by decide) hh0 (kl_le hC 5 (by decide))) (shC_p 14 i (by decide)) (Nat.le_of_ble_eq_true rfl) (spC_p 14 i (by decide) 7) (by simp [wl] <;> omega)) dX4_settle_1 ?_
  refine lv_iconst (v := -1) hx hb dX4_settle_4 (by decide) ?_
  refine lv_icmp_ne (tgt := 21) hx hb dX4_settle_5 (by decide) (fun c10 => ?_) (fun c10 => ?_)
  · --5 taken
    have t11 : ¬ (xi (E (64 * (i + 1) + 14)) 7).toInt = -1 := ti_ne c10
    have i12 : 0 ≤ (xi (E (64 * (i + 1) + 14)) 7).toInt ∧ (xi (E (64 * (i + 1) + 14)) 7).toInt ≤ 400 := iv_ne_l t11 i5 (il_ (-1))
    refine lv_aload_n hx hb dX4_settle_21 rfl (lv_at hl 0 rfl) ?_
    refine lv_iload_n hx hb dX4_settle_22 rfl (lv_at hl 2 rfl) ?_
    refine th_putL (ci := 5) (C := RX4) (T := TX4) (N := 10) (v := .int a1) (ty := .int) hx hb hts hinX4 tyX4 tyX4_ok nmX4 hown hK hP (WL_D hD) hS hI (64 * (i + 1) + 14) (mP 14 i (by decide) hh0 (kl_le hC 5 (by decide))) (shC_p 14 i (by decide)) rfl 8 (Nat.le_of_ble_eq_true rfl) (hts _ (vA_in _ _ (in_5 _ (List.mem_of_getElem? (i := 18) rfl)))) (fun _ h9 => h9) rfl (by decide +kernel) rfl rfl (okI (spC_p 14 i (by decide) 8) (iv_w hh2 (by decide))) dX4_settle_23 (fun H locs E13 pw14 hI hP hS => ?_)
    have hKp := hKp.pw pw14 (by simp [wl])
    refine lv_aload_n hx hb dX4_settle_26 rfl (lv_at hl 0 rfl) ?_
    refine lv_iload_n hx hb dX4_settle_27 rfl (lv_at hl 1 rfl) ?_
    refine th_putL (ci := 5) (C := RX4) (T := TX4) (N := 10) (v := .int a0) (ty := .int) hx hb hts hinX4 tyX4 tyX4_ok nmX4 hown hK hP (WL_D hD) hS hI (64 * (i + 1) + 14) (mP 14 i (by decide) hh0 (kl_le hC 5 (by decide))) (shC_p 14 i (by decide)) rfl 9 (Nat.le_of_ble_eq_true rfl) (hts _ (vA_in _ _ (in_5 _ (List.mem_of_getElem? (i := 19) rfl)))) (fun _ h9 => h9) rfl (by decide +kernel) rfl rfl (okI (spC_p 14 i (by decide) 9) hh1) dX4_settle_28 (fun H locs E15 pw16 hI hP hS => ?_)
    have hKp := hKp.pw pw16 (by simp [wl])
    rw [hQ]
    exact W.vret hx hb hr (fun t ht hW => ⟨⟨E15, rfl, ⟨hI, hKp, (by (try rw [(show xi (E15 (64 * (i + 1) + 14)) 5 = y1 from vi_e ((pw16.2 (64 * (i + 1) + 14) 5 (fun q9 => absurd q9.2 (Nat.ne_of_beq_eq_false rfl))).trans ((pw14.2 (64 * (i + 1) + 14) 5 (fun q9 => absurd q9.2 (Nat.ne_of_beq_eq_false rfl))).trans fy1)))]); (try rw [(show xi (E15 (64 * (i + 1) + 14)) 6 = y3 from vi_e ((pw16.2 (64 * (i + 1) + 14) 6 (fun q9 => absurd q9.2 (Nat.ne_of_beq_eq_false rfl))).trans ((pw14.2 (64 * (i + 1) + 14) 6 (fun q9 => absurd q9.2 (Nat.ne_of_beq_eq_false rfl))).trans fy3)))]); (try rw [(show xi (E15 (64 * (i + 1) + 14)) 8 = a1 from vi_e ((pw16.2 (64 * (i + 1) + 14) 8 (fun q9 => absurd q9.2 (Nat.ne_of_beq_eq_false rfl))).trans pw14.1))]); (try rw [(show xi (E15 (64 * (i + 1) + 14)) 9 = a0 from vi_e pw16.1)]); (try rw [ey1]); (try rw [ey3]); (try rw [ey6]); (try rw [ey8]); all_goals omega)⟩, by show va_P (dC, dI) vwCl (WL (LC cf) ad E15) t.heap; rw [ht]; exact hP⟩, hS.F ht⟩) hS.2.2 dX4_settle_31
  · --5 not
    have t17 : (xi (E (64 * (i + 1) + 14)) 7).toInt = -1 := ti_eq c10
    have i18 : -1 ≤ (xi (E (64 * (i + 1) + 14)) 7).toInt ∧ (xi (E (64 * (i + 1) + 14)) 7).toInt ≤ -1 := iv_eqi t17 i5 (il_ (-1)) (by decide)
    refine lv_aload_n hx hb dX4_settle_8 rfl (lv_at hl 0 rfl) ?_
    refine lv_iload_n hx hb dX4_settle_9 rfl (lv_at hl 2 rfl) ?_
    refine th_putL (ci := 5) (C := RX4) (T := TX4) (N := 10) (v := .int a1) (ty := .int) hx hb hts hinX4 tyX4 tyX4_ok nmX4 hown hK hP (WL_D hD) hS hI (64 * (i + 1) + 14) (mP 14 i (by decide) hh0 (kl_le hC 5 (by decide))) (shC_p 14 i (by decide)) rfl 5 (Nat.le_of_ble_eq_true rfl) (hts _ (vA_in _ _ (in_5 _ (List.mem_of_getElem? (i := 21) rfl)))) (fun _ h9 => h9) rfl (by decide +kernel) rfl rfl (okI (spC_p 14 i (by decide) 5) (iv_w hh2 (by decide))) dX4_settle_10 (fun H locs E19 pw20 hI hP hS => ?_)
    have hKp := hKp.pw pw20 (by simp [wl])
    refine lv_aload_n hx hb dX4_settle_13 rfl (lv_at hl 0 rfl) ?_
    refine lv_iload_n hx hb dX4_settle_14 rfl (lv_at hl 1 rfl) ?_
    refine th_putL (ci := 5) (C := RX4) (T := TX4) (N := 10) (v := .int a0) (ty := .int) hx hb hts hinX4 tyX4 tyX4_ok nmX4 hown hK hP (WL_D hD) hS hI (64 * (i + 1) + 14) (mP 14 i (by decide) hh0 (kl_le hC 5 (by decide))) (shC_p 14 i (by decide)) rfl 6 (Nat.le_of_ble_eq_true rfl) (hts _ (vA_in _ _ (in_5 _ (List.mem_of_getElem? (i := 22) rfl)))) (fun _ h9 => h9) rfl (by decide +kernel) rfl rfl (okI (spC_p 14 i (by decide) 6) hh1) dX4_settle_15 (fun H locs E21 pw22 hI hP hS => ?_)
    have hKp := hKp.pw pw22 (by simp [wl])
    refine lv_goto (tgt := 31) hx hb dX4_settle_18 (by decide) ?_
    rw [hQ]
    exact W.vret hx hb hr (fun t ht hW => ⟨⟨E21, rfl, ⟨hI, hKp, (by (try rw [(show xi (E21 (64 * (i + 1) + 14)) 5 = a1 from vi_e ((pw22.2 (64 * (i + 1) + 14) 5 (fun q9 => absurd q9.2 (Nat.ne_of_beq_eq_false rfl))).trans pw20.1))]); (try rw [(show xi (E21 (64 * (i + 1) + 14)) 6 = a0 from vi_e pw22.1)]); (try rw [(show xi (E21 (64 * (i + 1) + 14)) 8 = y6 from vi_e ((pw22.2 (64 * (i + 1) + 14) 8 (fun q9 => absurd q9.2 (Nat.ne_of_beq_eq_false rfl))).trans ((pw20.2 (64 * (i + 1) + 14) 8 (fun q9 => absurd q9.2 (Nat.ne_of_beq_eq_false rfl))).trans fy6)))]); (try rw [(show xi (E21 (64 * (i + 1) + 14)) 9 = y8 from vi_e ((pw22.2 (64 * (i + 1) + 14) 9 (fun q9 => absurd q9.2 (Nat.ne_of_beq_eq_false rfl))).trans ((pw20.2 (64 * (i + 1) + 14) 9 (fun q9 => absurd q9.2 (Nat.ne_of_beq_eq_false rfl))).trans fy8)))]); (try rw [ey1]); (try rw [ey3]); (try rw [ey6]); (try rw [ey8]); all_goals omega)⟩, by show va_P (dC, dI) vwCl (WL (LC cf) ad E21) t.heap; rw [ht]; exact hP⟩, hS.F ht⟩) hS.2.2 dX4_settle_31
def v_u_decideS : List Cond := .code yX12_decide cX12_decide 4 (some .int) :: vA
abbrev rm_u_decideS : Room := { frames := 7, cells := 0, slots := 0, locals := 280 }
set_option maxHeartbeats 4000000 in
set_option maxRecDepth 100000 in
theorem q_u_decideS (l : Launch) (dC : Nat → ClassId) (dI : Nat → Nat → Nat) (cT : Nat → ClassId) (cf : Nat → Nat) (hC : CF cf) (ad : Nat → Nat) (E : Nat → va_E) (sz : Nat) (a0 : Int32) (hI0 : IXL cT (shC cf) (spC cf) (LC cf) ad E)  : Met l yX12_decide v_u_decideS rm_u_decideS (va_Pc [.ref (ad 0), .int a0] (HWL dC dI (TYC cT) cf ad E sz)) (va_Qi (S := Nat → va_E) (fun r u => IXL cT (shC cf) (spC cf) (LC cf) ad u ∧ Kp (wl [19, 20, 38, 39, 40, 41, 42] [(5, 6), (5, 7), (5, 8), (5, 9), (64 * (a0.toNatClampNeg + 1) + 14, 5), (64 * (a0.toNatClampNeg + 1) + 14, 6), (64 * (a0.toNatClampNeg + 1) + 14, 8), (64 * (a0.toNatClampNeg + 1) + 14, 9)]) E u ∧ (((0 ≤ r.toInt ∧ r.toInt ≤ 3) ∧ ((0 ≤ a0.toInt ∧ a0.toInt < ((cf 5 : Nat) : Int)) ∧ (xi (E (64 * (a0.toNatClampNeg + 1) + 14)) 4).toInt ≤ (xi (E 1) 0).toInt ∧ ¬ (((xi (E (64 * (a0.toNatClampNeg + 1) + 14)) 7).toInt = -1 ∧ ¬ (xi (E (64 * (a0.toNatClampNeg + 1) + 14)) 5).toInt = -1) ∨ (¬ (xi (E (64 * (a0.toNatClampNeg + 1) + 14)) 7).toInt = -1 ∧ ¬ (xi (E (64 * (a0.toNatClampNeg + 1) + 14)) 8).toInt = -1))) ∧ (((xi (E (64 * (a0.toNatClampNeg + 1) + 14)) 7).toInt = -1 → (xi (u (64 * (a0.toNatClampNeg + 1) + 14)) 5).toInt = (xi (E 1) 0).toInt ∧ (xi (u (64 * (a0.toNatClampNeg + 1) + 14)) 6).toInt = r.toInt ∧ (xi (u (64 * (a0.toNatClampNeg + 1) + 14)) 8).toInt = (xi (E (64 * (a0.toNatClampNeg + 1) + 14)) 8).toInt ∧ (xi (u (64 * (a0.toNatClampNeg + 1) + 14)) 9).toInt = (xi (E (64 * (a0.toNatClampNeg + 1) + 14)) 9).toInt) ∧ (¬ (xi (E (64 * (a0.toNatClampNeg + 1) + 14)) 7).toInt = -1 → (xi (u (64 * (a0.toNatClampNeg + 1) + 14)) 8).toInt = (xi (E 1) 0).toInt ∧ (xi (u (64 * (a0.toNatClampNeg + 1) + 14)) 9).toInt = r.toInt ∧ (xi (u (64 * (a0.toNatClampNeg + 1) + 14)) 5).toInt = (xi (E (64 * (a0.toNatClampNeg + 1) + 14)) 5).toInt ∧ (xi (u (64 * (a0.toNatClampNeg + 1) + 14)) 6).toInt = (xi (E (64 * (a0.toNatClampNeg + 1) + 14)) 6).toInt) ∧ (xi (u (64 * (a0.toNatClampNeg + 1) + 14)) 7).toInt = (xi (E (64 * (a0.toNatClampNeg + 1) + 14)) 7).toInt)) ∨ (r = -1 ∧ (¬ (((0 ≤ a0.toInt ∧ a0.toInt < ((cf 5 : Nat) : Int)) ∧ (xi (E (64 * (a0.toNatClampNeg + 1) + 14)) 4).toInt ≤ (xi (E 1) 0).toInt) ∧ ¬ (((xi (E (64 * (a0.toNatClampNeg + 1) + 14)) 7).toInt = -1 ∧ ¬ (xi (E (64 * (a0.toNatClampNeg + 1) + 14)) 5).toInt = -1) ∨ (¬ (xi (E (64 * (a0.toNatClampNeg + 1) + 14)) 7).toInt = -1 ∧ ¬ (xi (E (64 * (a0.toNatClampNeg + 1) + 14)) 8).toInt = -1)))) ∧ ((xi (u (64 * (a0.toNatClampNeg + 1) + 14)) 5).toInt = (xi (E (64 * (a0.toNatClampNeg + 1) + 14)) 5).toInt ∧ (xi (u (64 * (a0.toNatClampNeg + 1) + 14)) 6).toInt = (xi (E (64 * (a0.toNatClampNeg + 1) + 14)) 6).toInt ∧ (xi (u (64 * (a0.toNatClampNeg + 1) + 14)) 7).toInt = (xi (E (64 * (a0.toNatClampNeg + 1) + 14)) 7).toInt ∧ (xi (u (64 * (a0.toNatClampNeg + 1) + 14)) 8).toInt = (xi (E (64 * (a0.toNatClampNeg + 1) + 14)) 8).toInt ∧ (xi (u (64 * (a0.toNatClampNeg + 1) + 14)) 9).toInt = (xi (E (64 * (a0.toNatClampNeg + 1) + 14)) 9).toInt)))) (HBL dC dI (LC cf) ad) (va_A (WL (LC cf) ad E) sz)) 0 0 (va_A (WL (LC cf) ad E) sz) := by
  obtain ⟨⟨hc0, hc1, hc2, hc3, hc4, hc5⟩, hcr⟩ := id hC
  refine Met.ofW (cc := cX12_decide) (maxL := 4) (ret := (some .int)) (by decide) rfl ?_
  intro p e s m args below meth c s₁ B hml hv
  obtain ⟨hargs, hsz, hP, hK, hD0, hEV⟩ := hv
  subst hsz
  have hx := B.exec
  have hb := B.bytes
  have hr := B.returns
  have hts := atoms_spec (ws := v_u_decideS) B.pre
  have hown : s.vm.findClass RX12 = some m.cls := findClass_of_methodNamed B.named
  have hlocks := B.notSynchronized
  have hinX0 : ∀ w ∈ u_ws RX0 TX0 11, w ∈ v_u_decideS := fun w h => vA_in _ w (in_X0 w h)
  have hinX12 : ∀ w ∈ u_ws RX12 TX12 6, w ∈ v_u_decideS := fun w h => vA_in _ w (in_X12 w h)
  generalize hAe : va_A (WL (LC cf) ad E) s.heap.size = A at hEV ⊢
  have hA : ∀ q : Nat, s.heap.size ≤ q → A q := fun q h => by rw [← hAe]; exact Or.inr h
  have hD : va_D A (WL (LC cf) ad E) := by rw [← hAe]; exact hD0.self
  have hS : va_S A s.heap s.heap [] := va_S.rf
  have hI := hI0
  have hKp : Kp (wl [19, 20, 38, 39, 40, 41, 42] [(5, 6), (5, 7), (5, 8), (5, 9), (64 * (a0.toNatClampNeg + 1) + 14, 5), (64 * (a0.toNatClampNeg + 1) + 14, 6), (64 * (a0.toNatClampNeg + 1) + 14, 8), (64 * (a0.toNatClampNeg + 1) + 14, 9)]) E E := Kp.rf
  have hl := lv_entry ([.ref (ad 0), .int a0]) (n := 4) (Nat.le_of_ble_eq_true rfl)
  obtain ⟨Q, hQ⟩ : ∃ Q, Q = MQ below (va_Qi (S := Nat → va_E) (fun r u => IXL cT (shC cf) (spC cf) (LC cf) ad u ∧ Kp (wl [19, 20, 38, 39, 40, 41, 42] [(5, 6), (5, 7), (5, 8), (5, 9), (64 * (a0.toNatClampNeg + 1) + 14, 5), (64 * (a0.toNatClampNeg + 1) + 14, 6), (64 * (a0.toNatClampNeg + 1) + 14, 8), (64 * (a0.toNatClampNeg + 1) + 14, 9)]) E u ∧ (((0 ≤ r.toInt ∧ r.toInt ≤ 3) ∧ ((0 ≤ a0.toInt ∧ a0.toInt < ((cf 5 : Nat) : Int)) ∧ (xi (E (64 * (a0.toNatClampNeg + 1) + 14)) 4).toInt ≤ (xi (E 1) 0).toInt ∧ ¬ (((xi (E (64 * (a0.toNatClampNeg + 1) + 14)) 7).toInt = -1 ∧ ¬ (xi (E (64 * (a0.toNatClampNeg + 1) + 14)) 5).toInt = -1) ∨ (¬ (xi (E (64 * (a0.toNatClampNeg + 1) + 14)) 7).toInt = -1 ∧ ¬ (xi (E (64 * (a0.toNatClampNeg + 1) + 14)) 8).toInt = -1))) ∧ (((xi (E (64 * (a0.toNatClampNeg + 1) + 14)) 7).toInt = -1 → (xi (u (64 * (a0.toNatClampNeg + 1) + 14)) 5).toInt = (xi (E 1) 0).toInt ∧ (xi (u (64 * (a0.toNatClampNeg + 1) + 14)) 6).toInt = r.toInt ∧ (xi (u (64 * (a0.toNatClampNeg + 1) + 14)) 8).toInt = (xi (E (64 * (a0.toNatClampNeg + 1) + 14)) 8).toInt ∧ (xi (u (64 * (a0.toNatClampNeg + 1) + 14)) 9).toInt = (xi (E (64 * (a0.toNatClampNeg + 1) + 14)) 9).toInt) ∧ (¬ (xi (E (64 * (a0.toNatClampNeg + 1) + 14)) 7).toInt = -1 → (xi (u (64 * (a0.toNatClampNeg + 1) + 14)) 8).toInt = (xi (E 1) 0).toInt ∧ (xi (u (64 * (a0.toNatClampNeg + 1) + 14)) 9).toInt = r.toInt ∧ (xi (u (64 * (a0.toNatClampNeg + 1) + 14)) 5).toInt = (xi (E (64 * (a0.toNatClampNeg + 1) + 14)) 5).toInt ∧ (xi (u (64 * (a0.toNatClampNeg + 1) + 14)) 6).toInt = (xi (E (64 * (a0.toNatClampNeg + 1) + 14)) 6).toInt) ∧ (xi (u (64 * (a0.toNatClampNeg + 1) + 14)) 7).toInt = (xi (E (64 * (a0.toNatClampNeg + 1) + 14)) 7).toInt)) ∨ (r = -1 ∧ (¬ (((0 ≤ a0.toInt ∧ a0.toInt < ((cf 5 : Nat) : Int)) ∧ (xi (E (64 * (a0.toNatClampNeg + 1) + 14)) 4).toInt ≤ (xi (E 1) 0).toInt) ∧ ¬ (((xi (E (64 * (a0.toNatClampNeg + 1) + 14)) 7).toInt = -1 ∧ ¬ (xi (E (64 * (a0.toNatClampNeg + 1) + 14)) 5).toInt = -1) ∨ (¬ (xi (E (64 * (a0.toNatClampNeg + 1) + 14)) 7).toInt = -1 ∧ ¬ (xi (E (64 * (a0.toNatClampNeg + 1) + 14)) 8).toInt = -1)))) ∧ ((xi (u (64 * (a0.toNatClampNeg + 1) + 14)) 5).toInt = (xi (E (64 * (a0.toNatClampNeg + 1) + 14)) 5).toInt ∧ (xi (u (64 * (a0.toNatClampNeg + 1) + 14)) 6).toInt = (xi (E (64 * (a0.toNatClampNeg + 1) + 14)) 6).toInt ∧ (xi (u (64 * (a0.toNatClampNeg + 1) + 14)) 7).toInt = (xi (E (64 * (a0.toNatClampNeg + 1) + 14)) 7).toInt ∧ (xi (u (64 * (a0.toNatClampNeg + 1) + 14)) 8).toInt = (xi (E (64 * (a0.toNatClampNeg + 1) + 14)) 8).toInt ∧ (xi (u (64 * (a0.toNatClampNeg + 1) + 14)) 9).toInt = (xi (E (64 * (a0.toNatClampNeg + 1) + 14)) 9).toInt)))) (HBL dC dI (LC cf) ad) (A)) args s 0 0 (A) := ⟨_, rfl⟩
  rw [← hQ, show entryFrame m args 4 = _ from (congrArg (fun z => entryFrame m z 4) hargs).trans (lg_entry_eq _ _ _)]
  generalize (lg_sl ([.ref (ad 0), .int a0]) ++ List.replicate (4 - (lg_sl ([.ref (ad 0), .int a0])).length) Slot.unset).toArray = ls at hl ⊢
  have hl : lv_has ls 4 [(0, .ref (ad 0)), (1, .int a0)] := hl
  refine lv_aload_n hx hb dX12_decide_0 rfl (lv_at hl 0 rfl) ?_
  refine th_getL (ci := 13) (C := RX12) (T := TX12) (N := 6) (v := .ref (ad 1)) hx hb hts hinX12 hown hK hP hI 0 (mF 0 rfl) rfl rfl 0 (Nat.le_of_ble_eq_true rfl) (hts _ (vA_in _ _ (in_10 _ (List.mem_of_getElem? (i := 17) rfl)))) (fun _ h9 => h9) (hI.fr 0 (mF 0 rfl) rfl (Nat.le_of_ble_eq_true rfl) 1 rfl) dX12_decide_1 ?_
  refine lv_iload_n hx hb dX12_decide_4 rfl (lv_at hl 1 rfl) ?_
  refine lv_aload_n hx hb dX12_decide_5 rfl (lv_at hl 0 rfl) ?_
  refine th_getL (ci := 13) (C := RX12) (T := TX12) (N := 6) (v := .ref (ad 1)) hx hb hts hinX12 hown hK hP hI 0 (mF 0 rfl) rfl rfl 0 (Nat.le_of_ble_eq_true rfl) (hts _ (vA_in _ _ (in_10 _ (List.mem_of_getElem? (i := 17) rfl)))) (fun _ h9 => h9) (hI.fr 0 (mF 0 rfl) rfl (Nat.le_of_ble_eq_true rfl) 1 rfl) dX12_decide_6 ?_
  have i1 : 0 ≤ (xi (E 1) 0).toInt ∧ (xi (E 1) 0).toInt ≤ 400 := hI0.iv 1 (mF 1 rfl) rfl (Nat.le_of_ble_eq_true rfl) rfl
  refine th_getL (ci := 1) (C := RX0) (T := TX0) (N := 11) (v := .int (xi (E 1) 0)) hx hb hts hinX0 hown hK hP hI 1 (mF 1 rfl) rfl rfl 0 (Nat.le_of_ble_eq_true rfl) (hts _ (vA_in _ _ (in_10 _ (List.mem_of_getElem? (i := 26) rfl)))) (fun _ h9 => h9) (th_v0L hKp hI0 1 (mF 1 rfl) rfl (Nat.le_of_ble_eq_true rfl) rfl rfl) dX12_decide_9 ?_
  refine th_riL (va_runV (As := [.int a0, .int (xi (E 1) 0)]) (rest := []) ⟨hx, hb, hml, hown, hts⟩ (q_isProtestedC l dC dI cT cf hC ad E s.heap.size a0 (xi (E 1) 0) hI) (cwV 2 hts (gi_V (in_14 _ (List.mem_of_getElem? (i := 21) rfl)) (in_14 _ (List.mem_of_getElem? (i := 22) rfl)) (in_14 _ (List.mem_of_getElem? (i := 23) rfl)) (in_5 _ (List.mem_of_getElem? (i := 6) rfl)) (in_6 _ (List.mem_of_getElem? (i := 20) rfl))) rfl rfl rfl (by decide +kernel) ⟨Nat.le_of_ble_eq_true rfl, Nat.le_of_ble_eq_true rfl⟩) ⟨HWL_bl, va_recv hK hP (ci := 1) (q0 := posL 1 (LC cf)) rfl (hI.ob 1 (mF 1 rfl) rfl), (HWL_wi hP hK (WL_D hD) hS hA hEV)⟩ rfl rfl hl.1 rfl (lv_room (Nat.le_of_ble_eq_true rfl)) dX12_decide_12 ⟨Nat.le_of_ble_eq_true rfl, Nat.le_of_ble_eq_true rfl⟩) hS hP (fun r2 H locs hw hP hS => ?_)
  rcases hw with hw | hw
  · -- isProtestedC, case 0
    obtain ⟨rfl, f3, f4, f5⟩ := hw
    refine lv_if_ne (tgt := 20) hx hb dX12_decide_15 (by decide) (fun c6 => ?_) (fun c6 => ?_)
    · --15 taken
      refine lv_aload_n hx hb dX12_decide_20 rfl (lv_at hl 0 rfl) ?_
      refine th_getL (ci := 13) (C := RX12) (T := TX12) (N := 6) (v := .ref (ad 1)) hx hb hts hinX12 hown hK hP hI 0 (mF 0 rfl) rfl rfl 0 (Nat.le_of_ble_eq_true rfl) (hts _ (vA_in _ _ (in_10 _ (List.mem_of_getElem? (i := 17) rfl)))) (fun _ h9 => h9) (hI.fr 0 (mF 0 rfl) rfl (Nat.le_of_ble_eq_true rfl) 1 rfl) dX12_decide_21 ?_
      refine th_getL (ci := 1) (C := RX0) (T := TX0) (N := 11) (v := .ref (ad 12)) hx hb hts hinX0 hown hK hP hI 1 (mF 1 rfl) rfl rfl 8 (Nat.le_of_ble_eq_true rfl) (hts _ (vA_in _ _ (in_14 _ (List.mem_of_getElem? (i := 10) rfl)))) (fun _ h9 => h9) (hI.fr 1 (mF 1 rfl) rfl (Nat.le_of_ble_eq_true rfl) 12 rfl) dX12_decide_24 ?_
      refine lv_iload_n hx hb dX12_decide_27 rfl (lv_at hl 1 rfl) ?_
      refine th_rrL (va_runV (As := [.int a0]) (rest := []) ⟨hx, hb, hml, hown, hts⟩ (q_get5 l dC dI cT cf hC ad E H.size a0 hI (by omega)) (cwV 1 hts (gi_V (in_14 _ (List.mem_of_getElem? (i := 24) rfl)) (in_4 _ (List.mem_of_getElem? (i := 38) rfl)) (in_4 _ (List.mem_of_getElem? (i := 39) rfl)) (in_3 _ (List.mem_of_getElem? (i := 18) rfl)) (in_3 _ (List.mem_of_getElem? (i := 39) rfl))) rfl rfl rfl (by decide +kernel) ⟨Nat.le_of_ble_eq_true rfl, Nat.le_of_ble_eq_true rfl⟩) ⟨HWL_bl, va_recv hK hP (ci := 0) (q0 := posL 12 (LC cf)) rfl (hI.ob 12 (mF 12 rfl) rfl), (HWL_wi hP hK (WL_D hD) hS hA hEV)⟩ rfl rfl hl.1 rfl (lv_room (Nat.le_of_ble_eq_true rfl)) dX12_decide_28 ⟨Nat.le_of_ble_eq_true rfl, Nat.le_of_ble_eq_true rfl⟩) hS hP (fun r7 H locs hw hP hS => ?_)
      obtain rfl := hw
      have lv8 : a0.toNatClampNeg < cf 5 := by rw [tn_]; omega
      refine va_castS (cC := dC 5) hx hb hown (hts _ (vA_in _ _ (in_14 _ (List.mem_of_getElem? (i := 19) rfl)))) (hK.1 5 _ rfl).2 (va_recv hK hP (ci := 5) (q0 := posL (64 * (a0.toNatClampNeg + 1) + 14) (LC cf)) rfl (hI.ob (64 * (a0.toNatClampNeg + 1) + 14) (mP 14 a0.toNatClampNeg (by decide) lv8 (kl_le hC 5 (by decide))) (shC_p 14 a0.toNatClampNeg (by decide)))) dX12_decide_31 ?_
      refine lv_astore_n (lv' := [(2, .ref (ad (64 * (a0.toNatClampNeg + 1) + 14))), (0, .ref (ad 0)), (1, .int a0)]) hx hb dX12_decide_34 rfl hl (by decide) rfl (fun ls hl => ?_)
      obtain ⟨y9, ey9⟩ : ∃ y, xi (E (64 * (a0.toNatClampNeg + 1) + 14)) 5 = y := ⟨_, rfl⟩
      have fy9 : xv (E (64 * (a0.toNatClampNeg + 1) + 14)) 5 = .int y9 := (hI.fi (64 * (a0.toNatClampNeg + 1) + 14) (mP 14 a0.toNatClampNeg (by decide) lv8 (kl_le hC 5 (by decide))) (shC_p 14 a0.toNatClampNeg (by decide)) (Nat.le_of_ble_eq_true rfl) (spC_p 14 a0.toNatClampNeg (by decide) 5)).trans (congrArg Value.int ey9)
      have i10 : -1 ≤ y9.toInt ∧ y9.toInt ≤ 400 := by rw [← ey9]; exact hI.iv (64 * (a0.toNatClampNeg + 1) + 14) (mP 14 a0.toNatClampNeg (by decide) lv8 (kl_le hC 5 (by decide))) (shC_p 14 a0.toNatClampNeg (by decide)) (Nat.le_of_ble_eq_true rfl) (spC_p 14 a0.toNatClampNeg (by decide) 5)
      obtain ⟨y11, ey11⟩ : ∃ y, xi (E (64 * (a0.toNatClampNeg + 1) + 14)) 6 = y := ⟨_, rfl⟩
      have fy11 : xv (E (64 * (a0.toNatClampNeg + 1) + 14)) 6 = .int y11 := (hI.fi (64 * (a0.toNatClampNeg + 1) + 14) (mP 14 a0.toNatClampNeg (by decide) lv8 (kl_le hC 5 (by decide))) (shC_p 14 a0.toNatClampNeg (by decide)) (Nat.le_of_ble_eq_true rfl) (spC_p 14 a0.toNatClampNeg (by decide) 6)).trans (congrArg Value.int ey11)
      have i12 : 0 ≤ y11.toInt ∧ y11.toInt ≤ 3 := by rw [← ey11]; exact hI.iv (64 * (a0.toNatClampNeg + 1) + 14) (mP 14 a0.toNatClampNeg (by decide) lv8 (kl_le hC 5 (by decide))) (shC_p 14 a0.toNatClampNeg (by decide)) (Nat.le_of_ble_eq_true rfl) (spC_p 14 a0.toNatClampNeg (by decide) 6)
      have i13 : -1 ≤ (xi (E (64 * (a0.toNatClampNeg + 1) + 14)) 7).toInt ∧ (xi (E (64 * (a0.toNatClampNeg + 1) + 14)) 7).toInt ≤ 400 := hI0.iv (64 * (a0.toNatClampNeg + 1) + 14) (mP 14 a0.toNatClampNeg (by decide) lv8 (kl_le hC 5 (by decide))) (shC_p 14 a0.toNatClampNeg (by decide)) (Nat.le_of_ble_eq_true rfl) (spC_p 14 a0.toNatClampNeg (by decide) 7)
      obtain ⟨y14, ey14⟩ : ∃ y, xi (E (64 * (a0.toNatClampNeg + 1) + 14)) 8 = y := ⟨_, rfl⟩
      have fy14 : xv (E (64 * (a0.toNatClampNeg + 1) + 14)) 8 = .int y14 := (hI.fi (64 * (a0.toNatClampNeg + 1) + 14) (mP 14 a0.toNatClampNeg (by decide) lv8 (kl_le hC 5 (by decide))) (shC_p 14 a0.toNatClampNeg (by decide)) (Nat.le_of_ble_eq_true rfl) (spC_p 14 a0.toNatClampNeg (by decide) 8)).trans (congrArg Value.int ey14)
      have i15 : -1 ≤ y14.toInt ∧ y14.toInt ≤ 400 := by rw [← ey14]; exact hI.iv (64 * (a0.toNatClampNeg + 1) + 14) (mP 14 a0.toNatClampNeg (by decide) lv8 (kl_le hC 5 (by decide))) (shC_p 14 a0.toNatClampNeg (by decide)) (Nat.le_of_ble_eq_true rfl) (spC_p 14 a0.toNatClampNeg (by decide) 8)
      obtain ⟨y16, ey16⟩ : ∃ y, xi (E (64 * (a0.toNatClampNeg + 1) + 14)) 9 = y := ⟨_, rfl⟩
      have fy16 : xv (E (64 * (a0.toNatClampNeg + 1) + 14)) 9 = .int y16 := (hI.fi (64 * (a0.toNatClampNeg + 1) + 14) (mP 14 a0.toNatClampNeg (by decide) lv8 (kl_le hC 5 (by decide))) (shC_p 14 a0.toNatClampNeg (by decide)) (Nat.le_of_ble_eq_true rfl) (spC_p 14 a0.toNatClampNeg (by decide) 9)).trans (congrArg Value.int ey16)
      have i17 : 0 ≤ y16.toInt ∧ y16.toInt ≤ 3 := by rw [← ey16]; exact hI.iv (64 * (a0.toNatClampNeg + 1) + 14) (mP 14 a0.toNatClampNeg (by decide) lv8 (kl_le hC 5 (by decide))) (shC_p 14 a0.toNatClampNeg (by decide)) (Nat.le_of_ble_eq_true rfl) (spC_p 14 a0.toNatClampNeg (by decide) 9)
      refine lv_aload_n hx hb dX12_decide_35 rfl (lv_at hl 0 rfl) ?_
      refine th_riL (va_runV (As := []) (rest := []) ⟨hx, hb, hml, hown, hts⟩ (q_pisDecidedX l dC dI cT cf hC ad E H.size a0.toNatClampNeg hI (by omega)) (cwV 0 hts (gi_V (in_14 _ (List.mem_of_getElem? (i := 25) rfl)) (in_14 _ (List.mem_of_getElem? (i := 26) rfl)) (in_14 _ (List.mem_of_getElem? (i := 27) rfl)) (in_5 _ (List.mem_of_getElem? (i := 16) rfl)) (in_14 _ (List.mem_of_getElem? (i := 28) rfl))) rfl rfl rfl (by decide +kernel) ⟨Nat.le_of_ble_eq_true rfl, Nat.le_of_ble_eq_true rfl⟩) ⟨HWL_bl, va_recv hK hP (ci := 5) (q0 := posL (64 * (a0.toNatClampNeg + 1) + 14) (LC cf)) rfl (hI.ob (64 * (a0.toNatClampNeg + 1) + 14) (mP 14 a0.toNatClampNeg (by decide) lv8 (kl_le hC 5 (by decide))) (shC_p 14 a0.toNatClampNeg (by decide))), (HWL_wi hP hK (WL_D hD) hS hA hEV)⟩ rfl rfl hl.1 rfl (lv_room (Nat.le_of_ble_eq_true rfl)) dX12_decide_36 ⟨Nat.le_of_ble_eq_true rfl, Nat.le_of_ble_eq_true rfl⟩) hS hP (fun r18 H locs hw hP hS => ?_)
      rcases hw with hw | hw
      · -- pisDecidedX, case 0
        obtain ⟨rfl, f19⟩ := hw
        try rw [(show xi (E (64 * (a0.toNatClampNeg + 1) + 14)) 5 = y9 from vi_e fy9)] at f19
        try rw [(show xi (E (64 * (a0.toNatClampNeg + 1) + 14)) 7 = (xi (E (64 * (a0.toNatClampNeg + 1) + 14)) 7) from vi_e (th_v0L hKp hI0 (64 * (a0.toNatClampNeg + 1) + 14) (mP 14 a0.toNatClampNeg (by decide) lv8 (kl_le hC 5 (by decide))) (shC_p 14 a0.toNatClampNeg (by decide)) (Nat.le_of_ble_eq_true rfl) (spC_p 14 a0.toNatClampNeg (by decide) 7) (by simp [wl] <;> omega)))] at f19
        try rw [(show xi (E (64 * (a0.toNatClampNeg + 1) + 14)) 8 = y14 from vi_e fy14)] at f19
        refine lv_if_eq (tgt := 44) hx hb dX12_decide_39 (by decide) (fun c20 => ?_) (fun c20 => ?_)
        · --39 taken
          exact absurd c20 (by decide)
        · --39 not
          refine lv_iconst (v := -1) hx hb dX12_decide_42 (by decide) ?_
          rw [hQ]
          exact W.iret (v := (-1)) hx hb hr (fun t ht hW => ⟨⟨(-1), E, rfl, ⟨hI, hKp, Or.inr (⟨rfl, by (try rw [ey9]); (try rw [ey11]); (try rw [ey14]); (try rw [ey16]); all_goals omega, by omega⟩)⟩, by show va_P (dC, dI) vwCl (WL (LC cf) ad E) t.heap; rw [ht]; exact hP⟩, hS.F ht⟩) hS.2.2 dX12_decide_43
      · -- pisDecidedX, case 1
        obtain ⟨rfl, f21⟩ := hw
        try rw [(show xi (E (64 * (a0.toNatClampNeg + 1) + 14)) 5 = y9 from vi_e fy9)] at f21
        try rw [(show xi (E (64 * (a0.toNatClampNeg + 1) + 14)) 7 = (xi (E (64 * (a0.toNatClampNeg + 1) + 14)) 7) from vi_e (th_v0L hKp hI0 (64 * (a0.toNatClampNeg + 1) + 14) (mP 14 a0.toNatClampNeg (by decide) lv8 (kl_le hC 5 (by decide))) (shC_p 14 a0.toNatClampNeg (by decide)) (Nat.le_of_ble_eq_true rfl) (spC_p 14 a0.toNatClampNeg (by decide) 7) (by simp [wl] <;> omega)))] at f21
        try rw [(show xi (E (64 * (a0.toNatClampNeg + 1) + 14)) 8 = y14 from vi_e fy14)] at f21
        refine lv_if_eq (tgt := 44) hx hb dX12_decide_39 (by decide) (fun c22 => ?_) (fun c22 => ?_)
        · --39 taken
          refine lv_aload_n hx hb dX12_decide_44 rfl (lv_at hl 1 rfl) ?_
          refine th_getL (ci := 13) (C := RX12) (T := TX12) (N := 6) (v := .ref (ad 5)) hx hb hts hinX12 hown hK hP hI 0 (mF 0 rfl) rfl rfl 4 (Nat.le_of_ble_eq_true rfl) (hts _ (vA_in _ _ (in_14 _ (List.mem_of_getElem? (i := 20) rfl)))) (fun _ h9 => h9) (hI.fr 0 (mF 0 rfl) rfl (Nat.le_of_ble_eq_true rfl) 5 rfl) dX12_decide_45 ?_
          refine lv_aload_n hx hb dX12_decide_48 rfl (lv_at hl 0 rfl) ?_
          refine lv_iconst (v := 0) hx hb dX12_decide_49 (by decide) ?_
          refine lv_aload_n hx hb dX12_decide_50 rfl (lv_at hl 1 rfl) ?_
          refine th_getL (ci := 13) (C := RX12) (T := TX12) (N := 6) (v := .ref (ad 1)) hx hb hts hinX12 hown hK hP hI 0 (mF 0 rfl) rfl rfl 0 (Nat.le_of_ble_eq_true rfl) (hts _ (vA_in _ _ (in_10 _ (List.mem_of_getElem? (i := 17) rfl)))) (fun _ h9 => h9) (hI.fr 0 (mF 0 rfl) rfl (Nat.le_of_ble_eq_true rfl) 1 rfl) dX12_decide_51 ?_
          refine th_getL (ci := 1) (C := RX0) (T := TX0) (N := 11) (v := .int (xi (E 1) 0)) hx hb hts hinX0 hown hK hP hI 1 (mF 1 rfl) rfl rfl 0 (Nat.le_of_ble_eq_true rfl) (hts _ (vA_in _ _ (in_10 _ (List.mem_of_getElem? (i := 26) rfl)))) (fun _ h9 => h9) (th_v0L hKp hI0 1 (mF 1 rfl) rfl (Nat.le_of_ble_eq_true rfl) rfl rfl) dX12_decide_54 ?_
          have z0 := ln_0
          refine th_iL (va_runV (As := [.ref (ad (64 * (a0.toNatClampNeg + 1) + 14)), .int 0, .int (xi (E 1) 0)]) (rest := []) ⟨hx, hb, hml, hown, hts⟩ (q_find l dC dI cT cf hC ad E H.size (0 : Int32) (xi (E 1) 0) a0.toNatClampNeg hI (by omega) i1) (cwV 3 hts (gi_V (in_14 _ (List.mem_of_getElem? (i := 29) rfl)) (in_14 _ (List.mem_of_getElem? (i := 30) rfl)) (in_14 _ (List.mem_of_getElem? (i := 31) rfl)) (in_14 _ (List.mem_of_getElem? (i := 32) rfl)) (in_14 _ (List.mem_of_getElem? (i := 33) rfl))) rfl rfl rfl (by decide +kernel) ⟨Nat.le_of_ble_eq_true rfl, Nat.le_of_ble_eq_true rfl⟩) ⟨HWL_bl, va_recv hK hP (ci := 3) (q0 := posL 5 (LC cf)) rfl (hI.ob 5 (mF 5 rfl) rfl), (HWL_wi hP hK (WL_D hD) hS hA hEV)⟩ rfl rfl hl.1 rfl (lv_room (Nat.le_of_ble_eq_true rfl)) dX12_decide_57 ⟨Nat.le_of_ble_eq_true rfl, Nat.le_of_ble_eq_true rfl⟩) (WL_D hD) hS hA (fun r23 E24 H locs hw hP hS => ?_)
          obtain ⟨hI, kq25, hw⟩ := hw
          have hKb := hKp
          have hKp := hKp.tr kq25 (wl_sub rfl rfl)
          have f26 := hw
          refine lv_iconst (v := 1) hx hb dX12_decide_60 (by decide) ?_
          refine lv_icmp_ne (tgt := 68) hx hb dX12_decide_61 (by decide) (fun c27 => ?_) (fun c27 => ?_)
          · --61 taken
            have t28 : ¬ r23.toInt = 1 := ti_ne c27
            refine lv_iconst (v := 0) hx hb dX12_decide_68 (by decide) ?_
            refine lv_istore_n (lv' := [(3, .int 0), (2, .ref (ad (64 * (a0.toNatClampNeg + 1) + 14))), (0, .ref (ad 0)), (1, .int a0)]) hx hb dX12_decide_69 rfl hl (by decide) rfl (fun ls hl => ?_)
            refine lv_aload_n hx hb dX12_decide_70 rfl (lv_at hl 2 rfl) ?_
            refine th_getL (ci := 13) (C := RX12) (T := TX12) (N := 6) (v := .ref (ad 5)) hx hb hts hinX12 hown hK hP hI 0 (mF 0 rfl) rfl rfl 4 (Nat.le_of_ble_eq_true rfl) (hts _ (vA_in _ _ (in_14 _ (List.mem_of_getElem? (i := 20) rfl)))) (fun _ h9 => h9) (hI.fr 0 (mF 0 rfl) rfl (Nat.le_of_ble_eq_true rfl) 5 rfl) dX12_decide_71 ?_
            refine lv_aload_n hx hb dX12_decide_74 rfl (lv_at hl 1 rfl) ?_
            refine lv_iconst (v := 1) hx hb dX12_decide_75 (by decide) ?_
            refine lv_aload_n hx hb dX12_decide_76 rfl (lv_at hl 2 rfl) ?_
            refine th_getL (ci := 13) (C := RX12) (T := TX12) (N := 6) (v := .ref (ad 1)) hx hb hts hinX12 hown hK hP hI 0 (mF 0 rfl) rfl rfl 0 (Nat.le_of_ble_eq_true rfl) (hts _ (vA_in _ _ (in_10 _ (List.mem_of_getElem? (i := 17) rfl)))) (fun _ h9 => h9) (hI.fr 0 (mF 0 rfl) rfl (Nat.le_of_ble_eq_true rfl) 1 rfl) dX12_decide_77 ?_
            refine th_getL (ci := 1) (C := RX0) (T := TX0) (N := 11) (v := .int (xi (E 1) 0)) hx hb hts hinX0 hown hK hP hI 1 (mF 1 rfl) rfl rfl 0 (Nat.le_of_ble_eq_true rfl) (hts _ (vA_in _ _ (in_10 _ (List.mem_of_getElem? (i := 26) rfl)))) (fun _ h9 => h9) (th_v0L hKp hI0 1 (mF 1 rfl) rfl (Nat.le_of_ble_eq_true rfl) rfl rfl) dX12_decide_80 ?_
            have z1 := ln_1
            refine th_iL (va_runV (As := [.ref (ad (64 * (a0.toNatClampNeg + 1) + 14)), .int 1, .int (xi (E 1) 0)]) (rest := []) ⟨hx, hb, hml, hown, hts⟩ (q_find l dC dI cT cf hC ad E24 H.size (1 : Int32) (xi (E 1) 0) a0.toNatClampNeg hI (by omega) i1) (cwV 3 hts (gi_V (in_14 _ (List.mem_of_getElem? (i := 29) rfl)) (in_14 _ (List.mem_of_getElem? (i := 30) rfl)) (in_14 _ (List.mem_of_getElem? (i := 31) rfl)) (in_14 _ (List.mem_of_getElem? (i := 32) rfl)) (in_14 _ (List.mem_of_getElem? (i := 33) rfl))) rfl rfl rfl (by decide +kernel) ⟨Nat.le_of_ble_eq_true rfl, Nat.le_of_ble_eq_true rfl⟩) ⟨HWL_bl, va_recv hK hP (ci := 3) (q0 := posL 5 (LC cf)) rfl (hI.ob 5 (mF 5 rfl) rfl), (HWL_wi hP hK (WL_D hD) hS hA hEV)⟩ rfl rfl hl.1 rfl (lv_room (Nat.le_of_ble_eq_true rfl)) dX12_decide_83 ⟨Nat.le_of_ble_eq_true rfl, Nat.le_of_ble_eq_true rfl⟩) (WL_D hD) hS hA (fun r29 E30 H locs hw hP hS => ?_)
            obtain ⟨hI, kq31, hw⟩ := hw
            have hKb := hKp
            have hKp := hKp.tr kq31 (wl_sub rfl rfl)
            have f32 := hw
            refine lv_iconst (v := 1) hx hb dX12_decide_86 (by decide) ?_
            refine lv_icmp_ne (tgt := 94) hx hb dX12_decide_87 (by decide) (fun c33 => ?_) (fun c33 => ?_)
            · --87 taken
              have t34 : ¬ r29.toInt = 1 := ti_ne c33
              refine lv_aload_n hx hb dX12_decide_94 rfl (lv_at hl 1 rfl) ?_
              refine lv_iload_n hx hb dX12_decide_95 rfl (lv_at hl 0 rfl) ?_
              refine lv_aload_n hx hb dX12_decide_96 rfl (lv_at hl 2 rfl) ?_
              refine th_getL (ci := 13) (C := RX12) (T := TX12) (N := 6) (v := .ref (ad 1)) hx hb hts hinX12 hown hK hP hI 0 (mF 0 rfl) rfl rfl 0 (Nat.le_of_ble_eq_true rfl) (hts _ (vA_in _ _ (in_10 _ (List.mem_of_getElem? (i := 17) rfl)))) (fun _ h9 => h9) (hI.fr 0 (mF 0 rfl) rfl (Nat.le_of_ble_eq_true rfl) 1 rfl) dX12_decide_97 ?_
              refine th_getL (ci := 1) (C := RX0) (T := TX0) (N := 11) (v := .int (xi (E 1) 0)) hx hb hts hinX0 hown hK hP hI 1 (mF 1 rfl) rfl rfl 0 (Nat.le_of_ble_eq_true rfl) (hts _ (vA_in _ _ (in_10 _ (List.mem_of_getElem? (i := 26) rfl)))) (fun _ h9 => h9) (th_v0L hKp hI0 1 (mF 1 rfl) rfl (Nat.le_of_ble_eq_true rfl) rfl rfl) dX12_decide_100 ?_
              refine th_vL (va_runV (As := [.int 0, .int (xi (E 1) 0)]) (rest := []) ⟨hx, hb, hml, hown, hts⟩ (q_settleX l dC dI cT cf hC ad E30 H.size (0 : Int32) (xi (E 1) 0) a0.toNatClampNeg hI (by (try rw [hKp.ei (64 * (i + 1) + 14) 5 rfl]); (try rw [hKp.ei (64 * (i + 1) + 14) 6 rfl]); (try rw [hKp.ei (64 * (i + 1) + 14) 7 rfl]); (try rw [hKp.ei (64 * (i + 1) + 14) 8 rfl]); (try rw [hKp.ei (64 * (i + 1) + 14) 9 rfl]); omega) (iv_w ln_0 (by decide)) i1) (cwV 2 hts (gi_V (in_16 _ (List.mem_of_getElem? (i := 28) rfl)) (in_16 _ (List.mem_of_getElem? (i := 29) rfl)) (in_16 _ (List.mem_of_getElem? (i := 30) rfl)) (in_5 _ (List.mem_of_getElem? (i := 16) rfl)) (in_16 _ (List.mem_of_getElem? (i := 31) rfl))) rfl rfl rfl (by decide +kernel) ⟨Nat.le_of_ble_eq_true rfl, Nat.le_of_ble_eq_true rfl⟩) ⟨HWL_bl, va_recv hK hP (ci := 5) (q0 := posL (64 * (a0.toNatClampNeg + 1) + 14) (LC cf)) rfl (hI.ob (64 * (a0.toNatClampNeg + 1) + 14) (mP 14 a0.toNatClampNeg (by decide) lv8 (kl_le hC 5 (by decide))) (shC_p 14 a0.toNatClampNeg (by decide))), (HWL_wi hP hK (WL_D hD) hS hA hEV)⟩ rfl rfl hl.1 rfl (lv_room (Nat.le_of_ble_eq_true rfl)) dX12_decide_103 ⟨Nat.le_of_ble_eq_true rfl, Nat.le_of_ble_eq_true rfl⟩) (WL_D hD) hS hA (fun E36 H locs hw hP hS => ?_)
              obtain ⟨hI, kq37, hw⟩ := hw
              have hKb := hKp
              have hKp := hKp.tr kq37 (by intro o j h9; simp [wl] at h9 ⊢; omega)
              obtain ⟨y38, ey38⟩ : ∃ y, xi (E36 (64 * (a0.toNatClampNeg + 1) + 14)) 5 = y := ⟨_, rfl⟩
              have fy38 : xv (E36 (64 * (a0.toNatClampNeg + 1) + 14)) 5 = .int y38 := (hI.fi (64 * (a0.toNatClampNeg + 1) + 14) (mP 14 a0.toNatClampNeg (by decide) lv8 (kl_le hC 5 (by decide))) (shC_p 14 a0.toNatClampNeg (by decide)) (Nat.le_of_ble_eq_true rfl) (spC_p 14 a0.toNatClampNeg (by decide) 5)).trans (congrArg Value.int ey38)
              have i39 : -1 ≤ y38.toInt ∧ y38.toInt ≤ 400 := by rw [← ey38]; exact hI.iv (64 * (a0.toNatClampNeg + 1) + 14) (mP 14 a0.toNatClampNeg (by decide) lv8 (kl_le hC 5 (by decide))) (shC_p 14 a0.toNatClampNeg (by decide)) (Nat.le_of_ble_eq_true rfl) (spC_p 14 a0.toNatClampNeg (by decide) 5)
              obtain ⟨y40, ey40⟩ : ∃ y, xi (E36 (64 * (a0.toNatClampNeg + 1) + 14)) 6 = y := ⟨_, rfl⟩
              have fy40 : xv (E36 (64 * (a0.toNatClampNeg + 1) + 14)) 6 = .int y40 := (hI.fi (64 * (a0.toNatClampNeg + 1) + 14) (mP 14 a0.toNatClampNeg (by decide) lv8 (kl_le hC 5 (by decide))) (shC_p 14 a0.toNatClampNeg (by decide)) (Nat.le_of_ble_eq_true rfl) (spC_p 14 a0.toNatClampNeg (by decide) 6)).trans (congrArg Value.int ey40)
              have i41 : 0 ≤ y40.toInt ∧ y40.toInt ≤ 3 := by rw [← ey40]; exact hI.iv (64 * (a0.toNatClampNeg + 1) + 14) (mP 14 a0.toNatClampNeg (by decide) lv8 (kl_le hC 5 (by decide))) (shC_p 14 a0.toNatClampNeg (by decide)) (Nat.le_of_ble_eq_true rfl) (spC_p 14 a0.toNatClampNeg (by decide) 6)
              obtain ⟨y42, ey42⟩ : ∃ y, xi (E36 (64 * (a0.toNatClampNeg + 1) + 14)) 8 = y := ⟨_, rfl⟩
              have fy42 : xv (E36 (64 * (a0.toNatClampNeg + 1) + 14)) 8 = .int y42 := (hI.fi (64 * (a0.toNatClampNeg + 1) + 14) (mP 14 a0.toNatClampNeg (by decide) lv8 (kl_le hC 5 (by decide))) (shC_p 14 a0.toNatClampNeg (by decide)) (Nat.le_of_ble_eq_true rfl) (spC_p 14 a0.toNatClampNeg (by decide) 8)).trans (congrArg Value.int ey42)
              have i43 : -1 ≤ y42.toInt ∧ y42.toInt ≤ 400 := by rw [← ey42]; exact hI.iv (64 * (a0.toNatClampNeg + 1) + 14) (mP 14 a0.toNatClampNeg (by decide) lv8 (kl_le hC 5 (by decide))) (shC_p 14 a0.toNatClampNeg (by decide)) (Nat.le_of_ble_eq_true rfl) (spC_p 14 a0.toNatClampNeg (by decide) 8)
              obtain ⟨y44, ey44⟩ : ∃ y, xi (E36 (64 * (a0.toNatClampNeg + 1) + 14)) 9 = y := ⟨_, rfl⟩
              have fy44 : xv (E36 (64 * (a0.toNatClampNeg + 1) + 14)) 9 = .int y44 := (hI.fi (64 * (a0.toNatClampNeg + 1) + 14) (mP 14 a0.toNatClampNeg (by decide) lv8 (kl_le hC 5 (by decide))) (shC_p 14 a0.toNatClampNeg (by decide)) (Nat.le_of_ble_eq_true rfl) (spC_p 14 a0.toNatClampNeg (by decide) 9)).trans (congrArg Value.int ey44)
              have i45 : 0 ≤ y44.toInt ∧ y44.toInt ≤ 3 := by rw [← ey44]; exact hI.iv (64 * (a0.toNatClampNeg + 1) + 14) (mP 14 a0.toNatClampNeg (by decide) lv8 (kl_le hC 5 (by decide))) (shC_p 14 a0.toNatClampNeg (by decide)) (Nat.le_of_ble_eq_true rfl) (spC_p 14 a0.toNatClampNeg (by decide) 9)
              have f46 := hw
              try rw [(show xi (E30 (64 * (a0.toNatClampNeg + 1) + 14)) 5 = y9 from vi_e ((kq31 (64 * (a0.toNatClampNeg + 1) + 14) 5 (wl_p rfl rfl (by omega))).trans ((kq25 (64 * (a0.toNatClampNeg + 1) + 14) 5 (wl_p rfl rfl (by omega))).trans fy9)))] at f46
              try rw [(show xi (E30 (64 * (a0.toNatClampNeg + 1) + 14)) 6 = y11 from vi_e ((kq31 (64 * (a0.toNatClampNeg + 1) + 14) 6 (wl_p rfl rfl (by omega))).trans ((kq25 (64 * (a0.toNatClampNeg + 1) + 14) 6 (wl_p rfl rfl (by omega))).trans fy11)))] at f46
              try rw [(show xi (E30 (64 * (a0.toNatClampNeg + 1) + 14)) 7 = (xi (E (64 * (a0.toNatClampNeg + 1) + 14)) 7) from vi_e (th_v0L hKb hI0 (64 * (a0.toNatClampNeg + 1) + 14) (mP 14 a0.toNatClampNeg (by decide) lv8 (kl_le hC 5 (by decide))) (shC_p 14 a0.toNatClampNeg (by decide)) (Nat.le_of_ble_eq_true rfl) (spC_p 14 a0.toNatClampNeg (by decide) 7) (by simp [wl] <;> omega)))] at f46
              try rw [(show xi (E30 (64 * (a0.toNatClampNeg + 1) + 14)) 8 = y14 from vi_e ((kq31 (64 * (a0.toNatClampNeg + 1) + 14) 8 (wl_p rfl rfl (by omega))).trans ((kq25 (64 * (a0.toNatClampNeg + 1) + 14) 8 (wl_p rfl rfl (by omega))).trans fy14)))] at f46
              try rw [(show xi (E30 (64 * (a0.toNatClampNeg + 1) + 14)) 9 = y16 from vi_e ((kq31 (64 * (a0.toNatClampNeg + 1) + 14) 9 (wl_p rfl rfl (by omega))).trans ((kq25 (64 * (a0.toNatClampNeg + 1) + 14) 9 (wl_p rfl rfl (by omega))).trans fy16)))] at f46
              try rw [(show xi (E36 (64 * (a0.toNatClampNeg + 1) + 14)) 5 = y38 from vi_e fy38)] at f46
              try rw [(show xi (E36 (64 * (a0.toNatClampNeg + 1) + 14)) 6 = y40 from vi_e fy40)] at f46
              try rw [(show xi (E36 (64 * (a0.toNatClampNeg + 1) + 14)) 8 = y42 from vi_e fy42)] at f46
              try rw [(show xi (E36 (64 * (a0.toNatClampNeg + 1) + 14)) 9 = y44 from vi_e fy44)] at f46
              refine lv_iload_n hx hb dX12_decide_106 rfl (lv_at hl 0 rfl) ?_
              rw [hQ]
              exact W.iret (v := 0) hx hb hr (fun t ht hW => ⟨⟨0, E36, rfl, ⟨hI, hKp, Or.inl ⟨(iv_w ln_0 (by decide)), by (try rw [ey9]); (try rw [ey11]); (try rw [ey14]); (try rw [ey16]); all_goals omega, by (try rw [(show xi (E36 (64 * (a0.toNatClampNeg + 1) + 14)) 5 = y38 from vi_e fy38)]); (try rw [(show xi (E36 (64 * (a0.toNatClampNeg + 1) + 14)) 6 = y40 from vi_e fy40)]); (try rw [(show xi (E36 (64 * (a0.toNatClampNeg + 1) + 14)) 7 = (xi (E (64 * (a0.toNatClampNeg + 1) + 14)) 7) from vi_e (th_v0L hKp hI0 (64 * (a0.toNatClampNeg + 1) + 14) (mP 14 a0.toNatClampNeg (by decide) lv8 (kl_le hC 5 (by decide))) (shC_p 14 a0.toNatClampNeg (by decide)) (Nat.le_of_ble_eq_true rfl) (spC_p 14 a0.toNatClampNeg (by decide) 7) (by simp [wl] <;> omega)))]); (try rw [(show xi (E36 (64 * (a0.toNatClampNeg + 1) + 14)) 8 = y42 from vi_e fy42)]); (try rw [(show xi (E36 (64 * (a0.toNatClampNeg + 1) + 14)) 9 = y44 from vi_e fy44)]); (try rw [ey9]); (try rw [ey11]); (try rw [ey14]); (try rw [ey16]); all_goals omega⟩⟩, by show va_P (dC, dI) vwCl (WL (LC cf) ad E36) t.heap; rw [ht]; exact hP⟩, hS.F ht⟩) hS.2.2 dX12_decide_107
            · --87 not
              have t47 : r29.toInt = 1 := ti_eq c33
              have i48 : 1 ≤ r29.toInt ∧ r29.toInt ≤ 1 := iv_eqi t47 f32 (il_ 1) (by decide)
              refine lv_iload_n hx hb dX12_decide_90 rfl (lv_at hl 0 rfl) ?_
              refine lv_iconst (v := 2) hx hb dX12_decide_91 (by decide) ?_
              have z2 := ln_2
              refine lv_ior hx hb dX12_decide_92 ?_
              refine lv_topi (fun y49 ey49 => ?_)
              have iy49 : 0 ≤ y49.toInt ∧ y49.toInt ≤ 3 := ti_or3 ey49 (by omega) (by omega)
              refine lv_istore_n (lv' := [(3, .int y49), (2, .ref (ad (64 * (a0.toNatClampNeg + 1) + 14))), (0, .ref (ad 0)), (1, .int a0)]) hx hb dX12_decide_93 rfl hl (by decide) rfl (fun ls hl => ?_)
              refine lv_aload_n hx hb dX12_decide_94 rfl (lv_at hl 1 rfl) ?_
              refine lv_iload_n hx hb dX12_decide_95 rfl (lv_at hl 0 rfl) ?_
              refine lv_aload_n hx hb dX12_decide_96 rfl (lv_at hl 2 rfl) ?_
              refine th_getL (ci := 13) (C := RX12) (T := TX12) (N := 6) (v := .ref (ad 1)) hx hb hts hinX12 hown hK hP hI 0 (mF 0 rfl) rfl rfl 0 (Nat.le_of_ble_eq_true rfl) (hts _ (vA_in _ _ (in_10 _ (List.mem_of_getElem? (i := 17) rfl)))) (fun _ h9 => h9) (hI.fr 0 (mF 0 rfl) rfl (Nat.le_of_ble_eq_true rfl) 1 rfl) dX12_decide_97 ?_
              refine th_getL (ci := 1) (C := RX0) (T := TX0) (N := 11) (v := .int (xi (E 1) 0)) hx hb hts hinX0 hown hK hP hI 1 (mF 1 rfl) rfl rfl 0 (Nat.le_of_ble_eq_true rfl) (hts _ (vA_in _ _ (in_10 _ (List.mem_of_getElem? (i := 26) rfl)))) (fun _ h9 => h9) (th_v0L hKp hI0 1 (mF 1 rfl) rfl (Nat.le_of_ble_eq_true rfl) rfl rfl) dX12_decide_100 ?_
              refine th_vL (va_runV (As := [.int y49, .int (xi (E 1) 0)]) (rest := []) ⟨hx, hb, hml, hown, hts⟩ (q_settleX l dC dI cT cf hC ad E30 H.size y49 (xi (E 1) 0) a0.toNatClampNeg hI (by (try rw [hKp.ei (64 * (i + 1) + 14) 5 rfl]); (try rw [hKp.ei (64 * (i + 1) + 14) 6 rfl]); (try rw [hKp.ei (64 * (i + 1) + 14) 7 rfl]); (try rw [hKp.ei (64 * (i + 1) + 14) 8 rfl]); (try rw [hKp.ei (64 * (i + 1) + 14) 9 rfl]); omega) iy49 i1) (cwV 2 hts (gi_V (in_16 _ (List.mem_of_getElem? (i := 28) rfl)) (in_16 _ (List.mem_of_getElem? (i := 29) rfl)) (in_16 _ (List.mem_of_getElem? (i := 30) rfl)) (in_5 _ (List.mem_of_getElem? (i := 16) rfl)) (in_16 _ (List.mem_of_getElem? (i := 31) rfl))) rfl rfl rfl (by decide +kernel) ⟨Nat.le_of_ble_eq_true rfl, Nat.le_of_ble_eq_true rfl⟩) ⟨HWL_bl, va_recv hK hP (ci := 5) (q0 := posL (64 * (a0.toNatClampNeg + 1) + 14) (LC cf)) rfl (hI.ob (64 * (a0.toNatClampNeg + 1) + 14) (mP 14 a0.toNatClampNeg (by decide) lv8 (kl_le hC 5 (by decide))) (shC_p 14 a0.toNatClampNeg (by decide))), (HWL_wi hP hK (WL_D hD) hS hA hEV)⟩ rfl rfl hl.1 rfl (lv_room (Nat.le_of_ble_eq_true rfl)) dX12_decide_103 ⟨Nat.le_of_ble_eq_true rfl, Nat.le_of_ble_eq_true rfl⟩) (WL_D hD) hS hA (fun E51 H locs hw hP hS => ?_)
              obtain ⟨hI, kq52, hw⟩ := hw
              have hKb := hKp
              have hKp := hKp.tr kq52 (by intro o j h9; simp [wl] at h9 ⊢; omega)
              obtain ⟨y53, ey53⟩ : ∃ y, xi (E51 (64 * (a0.toNatClampNeg + 1) + 14)) 5 = y := ⟨_, rfl⟩
              have fy53 : xv (E51 (64 * (a0.toNatClampNeg + 1) + 14)) 5 = .int y53 := (hI.fi (64 * (a0.toNatClampNeg + 1) + 14) (mP 14 a0.toNatClampNeg (by decide) lv8 (kl_le hC 5 (by decide))) (shC_p 14 a0.toNatClampNeg (by decide)) (Nat.le_of_ble_eq_true rfl) (spC_p 14 a0.toNatClampNeg (by decide) 5)).trans (congrArg Value.int ey53)
              have i54 : -1 ≤ y53.toInt ∧ y53.toInt ≤ 400 := by rw [← ey53]; exact hI.iv (64 * (a0.toNatClampNeg + 1) + 14) (mP 14 a0.toNatClampNeg (by decide) lv8 (kl_le hC 5 (by decide))) (shC_p 14 a0.toNatClampNeg (by decide)) (Nat.le_of_ble_eq_true rfl) (spC_p 14 a0.toNatClampNeg (by decide) 5)
              obtain ⟨y55, ey55⟩ : ∃ y, xi (E51 (64 * (a0.toNatClampNeg + 1) + 14)) 6 = y := ⟨_, rfl⟩
              have fy55 : xv (E51 (64 * (a0.toNatClampNeg + 1) + 14)) 6 = .int y55 := (hI.fi (64 * (a0.toNatClampNeg + 1) + 14) (mP 14 a0.toNatClampNeg (by decide) lv8 (kl_le hC 5 (by decide))) (shC_p 14 a0.toNatClampNeg (by decide)) (Nat.le_of_ble_eq_true rfl) (spC_p 14 a0.toNatClampNeg (by decide) 6)).trans (congrArg Value.int ey55)
              have i56 : 0 ≤ y55.toInt ∧ y55.toInt ≤ 3 := by rw [← ey55]; exact hI.iv (64 * (a0.toNatClampNeg + 1) + 14) (mP 14 a0.toNatClampNeg (by decide) lv8 (kl_le hC 5 (by decide))) (shC_p 14 a0.toNatClampNeg (by decide)) (Nat.le_of_ble_eq_true rfl) (spC_p 14 a0.toNatClampNeg (by decide) 6)
              obtain ⟨y57, ey57⟩ : ∃ y, xi (E51 (64 * (a0.toNatClampNeg + 1) + 14)) 8 = y := ⟨_, rfl⟩
              have fy57 : xv (E51 (64 * (a0.toNatClampNeg + 1) + 14)) 8 = .int y57 := (hI.fi (64 * (a0.toNatClampNeg + 1) + 14) (mP 14 a0.toNatClampNeg (by decide) lv8 (kl_le hC 5 (by decide))) (shC_p 14 a0.toNatClampNeg (by decide)) (Nat.le_of_ble_eq_true rfl) (spC_p 14 a0.toNatClampNeg (by decide) 8)).trans (congrArg Value.int ey57)
              have i58 : -1 ≤ y57.toInt ∧ y57.toInt ≤ 400 := by rw [← ey57]; exact hI.iv (64 * (a0.toNatClampNeg + 1) + 14) (mP 14 a0.toNatClampNeg (by decide) lv8 (kl_le hC 5 (by decide))) (shC_p 14 a0.toNatClampNeg (by decide)) (Nat.le_of_ble_eq_true rfl) (spC_p 14 a0.toNatClampNeg (by decide) 8)
              obtain ⟨y59, ey59⟩ : ∃ y, xi (E51 (64 * (a0.toNatClampNeg + 1) + 14)) 9 = y := ⟨_, rfl⟩
              have fy59 : xv (E51 (64 * (a0.toNatClampNeg + 1) + 14)) 9 = .int y59 := (hI.fi (64 * (a0.toNatClampNeg + 1) + 14) (mP 14 a0.toNatClampNeg (by decide) lv8 (kl_le hC 5 (by decide))) (shC_p 14 a0.toNatClampNeg (by decide)) (Nat.le_of_ble_eq_true rfl) (spC_p 14 a0.toNatClampNeg (by decide) 9)).trans (congrArg Value.int ey59)
              have i60 : 0 ≤ y59.toInt ∧ y59.toInt ≤ 3 := by rw [← ey59]; exact hI.iv (64 * (a0.toNatClampNeg + 1) + 14) (mP 14 a0.toNatClampNeg (by decide) lv8 (kl_le hC 5 (by decide))) (shC_p 14 a0.toNatClampNeg (by decide)) (Nat.le_of_ble_eq_true rfl) (spC_p 14 a0.toNatClampNeg (by decide) 9)
              have f61 := hw
              try rw [(show xi (E30 (64 * (a0.toNatClampNeg + 1) + 14)) 5 = y9 from vi_e ((kq31 (64 * (a0.toNatClampNeg + 1) + 14) 5 (wl_p rfl rfl (by omega))).trans ((kq25 (64 * (a0.toNatClampNeg + 1) + 14) 5 (wl_p rfl rfl (by omega))).trans fy9)))] at f61
              try rw [(show xi (E30 (64 * (a0.toNatClampNeg + 1) + 14)) 6 = y11 from vi_e ((kq31 (64 * (a0.toNatClampNeg + 1) + 14) 6 (wl_p rfl rfl (by omega))).trans ((kq25 (64 * (a0.toNatClampNeg + 1) + 14) 6 (wl_p rfl rfl (by omega))).trans fy11)))] at f61
              try rw [(show xi (E30 (64 * (a0.toNatClampNeg + 1) + 14)) 7 = (xi (E (64 * (a0.toNatClampNeg + 1) + 14)) 7) from vi_e (th_v0L hKb hI0 (64 * (a0.toNatClampNeg + 1) + 14) (mP 14 a0.toNatClampNeg (by decide) lv8 (kl_le hC 5 (by decide))) (shC_p 14 a0.toNatClampNeg (by decide)) (Nat.le_of_ble_eq_true rfl) (spC_p 14 a0.toNatClampNeg (by decide) 7) (by simp [wl] <;> omega)))] at f61
              try rw [(show xi (E30 (64 * (a0.toNatClampNeg + 1) + 14)) 8 = y14 from vi_e ((kq31 (64 * (a0.toNatClampNeg + 1) + 14) 8 (wl_p rfl rfl (by omega))).trans ((kq25 (64 * (a0.toNatClampNeg + 1) + 14) 8 (wl_p rfl rfl (by omega))).trans fy14)))] at f61
              try rw [(show xi (E30 (64 * (a0.toNatClampNeg + 1) + 14)) 9 = y16 from vi_e ((kq31 (64 * (a0.toNatClampNeg + 1) + 14) 9 (wl_p rfl rfl (by omega))).trans ((kq25 (64 * (a0.toNatClampNeg + 1) + 14) 9 (wl_p rfl rfl (by omega))).trans fy16)))] at f61
              try rw [(show xi (E51 (64 * (a0.toNatClampNeg + 1) + 14)) 5 = y53 from vi_e fy53)] at f61
              try rw [(show xi (E51 (64 * (a0.toNatClampNeg + 1) + 14)) 6 = y55 from vi_e fy55)] at f61
              try rw [(show xi (E51 (64 * (a0.toNatClampNeg + 1) + 14)) 8 = y57 from vi_e fy57)] at f61
              try rw [(show xi (E51 (64 * (a0.toNatClampNeg + 1) + 14)) 9 = y59 from vi_e fy59)] at f61
              refine lv_iload_n hx hb dX12_decide_106 rfl (lv_at hl 0 rfl) ?_
              rw [hQ]
              exact W.iret (v := y49) hx hb hr (fun t ht hW => ⟨⟨y49, E51, rfl, ⟨hI, hKp, Or.inl ⟨iy49, by (try rw [ey9]); (try rw [ey11]); (try rw [ey14]); (try rw [ey16]); all_goals omega, by (try rw [(show xi (E51 (64 * (a0.toNatClampNeg + 1) + 14)) 5 = y53 from vi_e fy53)]); (try rw [(show xi (E51 (64 * (a0.toNatClampNeg + 1) + 14)) 6 = y55 from vi_e fy55)]); (try rw [(show xi (E51 (64 * (a0.toNatClampNeg + 1) + 14)) 7 = (xi (E (64 * (a0.toNatClampNeg + 1) + 14)) 7) from vi_e (th_v0L hKp hI0 (64 * (a0.toNatClampNeg + 1) + 14) (mP 14 a0.toNatClampNeg (by decide) lv8 (kl_le hC 5 (by decide))) (shC_p 14 a0.toNatClampNeg (by decide)) (Nat.le_of_ble_eq_true rfl) (spC_p 14 a0.toNatClampNeg (by decide) 7) (by simp [wl] <;> omega)))]); (try rw [(show xi (E51 (64 * (a0.toNatClampNeg + 1) + 14)) 8 = y57 from vi_e fy57)]); (try rw [(show xi (E51 (64 * (a0.toNatClampNeg + 1) + 14)) 9 = y59 from vi_e fy59)]); (try rw [ey9]); (try rw [ey11]); (try rw [ey14]); (try rw [ey16]); all_goals omega⟩⟩, by show va_P (dC, dI) vwCl (WL (LC cf) ad E51) t.heap; rw [ht]; exact hP⟩, hS.F ht⟩) hS.2.2 dX12_decide_107
          · --61 not
            have t62 : r23.toInt = 1 := ti_eq c27
            have i63 : 1 ≤ r23.toInt ∧ r23.toInt ≤ 1 := iv_eqi t62 f26 (il_ 1) (by decide)
            refine lv_iconst (v := 1) hx hb dX12_decide_64 (by decide) ?_
            refine lv_goto (tgt := 69) hx hb dX12_decide_65 (by decide) ?_
            refine lv_istore_n (lv' := [(3, .int 1), (2, .ref (ad (64 * (a0.toNatClampNeg + 1) + 14))), (0, .ref (ad 0)), (1, .int a0)]) hx hb dX12_decide_69 rfl hl (by decide) rfl (fun ls hl => ?_)
            refine lv_aload_n hx hb dX12_decide_70 rfl (lv_at hl 2 rfl) ?_
            refine th_getL (ci := 13) (C := RX12) (T := TX12) (N := 6) (v := .ref (ad 5)) hx hb hts hinX12 hown hK hP hI 0 (mF 0 rfl) rfl rfl 4 (Nat.le_of_ble_eq_true rfl) (hts _ (vA_in _ _ (in_14 _ (List.mem_of_getElem? (i := 20) rfl)))) (fun _ h9 => h9) (hI.fr 0 (mF 0 rfl) rfl (Nat.le_of_ble_eq_true rfl) 5 rfl) dX12_decide_71 ?_
            refine lv_aload_n hx hb dX12_decide_74 rfl (lv_at hl 1 rfl) ?_
            refine lv_iconst (v := 1) hx hb dX12_decide_75 (by decide) ?_
            refine lv_aload_n hx hb dX12_decide_76 rfl (lv_at hl 2 rfl) ?_
            refine th_getL (ci := 13) (C := RX12) (T := TX12) (N := 6) (v := .ref (ad 1)) hx hb hts hinX12 hown hK hP hI 0 (mF 0 rfl) rfl rfl 0 (Nat.le_of_ble_eq_true rfl) (hts _ (vA_in _ _ (in_10 _ (List.mem_of_getElem? (i := 17) rfl)))) (fun _ h9 => h9) (hI.fr 0 (mF 0 rfl) rfl (Nat.le_of_ble_eq_true rfl) 1 rfl) dX12_decide_77 ?_
            refine th_getL (ci := 1) (C := RX0) (T := TX0) (N := 11) (v := .int (xi (E 1) 0)) hx hb hts hinX0 hown hK hP hI 1 (mF 1 rfl) rfl rfl 0 (Nat.le_of_ble_eq_true rfl) (hts _ (vA_in _ _ (in_10 _ (List.mem_of_getElem? (i := 26) rfl)))) (fun _ h9 => h9) (th_v0L hKp hI0 1 (mF 1 rfl) rfl (Nat.le_of_ble_eq_true rfl) rfl rfl) dX12_decide_80 ?_
            have z1 := ln_1
            refine th_iL (va_runV (As := [.ref (ad (64 * (a0.toNatClampNeg + 1) + 14)), .int 1, .int (xi (E 1) 0)]) (rest := []) ⟨hx, hb, hml, hown, hts⟩ (q_find l dC dI cT cf hC ad E24 H.size (1 : Int32) (xi (E 1) 0) a0.toNatClampNeg hI (by omega) i1) (cwV 3 hts (gi_V (in_14 _ (List.mem_of_getElem? (i := 29) rfl)) (in_14 _ (List.mem_of_getElem? (i := 30) rfl)) (in_14 _ (List.mem_of_getElem? (i := 31) rfl)) (in_14 _ (List.mem_of_getElem? (i := 32) rfl)) (in_14 _ (List.mem_of_getElem? (i := 33) rfl))) rfl rfl rfl (by decide +kernel) ⟨Nat.le_of_ble_eq_true rfl, Nat.le_of_ble_eq_true rfl⟩) ⟨HWL_bl, va_recv hK hP (ci := 3) (q0 := posL 5 (LC cf)) rfl (hI.ob 5 (mF 5 rfl) rfl), (HWL_wi hP hK (WL_D hD) hS hA hEV)⟩ rfl rfl hl.1 rfl (lv_room (Nat.le_of_ble_eq_true rfl)) dX12_decide_83 ⟨Nat.le_of_ble_eq_true rfl, Nat.le_of_ble_eq_true rfl⟩) (WL_D hD) hS hA (fun r64 E65 H locs hw hP hS => ?_)
            obtain ⟨hI, kq66, hw⟩ := hw
            have hKb := hKp
            have hKp := hKp.tr kq66 (wl_sub rfl rfl)
            have f67 := hw
            refine lv_iconst (v := 1) hx hb dX12_decide_86 (by decide) ?_
            refine lv_icmp_ne (tgt := 94) hx hb dX12_decide_87 (by decide) (fun c68 => ?_) (fun c68 => ?_)
            · --87 taken
              have t69 : ¬ r64.toInt = 1 := ti_ne c68
              refine lv_aload_n hx hb dX12_decide_94 rfl (lv_at hl 1 rfl) ?_
              refine lv_iload_n hx hb dX12_decide_95 rfl (lv_at hl 0 rfl) ?_
              refine lv_aload_n hx hb dX12_decide_96 rfl (lv_at hl 2 rfl) ?_
              refine th_getL (ci := 13) (C := RX12) (T := TX12) (N := 6) (v := .ref (ad 1)) hx hb hts hinX12 hown hK hP hI 0 (mF 0 rfl) rfl rfl 0 (Nat.le_of_ble_eq_true rfl) (hts _ (vA_in _ _ (in_10 _ (List.mem_of_getElem? (i := 17) rfl)))) (fun _ h9 => h9) (hI.fr 0 (mF 0 rfl) rfl (Nat.le_of_ble_eq_true rfl) 1 rfl) dX12_decide_97 ?_
              refine th_getL (ci := 1) (C := RX0) (T := TX0) (N := 11) (v := .int (xi (E 1) 0)) hx hb hts hinX0 hown hK hP hI 1 (mF 1 rfl) rfl rfl 0 (Nat.le_of_ble_eq_true rfl) (hts _ (vA_in _ _ (in_10 _ (List.mem_of_getElem? (i := 26) rfl)))) (fun _ h9 => h9) (th_v0L hKp hI0 1 (mF 1 rfl) rfl (Nat.le_of_ble_eq_true rfl) rfl rfl) dX12_decide_100 ?_
              refine th_vL (va_runV (As := [.int 1, .int (xi (E 1) 0)]) (rest := []) ⟨hx, hb, hml, hown, hts⟩ (q_settleX l dC dI cT cf hC ad E65 H.size (1 : Int32) (xi (E 1) 0) a0.toNatClampNeg hI (by (try rw [hKp.ei (64 * (i + 1) + 14) 5 rfl]); (try rw [hKp.ei (64 * (i + 1) + 14) 6 rfl]); (try rw [hKp.ei (64 * (i + 1) + 14) 7 rfl]); (try rw [hKp.ei (64 * (i + 1) + 14) 8 rfl]); (try rw [hKp.ei (64 * (i + 1) + 14) 9 rfl]); omega) (iv_w ln_1 (by decide)) i1) (cwV 2 hts (gi_V (in_16 _ (List.mem_of_getElem? (i := 28) rfl)) (in_16 _ (List.mem_of_getElem? (i := 29) rfl)) (in_16 _ (List.mem_of_getElem? (i := 30) rfl)) (in_5 _ (List.mem_of_getElem? (i := 16) rfl)) (in_16 _ (List.mem_of_getElem? (i := 31) rfl))) rfl rfl rfl (by decide +kernel) ⟨Nat.le_of_ble_eq_true rfl, Nat.le_of_ble_eq_true rfl⟩) ⟨HWL_bl, va_recv hK hP (ci := 5) (q0 := posL (64 * (a0.toNatClampNeg + 1) + 14) (LC cf)) rfl (hI.ob (64 * (a0.toNatClampNeg + 1) + 14) (mP 14 a0.toNatClampNeg (by decide) lv8 (kl_le hC 5 (by decide))) (shC_p 14 a0.toNatClampNeg (by decide))), (HWL_wi hP hK (WL_D hD) hS hA hEV)⟩ rfl rfl hl.1 rfl (lv_room (Nat.le_of_ble_eq_true rfl)) dX12_decide_103 ⟨Nat.le_of_ble_eq_true rfl, Nat.le_of_ble_eq_true rfl⟩) (WL_D hD) hS hA (fun E71 H locs hw hP hS => ?_)
              obtain ⟨hI, kq72, hw⟩ := hw
              have hKb := hKp
              have hKp := hKp.tr kq72 (by intro o j h9; simp [wl] at h9 ⊢; omega)
              obtain ⟨y73, ey73⟩ : ∃ y, xi (E71 (64 * (a0.toNatClampNeg + 1) + 14)) 5 = y := ⟨_, rfl⟩
              have fy73 : xv (E71 (64 * (a0.toNatClampNeg + 1) + 14)) 5 = .int y73 := (hI.fi (64 * (a0.toNatClampNeg + 1) + 14) (mP 14 a0.toNatClampNeg (by decide) lv8 (kl_le hC 5 (by decide))) (shC_p 14 a0.toNatClampNeg (by decide)) (Nat.le_of_ble_eq_true rfl) (spC_p 14 a0.toNatClampNeg (by decide) 5)).trans (congrArg Value.int ey73)
              have i74 : -1 ≤ y73.toInt ∧ y73.toInt ≤ 400 := by rw [← ey73]; exact hI.iv (64 * (a0.toNatClampNeg + 1) + 14) (mP 14 a0.toNatClampNeg (by decide) lv8 (kl_le hC 5 (by decide))) (shC_p 14 a0.toNatClampNeg (by decide)) (Nat.le_of_ble_eq_true rfl) (spC_p 14 a0.toNatClampNeg (by decide) 5)
              obtain ⟨y75, ey75⟩ : ∃ y, xi (E71 (64 * (a0.toNatClampNeg + 1) + 14)) 6 = y := ⟨_, rfl⟩
              have fy75 : xv (E71 (64 * (a0.toNatClampNeg + 1) + 14)) 6 = .int y75 := (hI.fi (64 * (a0.toNatClampNeg + 1) + 14) (mP 14 a0.toNatClampNeg (by decide) lv8 (kl_le hC 5 (by decide))) (shC_p 14 a0.toNatClampNeg (by decide)) (Nat.le_of_ble_eq_true rfl) (spC_p 14 a0.toNatClampNeg (by decide) 6)).trans (congrArg Value.int ey75)
              have i76 : 0 ≤ y75.toInt ∧ y75.toInt ≤ 3 := by rw [← ey75]; exact hI.iv (64 * (a0.toNatClampNeg + 1) + 14) (mP 14 a0.toNatClampNeg (by decide) lv8 (kl_le hC 5 (by decide))) (shC_p 14 a0.toNatClampNeg (by decide)) (Nat.le_of_ble_eq_true rfl) (spC_p 14 a0.toNatClampNeg (by decide) 6)
              obtain ⟨y77, ey77⟩ : ∃ y, xi (E71 (64 * (a0.toNatClampNeg + 1) + 14)) 8 = y := ⟨_, rfl⟩
              have fy77 : xv (E71 (64 * (a0.toNatClampNeg + 1) + 14)) 8 = .int y77 := (hI.fi (64 * (a0.toNatClampNeg + 1) + 14) (mP 14 a0.toNatClampNeg (by decide) lv8 (kl_le hC 5 (by decide))) (shC_p 14 a0.toNatClampNeg (by decide)) (Nat.le_of_ble_eq_true rfl) (spC_p 14 a0.toNatClampNeg (by decide) 8)).trans (congrArg Value.int ey77)
              have i78 : -1 ≤ y77.toInt ∧ y77.toInt ≤ 400 := by rw [← ey77]; exact hI.iv (64 * (a0.toNatClampNeg + 1) + 14) (mP 14 a0.toNatClampNeg (by decide) lv8 (kl_le hC 5 (by decide))) (shC_p 14 a0.toNatClampNeg (by decide)) (Nat.le_of_ble_eq_true rfl) (spC_p 14 a0.toNatClampNeg (by decide) 8)
              obtain ⟨y79, ey79⟩ : ∃ y, xi (E71 (64 * (a0.toNatClampNeg + 1) + 14)) 9 = y := ⟨_, rfl⟩
              have fy79 : xv (E71 (64 * (a0.toNatClampNeg + 1) + 14)) 9 = .int y79 := (hI.fi (64 * (a0.toNatClampNeg + 1) + 14) (mP 14 a0.toNatClampNeg (by decide) lv8 (kl_le hC 5 (by decide))) (shC_p 14 a0.toNatClampNeg (by decide)) (Nat.le_of_ble_eq_true rfl) (spC_p 14 a0.toNatClampNeg (by decide) 9)).trans (congrArg Value.int ey79)
              have i80 : 0 ≤ y79.toInt ∧ y79.toInt ≤ 3 := by rw [← ey79]; exact hI.iv (64 * (a0.toNatClampNeg + 1) + 14) (mP 14 a0.toNatClampNeg (by decide) lv8 (kl_le hC 5 (by decide))) (shC_p 14 a0.toNatClampNeg (by decide)) (Nat.le_of_ble_eq_true rfl) (spC_p 14 a0.toNatClampNeg (by decide) 9)
              have f81 := hw
              try rw [(show xi (E65 (64 * (a0.toNatClampNeg + 1) + 14)) 5 = y9 from vi_e ((kq66 (64 * (a0.toNatClampNeg + 1) + 14) 5 (wl_p rfl rfl (by omega))).trans ((kq25 (64 * (a0.toNatClampNeg + 1) + 14) 5 (wl_p rfl rfl (by omega))).trans fy9)))] at f81
              try rw [(show xi (E65 (64 * (a0.toNatClampNeg + 1) + 14)) 6 = y11 from vi_e ((kq66 (64 * (a0.toNatClampNeg + 1) + 14) 6 (wl_p rfl rfl (by omega))).trans ((kq25 (64 * (a0.toNatClampNeg + 1) + 14) 6 (wl_p rfl rfl (by omega))).trans fy11)))] at f81
              try rw [(show xi (E65 (64 * (a0.toNatClampNeg + 1) + 14)) 7 = (xi (E (64 * (a0.toNatClampNeg + 1) + 14)) 7) from vi_e (th_v0L hKb hI0 (64 * (a0.toNatClampNeg + 1) + 14) (mP 14 a0.toNatClampNeg (by decide) lv8 (kl_le hC 5 (by decide))) (shC_p 14 a0.toNatClampNeg (by decide)) (Nat.le_of_ble_eq_true rfl) (spC_p 14 a0.toNatClampNeg (by decide) 7) (by simp [wl] <;> omega)))] at f81
              try rw [(show xi (E65 (64 * (a0.toNatClampNeg + 1) + 14)) 8 = y14 from vi_e ((kq66 (64 * (a0.toNatClampNeg + 1) + 14) 8 (wl_p rfl rfl (by omega))).trans ((kq25 (64 * (a0.toNatClampNeg + 1) + 14) 8 (wl_p rfl rfl (by omega))).trans fy14)))] at f81
              try rw [(show xi (E65 (64 * (a0.toNatClampNeg + 1) + 14)) 9 = y16 from vi_e ((kq66 (64 * (a0.toNatClampNeg + 1) + 14) 9 (wl_p rfl rfl (by omega))).trans ((kq25 (64 * (a0.toNatClampNeg + 1) + 14) 9 (wl_p rfl rfl (by omega))).trans fy16)))] at f81
              try rw [(show xi (E71 (64 * (a0.toNatClampNeg + 1) + 14)) 5 = y73 from vi_e fy73)] at f81
              try rw [(show xi (E71 (64 * (a0.toNatClampNeg + 1) + 14)) 6 = y75 from vi_e fy75)] at f81
              try rw [(show xi (E71 (64 * (a0.toNatClampNeg + 1) + 14)) 8 = y77 from vi_e fy77)] at f81
              try rw [(show xi (E71 (64 * (a0.toNatClampNeg + 1) + 14)) 9 = y79 from vi_e fy79)] at f81
              refine lv_iload_n hx hb dX12_decide_106 rfl (lv_at hl 0 rfl) ?_
              rw [hQ]
              exact W.iret (v := 1) hx hb hr (fun t ht hW => ⟨⟨1, E71, rfl, ⟨hI, hKp, Or.inl ⟨(iv_w ln_1 (by decide)), by (try rw [ey9]); (try rw [ey11]); (try rw [ey14]); (try rw [ey16]); all_goals omega, by (try rw [(show xi (E71 (64 * (a0.toNatClampNeg + 1) + 14)) 5 = y73 from vi_e fy73)]); (try rw [(show xi (E71 (64 * (a0.toNatClampNeg + 1) + 14)) 6 = y75 from vi_e fy75)]); (try rw [(show xi (E71 (64 * (a0.toNatClampNeg + 1) + 14)) 7 = (xi (E (64 * (a0.toNatClampNeg + 1) + 14)) 7) from vi_e (th_v0L hKp hI0 (64 * (a0.toNatClampNeg + 1) + 14) (mP 14 a0.toNatClampNeg (by decide) lv8 (kl_le hC 5 (by decide))) (shC_p 14 a0.toNatClampNeg (by decide)) (Nat.le_of_ble_eq_true rfl) (spC_p 14 a0.toNatClampNeg (by decide) 7) (by simp [wl] <;> omega)))]); (try rw [(show xi (E71 (64 * (a0.toNatClampNeg + 1) + 14)) 8 = y77 from vi_e fy77)]); (try rw [(show xi (E71 (64 * (a0.toNatClampNeg + 1) + 14)) 9 = y79 from vi_e fy79)]); (try rw [ey9]); (try rw [ey11]); (try rw [ey14]); (try rw [ey16]); all_goals omega⟩⟩, by show va_P (dC, dI) vwCl (WL (LC cf) ad E71) t.heap; rw [ht]; exact hP⟩, hS.F ht⟩) hS.2.2 dX12_decide_107
            · --87 not
              have t82 : r64.toInt = 1 := ti_eq c68
              have i83 : 1 ≤ r64.toInt ∧ r64.toInt ≤ 1 := iv_eqi t82 f67 (il_ 1) (by decide)
              refine lv_iload_n hx hb dX12_decide_90 rfl (lv_at hl 0 rfl) ?_
              refine lv_iconst (v := 2) hx hb dX12_decide_91 (by decide) ?_
              have z2 := ln_2
              refine lv_ior hx hb dX12_decide_92 ?_
              refine lv_topi (fun y84 ey84 => ?_)
              have iy84 : 0 ≤ y84.toInt ∧ y84.toInt ≤ 3 := ti_or3 ey84 (by omega) (by omega)
              refine lv_istore_n (lv' := [(3, .int y84), (2, .ref (ad (64 * (a0.toNatClampNeg + 1) + 14))), (0, .ref (ad 0)), (1, .int a0)]) hx hb dX12_decide_93 rfl hl (by decide) rfl (fun ls hl => ?_)
              refine lv_aload_n hx hb dX12_decide_94 rfl (lv_at hl 1 rfl) ?_
              refine lv_iload_n hx hb dX12_decide_95 rfl (lv_at hl 0 rfl) ?_
              refine lv_aload_n hx hb dX12_decide_96 rfl (lv_at hl 2 rfl) ?_
              refine th_getL (ci := 13) (C := RX12) (T := TX12) (N := 6) (v := .ref (ad 1)) hx hb hts hinX12 hown hK hP hI 0 (mF 0 rfl) rfl rfl 0 (Nat.le_of_ble_eq_true rfl) (hts _ (vA_in _ _ (in_10 _ (List.mem_of_getElem? (i := 17) rfl)))) (fun _ h9 => h9) (hI.fr 0 (mF 0 rfl) rfl (Nat.le_of_ble_eq_true rfl) 1 rfl) dX12_decide_97 ?_
              refine th_getL (ci := 1) (C := RX0) (T := TX0) (N := 11) (v := .int (xi (E 1) 0)) hx hb hts hinX0 hown hK hP hI 1 (mF 1 rfl) rfl rfl 0 (Nat.le_of_ble_eq_true rfl) (hts _ (vA_in _ _ (in_10 _ (List.mem_of_getElem? (i := 26) rfl)))) (fun _ h9 => h9) (th_v0L hKp hI0 1 (mF 1 rfl) rfl (Nat.le_of_ble_eq_true rfl) rfl rfl) dX12_decide_100 ?_
              refine th_vL (va_runV (As := [.int y84, .int (xi (E 1) 0)]) (rest := []) ⟨hx, hb, hml, hown, hts⟩ (q_settleX l dC dI cT cf hC ad E65 H.size y84 (xi (E 1) 0) a0.toNatClampNeg hI (by (try rw [hKp.ei (64 * (i + 1) + 14) 5 rfl]); (try rw [hKp.ei (64 * (i + 1) + 14) 6 rfl]); (try rw [hKp.ei (64 * (i + 1) + 14) 7 rfl]); (try rw [hKp.ei (64 * (i + 1) + 14) 8 rfl]); (try rw [hKp.ei (64 * (i + 1) + 14) 9 rfl]); omega) iy84 i1) (cwV 2 hts (gi_V (in_16 _ (List.mem_of_getElem? (i := 28) rfl)) (in_16 _ (List.mem_of_getElem? (i := 29) rfl)) (in_16 _ (List.mem_of_getElem? (i := 30) rfl)) (in_5 _ (List.mem_of_getElem? (i := 16) rfl)) (in_16 _ (List.mem_of_getElem? (i := 31) rfl))) rfl rfl rfl (by decide +kernel) ⟨Nat.le_of_ble_eq_true rfl, Nat.le_of_ble_eq_true rfl⟩) ⟨HWL_bl, va_recv hK hP (ci := 5) (q0 := posL (64 * (a0.toNatClampNeg + 1) + 14) (LC cf)) rfl (hI.ob (64 * (a0.toNatClampNeg + 1) + 14) (mP 14 a0.toNatClampNeg (by decide) lv8 (kl_le hC 5 (by decide))) (shC_p 14 a0.toNatClampNeg (by decide))), (HWL_wi hP hK (WL_D hD) hS hA hEV)⟩ rfl rfl hl.1 rfl (lv_room (Nat.le_of_ble_eq_true rfl)) dX12_decide_103 ⟨Nat.le_of_ble_eq_true rfl, Nat.le_of_ble_eq_true rfl⟩) (WL_D hD) hS hA (fun E86 H locs hw hP hS => ?_)
              obtain ⟨hI, kq87, hw⟩ := hw
              have hKb := hKp
              have hKp := hKp.tr kq87 (by intro o j h9; simp [wl] at h9 ⊢; omega)
              obtain ⟨y88, ey88⟩ : ∃ y, xi (E86 (64 * (a0.toNatClampNeg + 1) + 14)) 5 = y := ⟨_, rfl⟩
              have fy88 : xv (E86 (64 * (a0.toNatClampNeg + 1) + 14)) 5 = .int y88 := (hI.fi (64 * (a0.toNatClampNeg + 1) + 14) (mP 14 a0.toNatClampNeg (by decide) lv8 (kl_le hC 5 (by decide))) (shC_p 14 a0.toNatClampNeg (by decide)) (Nat.le_of_ble_eq_true rfl) (spC_p 14 a0.toNatClampNeg (by decide) 5)).trans (congrArg Value.int ey88)
              have i89 : -1 ≤ y88.toInt ∧ y88.toInt ≤ 400 := by rw [← ey88]; exact hI.iv (64 * (a0.toNatClampNeg + 1) + 14) (mP 14 a0.toNatClampNeg (by decide) lv8 (kl_le hC 5 (by decide))) (shC_p 14 a0.toNatClampNeg (by decide)) (Nat.le_of_ble_eq_true rfl) (spC_p 14 a0.toNatClampNeg (by decide) 5)
              obtain ⟨y90, ey90⟩ : ∃ y, xi (E86 (64 * (a0.toNatClampNeg + 1) + 14)) 6 = y := ⟨_, rfl⟩
              have fy90 : xv (E86 (64 * (a0.toNatClampNeg + 1) + 14)) 6 = .int y90 := (hI.fi (64 * (a0.toNatClampNeg + 1) + 14) (mP 14 a0.toNatClampNeg (by decide) lv8 (kl_le hC 5 (by decide))) (shC_p 14 a0.toNatClampNeg (by decide)) (Nat.le_of_ble_eq_true rfl) (spC_p 14 a0.toNatClampNeg (by decide) 6)).trans (congrArg Value.int ey90)
              have i91 : 0 ≤ y90.toInt ∧ y90.toInt ≤ 3 := by rw [← ey90]; exact hI.iv (64 * (a0.toNatClampNeg + 1) + 14) (mP 14 a0.toNatClampNeg (by decide) lv8 (kl_le hC 5 (by decide))) (shC_p 14 a0.toNatClampNeg (by decide)) (Nat.le_of_ble_eq_true rfl) (spC_p 14 a0.toNatClampNeg (by decide) 6)
              obtain ⟨y92, ey92⟩ : ∃ y, xi (E86 (64 * (a0.toNatClampNeg + 1) + 14)) 8 = y := ⟨_, rfl⟩
              have fy92 : xv (E86 (64 * (a0.toNatClampNeg + 1) + 14)) 8 = .int y92 := (hI.fi (64 * (a0.toNatClampNeg + 1) + 14) (mP 14 a0.toNatClampNeg (by decide) lv8 (kl_le hC 5 (by decide))) (shC_p 14 a0.toNatClampNeg (by decide)) (Nat.le_of_ble_eq_true rfl) (spC_p 14 a0.toNatClampNeg (by decide) 8)).trans (congrArg Value.int ey92)
              have i93 : -1 ≤ y92.toInt ∧ y92.toInt ≤ 400 := by rw [← ey92]; exact hI.iv (64 * (a0.toNatClampNeg + 1) + 14) (mP 14 a0.toNatClampNeg (by decide) lv8 (kl_le hC 5 (by decide))) (shC_p 14 a0.toNatClampNeg (by decide)) (Nat.le_of_ble_eq_true rfl) (spC_p 14 a0.toNatClampNeg (by decide) 8)
              obtain ⟨y94, ey94⟩ : ∃ y, xi (E86 (64 * (a0.toNatClampNeg + 1) + 14)) 9 = y := ⟨_, rfl⟩
              have fy94 : xv (E86 (64 * (a0.toNatClampNeg + 1) + 14)) 9 = .int y94 := (hI.fi (64 * (a0.toNatClampNeg + 1) + 14) (mP 14 a0.toNatClampNeg (by decide) lv8 (kl_le hC 5 (by decide))) (shC_p 14 a0.toNatClampNeg (by decide)) (Nat.le_of_ble_eq_true rfl) (spC_p 14 a0.toNatClampNeg (by decide) 9)).trans (congrArg Value.int ey94)
              have i95 : 0 ≤ y94.toInt ∧ y94.toInt ≤ 3 := by rw [← ey94]; exact hI.iv (64 * (a0.toNatClampNeg + 1) + 14) (mP 14 a0.toNatClampNeg (by decide) lv8 (kl_le hC 5 (by decide))) (shC_p 14 a0.toNatClampNeg (by decide)) (Nat.le_of_ble_eq_true rfl) (spC_p 14 a0.toNatClampNeg (by decide) 9)
              have f96 := hw
              try rw [(show xi (E65 (64 * (a0.toNatClampNeg + 1) + 14)) 5 = y9 from vi_e ((kq66 (64 * (a0.toNatClampNeg + 1) + 14) 5 (wl_p rfl rfl (by omega))).trans ((kq25 (64 * (a0.toNatClampNeg + 1) + 14) 5 (wl_p rfl rfl (by omega))).trans fy9)))] at f96
              try rw [(show xi (E65 (64 * (a0.toNatClampNeg + 1) + 14)) 6 = y11 from vi_e ((kq66 (64 * (a0.toNatClampNeg + 1) + 14) 6 (wl_p rfl rfl (by omega))).trans ((kq25 (64 * (a0.toNatClampNeg + 1) + 14) 6 (wl_p rfl rfl (by omega))).trans fy11)))] at f96
              try rw [(show xi (E65 (64 * (a0.toNatClampNeg + 1) + 14)) 7 = (xi (E (64 * (a0.toNatClampNeg + 1) + 14)) 7) from vi_e (th_v0L hKb hI0 (64 * (a0.toNatClampNeg + 1) + 14) (mP 14 a0.toNatClampNeg (by decide) lv8 (kl_le hC 5 (by decide))) (shC_p 14 a0.toNatClampNeg (by decide)) (Nat.le_of_ble_eq_true rfl) (spC_p 14 a0.toNatClampNeg (by decide) 7) (by simp [wl] <;> omega)))] at f96
              try rw [(show xi (E65 (64 * (a0.toNatClampNeg + 1) + 14)) 8 = y14 from vi_e ((kq66 (64 * (a0.toNatClampNeg + 1) + 14) 8 (wl_p rfl rfl (by omega))).trans ((kq25 (64 * (a0.toNatClampNeg + 1) + 14) 8 (wl_p rfl rfl (by omega))).trans fy14)))] at f96
              try rw [(show xi (E65 (64 * (a0.toNatClampNeg + 1) + 14)) 9 = y16 from vi_e ((kq66 (64 * (a0.toNatClampNeg + 1) + 14) 9 (wl_p rfl rfl (by omega))).trans ((kq25 (64 * (a0.toNatClampNeg + 1) + 14) 9 (wl_p rfl rfl (by omega))).trans fy16)))] at f96
              try rw [(show xi (E86 (64 * (a0.toNatClampNeg + 1) + 14)) 5 = y88 from vi_e fy88)] at f96
              try rw [(show xi (E86 (64 * (a0.toNatClampNeg + 1) + 14)) 6 = y90 from vi_e fy90)] at f96
              try rw [(show xi (E86 (64 * (a0.toNatClampNeg + 1) + 14)) 8 = y92 from vi_e fy92)] at f96
              try rw [(show xi (E86 (64 * (a0.toNatClampNeg + 1) + 14)) 9 = y94 from vi_e fy94)] at f96
              refine lv_iload_n hx hb dX12_decide_106 rfl (lv_at hl 0 rfl) ?_
              rw [hQ]
              exact W.iret (v := y84) hx hb hr (fun t ht hW => ⟨⟨y84, E86, rfl, ⟨hI, hKp, Or.inl ⟨iy84, by (try rw [ey9]); (try rw [ey11]); (try rw [ey14]); (try rw [ey16]); all_goals omega, by (try rw [(show xi (E86 (64 * (a0.toNatClampNeg + 1) + 14)) 5 = y88 from vi_e fy88)]); (try rw [(show xi (E86 (64 * (a0.toNatClampNeg + 1) + 14)) 6 = y90 from vi_e fy90)]); (try rw [(show xi (E86 (64 * (a0.toNatClampNeg + 1) + 14)) 7 = (xi (E (64 * (a0.toNatClampNeg + 1) + 14)) 7) from vi_e (th_v0L hKp hI0 (64 * (a0.toNatClampNeg + 1) + 14) (mP 14 a0.toNatClampNeg (by decide) lv8 (kl_le hC 5 (by decide))) (shC_p 14 a0.toNatClampNeg (by decide)) (Nat.le_of_ble_eq_true rfl) (spC_p 14 a0.toNatClampNeg (by decide) 7) (by simp [wl] <;> omega)))]); (try rw [(show xi (E86 (64 * (a0.toNatClampNeg + 1) + 14)) 8 = y92 from vi_e fy92)]); (try rw [(show xi (E86 (64 * (a0.toNatClampNeg + 1) + 14)) 9 = y94 from vi_e fy94)]); (try rw [ey9]); (try rw [ey11]); (try rw [ey14]); (try rw [ey16]); all_goals omega⟩⟩, by show va_P (dC, dI) vwCl (WL (LC cf) ad E86) t.heap; rw [ht]; exact hP⟩, hS.F ht⟩) hS.2.2 dX12_decide_107
        · --39 not
          exact absurd c22 (by decide)
    · --15 not
      exact absurd c6 (by decide)
  · -- isProtestedC, case 1
    obtain ⟨rfl, f97⟩ := hw
    refine lv_if_ne (tgt := 20) hx hb dX12_decide_15 (by decide) (fun c98 => ?_) (fun c98 => ?_)
    · --15 taken
      exact absurd c98 (by decide)
    · --15 not
      refine lv_iconst (v := -1) hx hb dX12_decide_18 (by decide) ?_
      rw [hQ]
      exact W.iret (v := (-1)) hx hb hr (fun t ht hW => ⟨⟨(-1), E, rfl, ⟨hI, hKp, Or.inr (⟨rfl, by all_goals omega, by omega⟩)⟩, by show va_P (dC, dI) vwCl (WL (LC cf) ad E) t.heap; rw [ht]; exact hP⟩, hS.F ht⟩) hS.2.2 dX12_decide_19
def v_u_reopenX : List Cond := .code yX12_reopen cX12_reopen 3 (some .boolean) :: vA
abbrev rm_u_reopenX : Room := { frames := 4, cells := 0, slots := 0, locals := 160 }
set_option maxHeartbeats 4000000 in
set_option maxRecDepth 100000 in
theorem q_u_reopenX (l : Launch) (dC : Nat → ClassId) (dI : Nat → Nat → Nat) (cT : Nat → ClassId) (cf : Nat → Nat) (hC : CF cf) (ad : Nat → Nat) (E : Nat → va_E) (sz : Nat) (a0 : Int32) (hI0 : IXL cT (shC cf) (spC cf) (LC cf) ad E)  : Met l yX12_reopen v_u_reopenX rm_u_reopenX (va_Pc [.ref (ad 0), .int a0] (HWL dC dI (TYC cT) cf ad E sz)) (va_Qi (S := Nat → va_E) (fun r u => IXL cT (shC cf) (spC cf) (LC cf) ad u ∧ Kp (wl [] [(64 * (a0.toNatClampNeg + 1) + 14, 7)]) E u ∧ ((r = 1 ∧ ((0 ≤ a0.toInt ∧ a0.toInt < ((cf 5 : Nat) : Int)) ∧ (xi (E (64 * (a0.toNatClampNeg + 1) + 14)) 4).toInt ≤ (xi (E 1) 0).toInt ∧ (((xi (E (64 * (a0.toNatClampNeg + 1) + 14)) 7).toInt = -1 ∧ ¬ (xi (E (64 * (a0.toNatClampNeg + 1) + 14)) 5).toInt = -1) ∨ (¬ (xi (E (64 * (a0.toNatClampNeg + 1) + 14)) 7).toInt = -1 ∧ ¬ (xi (E (64 * (a0.toNatClampNeg + 1) + 14)) 8).toInt = -1)) ∧ (xi (E (64 * (a0.toNatClampNeg + 1) + 14)) 7).toInt = -1) ∧ ((xi (u (64 * (a0.toNatClampNeg + 1) + 14)) 7).toInt = (xi (E 1) 0).toInt ∧ (xi (u (64 * (a0.toNatClampNeg + 1) + 14)) 5).toInt = (xi (E (64 * (a0.toNatClampNeg + 1) + 14)) 5).toInt ∧ (xi (u (64 * (a0.toNatClampNeg + 1) + 14)) 6).toInt = (xi (E (64 * (a0.toNatClampNeg + 1) + 14)) 6).toInt ∧ (xi (u (64 * (a0.toNatClampNeg + 1) + 14)) 8).toInt = (xi (E (64 * (a0.toNatClampNeg + 1) + 14)) 8).toInt ∧ (xi (u (64 * (a0.toNatClampNeg + 1) + 14)) 9).toInt = (xi (E (64 * (a0.toNatClampNeg + 1) + 14)) 9).toInt)) ∨ (r = 0 ∧ (¬ (((0 ≤ a0.toInt ∧ a0.toInt < ((cf 5 : Nat) : Int)) ∧ (xi (E (64 * (a0.toNatClampNeg + 1) + 14)) 4).toInt ≤ (xi (E 1) 0).toInt) ∧ (((xi (E (64 * (a0.toNatClampNeg + 1) + 14)) 7).toInt = -1 ∧ ¬ (xi (E (64 * (a0.toNatClampNeg + 1) + 14)) 5).toInt = -1) ∨ (¬ (xi (E (64 * (a0.toNatClampNeg + 1) + 14)) 7).toInt = -1 ∧ ¬ (xi (E (64 * (a0.toNatClampNeg + 1) + 14)) 8).toInt = -1)) ∧ (xi (E (64 * (a0.toNatClampNeg + 1) + 14)) 7).toInt = -1)) ∧ ((xi (u (64 * (a0.toNatClampNeg + 1) + 14)) 5).toInt = (xi (E (64 * (a0.toNatClampNeg + 1) + 14)) 5).toInt ∧ (xi (u (64 * (a0.toNatClampNeg + 1) + 14)) 6).toInt = (xi (E (64 * (a0.toNatClampNeg + 1) + 14)) 6).toInt ∧ (xi (u (64 * (a0.toNatClampNeg + 1) + 14)) 7).toInt = (xi (E (64 * (a0.toNatClampNeg + 1) + 14)) 7).toInt ∧ (xi (u (64 * (a0.toNatClampNeg + 1) + 14)) 8).toInt = (xi (E (64 * (a0.toNatClampNeg + 1) + 14)) 8).toInt ∧ (xi (u (64 * (a0.toNatClampNeg + 1) + 14)) 9).toInt = (xi (E (64 * (a0.toNatClampNeg + 1) + 14)) 9).toInt)))) (HBL dC dI (LC cf) ad) (va_A (WL (LC cf) ad E) sz)) 0 0 (va_A (WL (LC cf) ad E) sz) := by
  obtain ⟨⟨hc0, hc1, hc2, hc3, hc4, hc5⟩, hcr⟩ := id hC
  refine Met.ofW (cc := cX12_reopen) (maxL := 3) (ret := (some .boolean)) (by decide) rfl ?_
  intro p e s m args below meth c s₁ B hml hv
  obtain ⟨hargs, hsz, hP, hK, hD0, hEV⟩ := hv
  subst hsz
  have hx := B.exec
  have hb := B.bytes
  have hr := B.returns
  have hts := atoms_spec (ws := v_u_reopenX) B.pre
  have hown : s.vm.findClass RX12 = some m.cls := findClass_of_methodNamed B.named
  have hlocks := B.notSynchronized
  have hinX0 : ∀ w ∈ u_ws RX0 TX0 11, w ∈ v_u_reopenX := fun w h => vA_in _ w (in_X0 w h)
  have hinX12 : ∀ w ∈ u_ws RX12 TX12 6, w ∈ v_u_reopenX := fun w h => vA_in _ w (in_X12 w h)
  have hinX4 : ∀ w ∈ u_ws RX4 TX4 10, w ∈ v_u_reopenX := fun w h => vA_in _ w (in_X4 w h)
  generalize hAe : va_A (WL (LC cf) ad E) s.heap.size = A at hEV ⊢
  have hA : ∀ q : Nat, s.heap.size ≤ q → A q := fun q h => by rw [← hAe]; exact Or.inr h
  have hD : va_D A (WL (LC cf) ad E) := by rw [← hAe]; exact hD0.self
  have hS : va_S A s.heap s.heap [] := va_S.rf
  have hI := hI0
  have hKp : Kp (wl [] [(64 * (a0.toNatClampNeg + 1) + 14, 7)]) E E := Kp.rf
  have hl := lv_entry ([.ref (ad 0), .int a0]) (n := 3) (Nat.le_of_ble_eq_true rfl)
  obtain ⟨Q, hQ⟩ : ∃ Q, Q = MQ below (va_Qi (S := Nat → va_E) (fun r u => IXL cT (shC cf) (spC cf) (LC cf) ad u ∧ Kp (wl [] [(64 * (a0.toNatClampNeg + 1) + 14, 7)]) E u ∧ ((r = 1 ∧ ((0 ≤ a0.toInt ∧ a0.toInt < ((cf 5 : Nat) : Int)) ∧ (xi (E (64 * (a0.toNatClampNeg + 1) + 14)) 4).toInt ≤ (xi (E 1) 0).toInt ∧ (((xi (E (64 * (a0.toNatClampNeg + 1) + 14)) 7).toInt = -1 ∧ ¬ (xi (E (64 * (a0.toNatClampNeg + 1) + 14)) 5).toInt = -1) ∨ (¬ (xi (E (64 * (a0.toNatClampNeg + 1) + 14)) 7).toInt = -1 ∧ ¬ (xi (E (64 * (a0.toNatClampNeg + 1) + 14)) 8).toInt = -1)) ∧ (xi (E (64 * (a0.toNatClampNeg + 1) + 14)) 7).toInt = -1) ∧ ((xi (u (64 * (a0.toNatClampNeg + 1) + 14)) 7).toInt = (xi (E 1) 0).toInt ∧ (xi (u (64 * (a0.toNatClampNeg + 1) + 14)) 5).toInt = (xi (E (64 * (a0.toNatClampNeg + 1) + 14)) 5).toInt ∧ (xi (u (64 * (a0.toNatClampNeg + 1) + 14)) 6).toInt = (xi (E (64 * (a0.toNatClampNeg + 1) + 14)) 6).toInt ∧ (xi (u (64 * (a0.toNatClampNeg + 1) + 14)) 8).toInt = (xi (E (64 * (a0.toNatClampNeg + 1) + 14)) 8).toInt ∧ (xi (u (64 * (a0.toNatClampNeg + 1) + 14)) 9).toInt = (xi (E (64 * (a0.toNatClampNeg + 1) + 14)) 9).toInt)) ∨ (r = 0 ∧ (¬ (((0 ≤ a0.toInt ∧ a0.toInt < ((cf 5 : Nat) : Int)) ∧ (xi (E (64 * (a0.toNatClampNeg + 1) + 14)) 4).toInt ≤ (xi (E 1) 0).toInt) ∧ (((xi (E (64 * (a0.toNatClampNeg + 1) + 14)) 7).toInt = -1 ∧ ¬ (xi (E (64 * (a0.toNatClampNeg + 1) + 14)) 5).toInt = -1) ∨ (¬ (xi (E (64 * (a0.toNatClampNeg + 1) + 14)) 7).toInt = -1 ∧ ¬ (xi (E (64 * (a0.toNatClampNeg + 1) + 14)) 8).toInt = -1)) ∧ (xi (E (64 * (a0.toNatClampNeg + 1) + 14)) 7).toInt = -1)) ∧ ((xi (u (64 * (a0.toNatClampNeg + 1) + 14)) 5).toInt = (xi (E (64 * (a0.toNatClampNeg + 1) + 14)) 5).toInt ∧ (xi (u (64 * (a0.toNatClampNeg + 1) + 14)) 6).toInt = (xi (E (64 * (a0.toNatClampNeg + 1) + 14)) 6).toInt ∧ (xi (u (64 * (a0.toNatClampNeg + 1) + 14)) 7).toInt = (xi (E (64 * (a0.toNatClampNeg + 1) + 14)) 7).toInt ∧ (xi (u (64 * (a0.toNatClampNeg + 1) + 14)) 8).toInt = (xi (E (64 * (a0.toNatClampNeg + 1) + 14)) 8).toInt ∧ (xi (u (64 * (a0.toNatClampNeg + 1) + 14)) 9).toInt = (xi (E (64 * (a0.toNatClampNeg + 1) + 14)) 9).toInt)))) (HBL dC dI (LC cf) ad) (A)) args s 0 0 (A) := ⟨_, rfl⟩
  rw [← hQ, show entryFrame m args 3 = _ from (congrArg (fun z => entryFrame m z 3) hargs).trans (lg_entry_eq _ _ _)]
  generalize (lg_sl ([.ref (ad 0), .int a0]) ++ List.replicate (3 - (lg_sl ([.ref (ad 0), .int a0])).length) Slot.unset).toArray = ls at hl ⊢
  have hl : lv_has ls 3 [(0, .ref (ad 0)), (1, .int a0)] := hl
  refine lv_aload_n hx hb dX12_reopen_0 rfl (lv_at hl 0 rfl) ?_
  refine th_getL (ci := 13) (C := RX12) (T := TX12) (N := 6) (v := .ref (ad 1)) hx hb hts hinX12 hown hK hP hI 0 (mF 0 rfl) rfl rfl 0 (Nat.le_of_ble_eq_true rfl) (hts _ (vA_in _ _ (in_10 _ (List.mem_of_getElem? (i := 17) rfl)))) (fun _ h9 => h9) (hI.fr 0 (mF 0 rfl) rfl (Nat.le_of_ble_eq_true rfl) 1 rfl) dX12_reopen_1 ?_
  refine lv_iload_n hx hb dX12_reopen_4 rfl (lv_at hl 1 rfl) ?_
  refine lv_aload_n hx hb dX12_reopen_5 rfl (lv_at hl 0 rfl) ?_
  refine th_getL (ci := 13) (C := RX12) (T := TX12) (N := 6) (v := .ref (ad 1)) hx hb hts hinX12 hown hK hP hI 0 (mF 0 rfl) rfl rfl 0 (Nat.le_of_ble_eq_true rfl) (hts _ (vA_in _ _ (in_10 _ (List.mem_of_getElem? (i := 17) rfl)))) (fun _ h9 => h9) (hI.fr 0 (mF 0 rfl) rfl (Nat.le_of_ble_eq_true rfl) 1 rfl) dX12_reopen_6 ?_
  have i1 : 0 ≤ (xi (E 1) 0).toInt ∧ (xi (E 1) 0).toInt ≤ 400 := hI0.iv 1 (mF 1 rfl) rfl (Nat.le_of_ble_eq_true rfl) rfl
  refine th_getL (ci := 1) (C := RX0) (T := TX0) (N := 11) (v := .int (xi (E 1) 0)) hx hb hts hinX0 hown hK hP hI 1 (mF 1 rfl) rfl rfl 0 (Nat.le_of_ble_eq_true rfl) (hts _ (vA_in _ _ (in_10 _ (List.mem_of_getElem? (i := 26) rfl)))) (fun _ h9 => h9) (th_v0L hKp hI0 1 (mF 1 rfl) rfl (Nat.le_of_ble_eq_true rfl) rfl rfl) dX12_reopen_9 ?_
  refine th_riL (va_runV (As := [.int a0, .int (xi (E 1) 0)]) (rest := []) ⟨hx, hb, hml, hown, hts⟩ (q_isProtestedC l dC dI cT cf hC ad E s.heap.size a0 (xi (E 1) 0) hI) (cwV 2 hts (gi_V (in_14 _ (List.mem_of_getElem? (i := 21) rfl)) (in_14 _ (List.mem_of_getElem? (i := 22) rfl)) (in_14 _ (List.mem_of_getElem? (i := 23) rfl)) (in_5 _ (List.mem_of_getElem? (i := 6) rfl)) (in_6 _ (List.mem_of_getElem? (i := 20) rfl))) rfl rfl rfl (by decide +kernel) ⟨Nat.le_of_ble_eq_true rfl, Nat.le_of_ble_eq_true rfl⟩) ⟨HWL_bl, va_recv hK hP (ci := 1) (q0 := posL 1 (LC cf)) rfl (hI.ob 1 (mF 1 rfl) rfl), (HWL_wi hP hK (WL_D hD) hS hA hEV)⟩ rfl rfl hl.1 rfl (lv_room (Nat.le_of_ble_eq_true rfl)) dX12_reopen_12 ⟨Nat.le_of_ble_eq_true rfl, Nat.le_of_ble_eq_true rfl⟩) hS hP (fun r2 H locs hw hP hS => ?_)
  rcases hw with hw | hw
  · -- isProtestedC, case 0
    obtain ⟨rfl, f3, f4, f5⟩ := hw
    refine lv_if_ne (tgt := 20) hx hb dX12_reopen_15 (by decide) (fun c6 => ?_) (fun c6 => ?_)
    · --15 taken
      refine lv_aload_n hx hb dX12_reopen_20 rfl (lv_at hl 0 rfl) ?_
      refine th_getL (ci := 13) (C := RX12) (T := TX12) (N := 6) (v := .ref (ad 1)) hx hb hts hinX12 hown hK hP hI 0 (mF 0 rfl) rfl rfl 0 (Nat.le_of_ble_eq_true rfl) (hts _ (vA_in _ _ (in_10 _ (List.mem_of_getElem? (i := 17) rfl)))) (fun _ h9 => h9) (hI.fr 0 (mF 0 rfl) rfl (Nat.le_of_ble_eq_true rfl) 1 rfl) dX12_reopen_21 ?_
      refine th_getL (ci := 1) (C := RX0) (T := TX0) (N := 11) (v := .ref (ad 12)) hx hb hts hinX0 hown hK hP hI 1 (mF 1 rfl) rfl rfl 8 (Nat.le_of_ble_eq_true rfl) (hts _ (vA_in _ _ (in_14 _ (List.mem_of_getElem? (i := 10) rfl)))) (fun _ h9 => h9) (hI.fr 1 (mF 1 rfl) rfl (Nat.le_of_ble_eq_true rfl) 12 rfl) dX12_reopen_24 ?_
      refine lv_iload_n hx hb dX12_reopen_27 rfl (lv_at hl 1 rfl) ?_
      refine th_rrL (va_runV (As := [.int a0]) (rest := []) ⟨hx, hb, hml, hown, hts⟩ (q_get5 l dC dI cT cf hC ad E H.size a0 hI (by omega)) (cwV 1 hts (gi_V (in_14 _ (List.mem_of_getElem? (i := 24) rfl)) (in_4 _ (List.mem_of_getElem? (i := 38) rfl)) (in_4 _ (List.mem_of_getElem? (i := 39) rfl)) (in_3 _ (List.mem_of_getElem? (i := 18) rfl)) (in_3 _ (List.mem_of_getElem? (i := 39) rfl))) rfl rfl rfl (by decide +kernel) ⟨Nat.le_of_ble_eq_true rfl, Nat.le_of_ble_eq_true rfl⟩) ⟨HWL_bl, va_recv hK hP (ci := 0) (q0 := posL 12 (LC cf)) rfl (hI.ob 12 (mF 12 rfl) rfl), (HWL_wi hP hK (WL_D hD) hS hA hEV)⟩ rfl rfl hl.1 rfl (lv_room (Nat.le_of_ble_eq_true rfl)) dX12_reopen_28 ⟨Nat.le_of_ble_eq_true rfl, Nat.le_of_ble_eq_true rfl⟩) hS hP (fun r7 H locs hw hP hS => ?_)
      obtain rfl := hw
      have lv8 : a0.toNatClampNeg < cf 5 := by rw [tn_]; omega
      refine va_castS (cC := dC 5) hx hb hown (hts _ (vA_in _ _ (in_14 _ (List.mem_of_getElem? (i := 19) rfl)))) (hK.1 5 _ rfl).2 (va_recv hK hP (ci := 5) (q0 := posL (64 * (a0.toNatClampNeg + 1) + 14) (LC cf)) rfl (hI.ob (64 * (a0.toNatClampNeg + 1) + 14) (mP 14 a0.toNatClampNeg (by decide) lv8 (kl_le hC 5 (by decide))) (shC_p 14 a0.toNatClampNeg (by decide)))) dX12_reopen_31 ?_
      refine lv_astore_n (lv' := [(2, .ref (ad (64 * (a0.toNatClampNeg + 1) + 14))), (0, .ref (ad 0)), (1, .int a0)]) hx hb dX12_reopen_34 rfl hl (by decide) rfl (fun ls hl => ?_)
      have i9 : -1 ≤ (xi (E (64 * (a0.toNatClampNeg + 1) + 14)) 5).toInt ∧ (xi (E (64 * (a0.toNatClampNeg + 1) + 14)) 5).toInt ≤ 400 := hI0.iv (64 * (a0.toNatClampNeg + 1) + 14) (mP 14 a0.toNatClampNeg (by decide) lv8 (kl_le hC 5 (by decide))) (shC_p 14 a0.toNatClampNeg (by decide)) (Nat.le_of_ble_eq_true rfl) (spC_p 14 a0.toNatClampNeg (by decide) 5)
      have i10 : 0 ≤ (xi (E (64 * (a0.toNatClampNeg + 1) + 14)) 6).toInt ∧ (xi (E (64 * (a0.toNatClampNeg + 1) + 14)) 6).toInt ≤ 3 := hI0.iv (64 * (a0.toNatClampNeg + 1) + 14) (mP 14 a0.toNatClampNeg (by decide) lv8 (kl_le hC 5 (by decide))) (shC_p 14 a0.toNatClampNeg (by decide)) (Nat.le_of_ble_eq_true rfl) (spC_p 14 a0.toNatClampNeg (by decide) 6)
      obtain ⟨y11, ey11⟩ : ∃ y, xi (E (64 * (a0.toNatClampNeg + 1) + 14)) 7 = y := ⟨_, rfl⟩
      have fy11 : xv (E (64 * (a0.toNatClampNeg + 1) + 14)) 7 = .int y11 := (hI.fi (64 * (a0.toNatClampNeg + 1) + 14) (mP 14 a0.toNatClampNeg (by decide) lv8 (kl_le hC 5 (by decide))) (shC_p 14 a0.toNatClampNeg (by decide)) (Nat.le_of_ble_eq_true rfl) (spC_p 14 a0.toNatClampNeg (by decide) 7)).trans (congrArg Value.int ey11)
      have i12 : -1 ≤ y11.toInt ∧ y11.toInt ≤ 400 := by rw [← ey11]; exact hI.iv (64 * (a0.toNatClampNeg + 1) + 14) (mP 14 a0.toNatClampNeg (by decide) lv8 (kl_le hC 5 (by decide))) (shC_p 14 a0.toNatClampNeg (by decide)) (Nat.le_of_ble_eq_true rfl) (spC_p 14 a0.toNatClampNeg (by decide) 7)
      have i13 : -1 ≤ (xi (E (64 * (a0.toNatClampNeg + 1) + 14)) 8).toInt ∧ (xi (E (64 * (a0.toNatClampNeg + 1) + 14)) 8).toInt ≤ 400 := hI0.iv (64 * (a0.toNatClampNeg + 1) + 14) (mP 14 a0.toNatClampNeg (by decide) lv8 (kl_le hC 5 (by decide))) (shC_p 14 a0.toNatClampNeg (by decide)) (Nat.le_of_ble_eq_true rfl) (spC_p 14 a0.toNatClampNeg (by decide) 8)
      have i14 : 0 ≤ (xi (E (64 * (a0.toNatClampNeg + 1) + 14)) 9).toInt ∧ (xi (E (64 * (a0.toNatClampNeg + 1) + 14)) 9).toInt ≤ 3 := hI0.iv (64 * (a0.toNatClampNeg + 1) + 14) (mP 14 a0.toNatClampNeg (by decide) lv8 (kl_le hC 5 (by decide))) (shC_p 14 a0.toNatClampNeg (by decide)) (Nat.le_of_ble_eq_true rfl) (spC_p 14 a0.toNatClampNeg (by decide) 9)
      refine lv_aload_n hx hb dX12_reopen_35 rfl (lv_at hl 0 rfl) ?_
      refine th_riL (va_runV (As := []) (rest := []) ⟨hx, hb, hml, hown, hts⟩ (q_pisDecidedX l dC dI cT cf hC ad E H.size a0.toNatClampNeg hI (by omega)) (cwV 0 hts (gi_V (in_14 _ (List.mem_of_getElem? (i := 25) rfl)) (in_14 _ (List.mem_of_getElem? (i := 26) rfl)) (in_14 _ (List.mem_of_getElem? (i := 27) rfl)) (in_5 _ (List.mem_of_getElem? (i := 16) rfl)) (in_14 _ (List.mem_of_getElem? (i := 28) rfl))) rfl rfl rfl (by decide +kernel) ⟨Nat.le_of_ble_eq_true rfl, Nat.le_of_ble_eq_true rfl⟩) ⟨HWL_bl, va_recv hK hP (ci := 5) (q0 := posL (64 * (a0.toNatClampNeg + 1) + 14) (LC cf)) rfl (hI.ob (64 * (a0.toNatClampNeg + 1) + 14) (mP 14 a0.toNatClampNeg (by decide) lv8 (kl_le hC 5 (by decide))) (shC_p 14 a0.toNatClampNeg (by decide))), (HWL_wi hP hK (WL_D hD) hS hA hEV)⟩ rfl rfl hl.1 rfl (lv_room (Nat.le_of_ble_eq_true rfl)) dX12_reopen_36 ⟨Nat.le_of_ble_eq_true rfl, Nat.le_of_ble_eq_true rfl⟩) hS hP (fun r15 H locs hw hP hS => ?_)
      rcases hw with hw | hw
      · -- pisDecidedX, case 0
        obtain ⟨rfl, f16⟩ := hw
        try rw [(show xi (E (64 * (a0.toNatClampNeg + 1) + 14)) 5 = (xi (E (64 * (a0.toNatClampNeg + 1) + 14)) 5) from vi_e (th_v0L hKp hI0 (64 * (a0.toNatClampNeg + 1) + 14) (mP 14 a0.toNatClampNeg (by decide) lv8 (kl_le hC 5 (by decide))) (shC_p 14 a0.toNatClampNeg (by decide)) (Nat.le_of_ble_eq_true rfl) (spC_p 14 a0.toNatClampNeg (by decide) 5) (by simp [wl] <;> omega)))] at f16
        try rw [(show xi (E (64 * (a0.toNatClampNeg + 1) + 14)) 7 = y11 from vi_e fy11)] at f16
        try rw [(show xi (E (64 * (a0.toNatClampNeg + 1) + 14)) 8 = (xi (E (64 * (a0.toNatClampNeg + 1) + 14)) 8) from vi_e (th_v0L hKp hI0 (64 * (a0.toNatClampNeg + 1) + 14) (mP 14 a0.toNatClampNeg (by decide) lv8 (kl_le hC 5 (by decide))) (shC_p 14 a0.toNatClampNeg (by decide)) (Nat.le_of_ble_eq_true rfl) (spC_p 14 a0.toNatClampNeg (by decide) 8) (by simp [wl] <;> omega)))] at f16
        refine lv_if_eq (tgt := 50) hx hb dX12_reopen_39 (by decide) (fun c17 => ?_) (fun c17 => ?_)
        · --39 taken
          exact absurd c17 (by decide)
        · --39 not
          refine lv_aload_n hx hb dX12_reopen_42 rfl (lv_at hl 0 rfl) ?_
          refine th_getL (ci := 5) (C := RX4) (T := TX4) (N := 10) (v := .int y11) hx hb hts hinX4 hown hK hP hI (64 * (a0.toNatClampNeg + 1) + 14) (mP 14 a0.toNatClampNeg (by decide) lv8 (kl_le hC 5 (by decide))) (shC_p 14 a0.toNatClampNeg (by decide)) rfl 7 (Nat.le_of_ble_eq_true rfl) (hts _ (vA_in _ _ (in_22 _ (List.mem_of_getElem? (i := 20) rfl)))) (fun _ h9 => h9) fy11 dX12_reopen_43 ?_
          refine lv_iconst (v := -1) hx hb dX12_reopen_46 (by decide) ?_
          refine lv_icmp_eq (tgt := 52) hx hb dX12_reopen_47 (by decide) (fun c18 => ?_) (fun c18 => ?_)
          · --47 taken
            have t19 : y11.toInt = -1 := ti_eq c18
            have i20 : -1 ≤ y11.toInt ∧ y11.toInt ≤ -1 := iv_eqi t19 i12 (il_ (-1)) (by decide)
            refine lv_aload_n hx hb dX12_reopen_52 rfl (lv_at hl 0 rfl) ?_
            refine lv_aload_n hx hb dX12_reopen_53 rfl (lv_at hl 1 rfl) ?_
            refine th_getL (ci := 13) (C := RX12) (T := TX12) (N := 6) (v := .ref (ad 1)) hx hb hts hinX12 hown hK hP hI 0 (mF 0 rfl) rfl rfl 0 (Nat.le_of_ble_eq_true rfl) (hts _ (vA_in _ _ (in_10 _ (List.mem_of_getElem? (i := 17) rfl)))) (fun _ h9 => h9) (hI.fr 0 (mF 0 rfl) rfl (Nat.le_of_ble_eq_true rfl) 1 rfl) dX12_reopen_54 ?_
            refine th_getL (ci := 1) (C := RX0) (T := TX0) (N := 11) (v := .int (xi (E 1) 0)) hx hb hts hinX0 hown hK hP hI 1 (mF 1 rfl) rfl rfl 0 (Nat.le_of_ble_eq_true rfl) (hts _ (vA_in _ _ (in_10 _ (List.mem_of_getElem? (i := 26) rfl)))) (fun _ h9 => h9) (th_v0L hKp hI0 1 (mF 1 rfl) rfl (Nat.le_of_ble_eq_true rfl) rfl rfl) dX12_reopen_57 ?_
            refine th_putL (ci := 5) (C := RX4) (T := TX4) (N := 10) (v := .int (xi (E 1) 0)) (ty := .int) hx hb hts hinX4 tyX4 tyX4_ok nmX4 hown hK hP (WL_D hD) hS hI (64 * (a0.toNatClampNeg + 1) + 14) (mP 14 a0.toNatClampNeg (by decide) lv8 (kl_le hC 5 (by decide))) (shC_p 14 a0.toNatClampNeg (by decide)) rfl 7 (Nat.le_of_ble_eq_true rfl) (hts _ (vA_in _ _ (in_22 _ (List.mem_of_getElem? (i := 20) rfl)))) (fun _ h9 => h9) rfl (by decide +kernel) rfl rfl (okI (spC_p 14 a0.toNatClampNeg (by decide) 7) (iv_w i1 (by decide))) dX12_reopen_60 (fun H locs E21 pw22 hI hP hS => ?_)
            have hKp := hKp.pw pw22 (by simp [wl])
            refine lv_iconst (v := 1) hx hb dX12_reopen_63 (by decide) ?_
            rw [hQ]
            exact W.zret (v := 1) hx hb hr rfl (fun t ht hW => ⟨⟨1, E21, rfl, ⟨hI, hKp, Or.inl ⟨rfl, by (try rw [ey11]); all_goals omega, by (try rw [(show xi (E21 (64 * (a0.toNatClampNeg + 1) + 14)) 5 = (xi (E (64 * (a0.toNatClampNeg + 1) + 14)) 5) from vi_e (th_v0L hKp hI0 (64 * (a0.toNatClampNeg + 1) + 14) (mP 14 a0.toNatClampNeg (by decide) lv8 (kl_le hC 5 (by decide))) (shC_p 14 a0.toNatClampNeg (by decide)) (Nat.le_of_ble_eq_true rfl) (spC_p 14 a0.toNatClampNeg (by decide) 5) (by simp [wl] <;> omega)))]); (try rw [(show xi (E21 (64 * (a0.toNatClampNeg + 1) + 14)) 6 = (xi (E (64 * (a0.toNatClampNeg + 1) + 14)) 6) from vi_e (th_v0L hKp hI0 (64 * (a0.toNatClampNeg + 1) + 14) (mP 14 a0.toNatClampNeg (by decide) lv8 (kl_le hC 5 (by decide))) (shC_p 14 a0.toNatClampNeg (by decide)) (Nat.le_of_ble_eq_true rfl) (spC_p 14 a0.toNatClampNeg (by decide) 6) (by simp [wl] <;> omega)))]); (try rw [(show xi (E21 (64 * (a0.toNatClampNeg + 1) + 14)) 7 = (xi (E 1) 0) from vi_e pw22.1)]); (try rw [(show xi (E21 (64 * (a0.toNatClampNeg + 1) + 14)) 8 = (xi (E (64 * (a0.toNatClampNeg + 1) + 14)) 8) from vi_e (th_v0L hKp hI0 (64 * (a0.toNatClampNeg + 1) + 14) (mP 14 a0.toNatClampNeg (by decide) lv8 (kl_le hC 5 (by decide))) (shC_p 14 a0.toNatClampNeg (by decide)) (Nat.le_of_ble_eq_true rfl) (spC_p 14 a0.toNatClampNeg (by decide) 8) (by simp [wl] <;> omega)))]); (try rw [(show xi (E21 (64 * (a0.toNatClampNeg + 1) + 14)) 9 = (xi (E (64 * (a0.toNatClampNeg + 1) + 14)) 9) from vi_e (th_v0L hKp hI0 (64 * (a0.toNatClampNeg + 1) + 14) (mP 14 a0.toNatClampNeg (by decide) lv8 (kl_le hC 5 (by decide))) (shC_p 14 a0.toNatClampNeg (by decide)) (Nat.le_of_ble_eq_true rfl) (spC_p 14 a0.toNatClampNeg (by decide) 9) (by simp [wl] <;> omega)))]); (try rw [ey11]); all_goals omega⟩⟩, by show va_P (dC, dI) vwCl (WL (LC cf) ad E21) t.heap; rw [ht]; exact hP⟩, hS.F ht⟩) hS.2.2 dX12_reopen_64
          · --47 not
            have t23 : ¬ y11.toInt = -1 := ti_ne c18
            have i24 : 0 ≤ y11.toInt ∧ y11.toInt ≤ 400 := iv_ne_l t23 i12 (il_ (-1))
            refine lv_iconst (v := 0) hx hb dX12_reopen_50 (by decide) ?_
            rw [hQ]
            exact W.zret (v := 0) hx hb hr rfl (fun t ht hW => ⟨⟨0, E, rfl, ⟨hI, hKp, Or.inr (⟨rfl, by (try rw [ey11]); all_goals omega, by omega⟩)⟩, by show va_P (dC, dI) vwCl (WL (LC cf) ad E) t.heap; rw [ht]; exact hP⟩, hS.F ht⟩) hS.2.2 dX12_reopen_51
      · -- pisDecidedX, case 1
        obtain ⟨rfl, f25⟩ := hw
        try rw [(show xi (E (64 * (a0.toNatClampNeg + 1) + 14)) 5 = (xi (E (64 * (a0.toNatClampNeg + 1) + 14)) 5) from vi_e (th_v0L hKp hI0 (64 * (a0.toNatClampNeg + 1) + 14) (mP 14 a0.toNatClampNeg (by decide) lv8 (kl_le hC 5 (by decide))) (shC_p 14 a0.toNatClampNeg (by decide)) (Nat.le_of_ble_eq_true rfl) (spC_p 14 a0.toNatClampNeg (by decide) 5) (by simp [wl] <;> omega)))] at f25
        try rw [(show xi (E (64 * (a0.toNatClampNeg + 1) + 14)) 7 = y11 from vi_e fy11)] at f25
        try rw [(show xi (E (64 * (a0.toNatClampNeg + 1) + 14)) 8 = (xi (E (64 * (a0.toNatClampNeg + 1) + 14)) 8) from vi_e (th_v0L hKp hI0 (64 * (a0.toNatClampNeg + 1) + 14) (mP 14 a0.toNatClampNeg (by decide) lv8 (kl_le hC 5 (by decide))) (shC_p 14 a0.toNatClampNeg (by decide)) (Nat.le_of_ble_eq_true rfl) (spC_p 14 a0.toNatClampNeg (by decide) 8) (by simp [wl] <;> omega)))] at f25
        refine lv_if_eq (tgt := 50) hx hb dX12_reopen_39 (by decide) (fun c26 => ?_) (fun c26 => ?_)
        · --39 taken
          refine lv_iconst (v := 0) hx hb dX12_reopen_50 (by decide) ?_
          rw [hQ]
          exact W.zret (v := 0) hx hb hr rfl (fun t ht hW => ⟨⟨0, E, rfl, ⟨hI, hKp, Or.inr (⟨rfl, by (try rw [ey11]); all_goals omega, by omega⟩)⟩, by show va_P (dC, dI) vwCl (WL (LC cf) ad E) t.heap; rw [ht]; exact hP⟩, hS.F ht⟩) hS.2.2 dX12_reopen_51
        · --39 not
          exact absurd c26 (by decide)
    · --15 not
      exact absurd c6 (by decide)
  · -- isProtestedC, case 1
    obtain ⟨rfl, f27⟩ := hw
    refine lv_if_ne (tgt := 20) hx hb dX12_reopen_15 (by decide) (fun c28 => ?_) (fun c28 => ?_)
    · --15 taken
      exact absurd c28 (by decide)
    · --15 not
      refine lv_iconst (v := 0) hx hb dX12_reopen_18 (by decide) ?_
      rw [hQ]
      exact W.zret (v := 0) hx hb hr rfl (fun t ht hW => ⟨⟨0, E, rfl, ⟨hI, hKp, Or.inr (⟨rfl, by all_goals omega, by omega⟩)⟩, by show va_P (dC, dI) vwCl (WL (LC cf) ad E) t.heap; rw [ht]; exact hP⟩, hS.F ht⟩) hS.2.2 dX12_reopen_19
def v_decideS : List Cond := .code yX13_decide cX13_decide 4 (some .int) :: vA
abbrev rm_decideS : Room := { frames := 72, cells := 0, slots := 0, locals := 2880 }
def w_decideS : Nat → Nat → Bool := wl [12, 51, 52, 53, 54, 55, 56, 57, 58, 59] [(0, 0), (0, 18), (0, 19), (0, 20), (0, 21), (0, 22), (0, 23), (0, 24), (0, 25), (0, 26)]
set_option maxHeartbeats 4000000 in
set_option maxRecDepth 100000 in
theorem q_decideS (l : Launch) (dC : Nat → ClassId) (dI : Nat → Nat → Nat) (cT : Nat → ClassId) (ad : Nat → Nat) (E : Nat → va_E) (sz : Nat) (a0 : Int32) (hI0 : IX cT shM spM 72 ad E) (hh0 : DIr (xi (E 55)) (xi (E 54))) : Met l yX13_decide v_decideS rm_decideS (va_Pc [.ref (ad 0), .int a0] (HW dC dI (TYM cT) 72 ad E sz)) (va_Qi (S := Nat → va_E) (fun r u => IX cT shM spM 72 ad u ∧ Kp w_decideS E u ∧ (((0 ≤ r.toInt ∧ r.toInt ≤ 3) ∧ ((0 ≤ a0.toInt ∧ a0.toInt < (xi (E 0) 75).toInt) ∧ (xi (E 55) a0.toNatClampNeg).toInt = 0) ∧ (xi (u 55) = upd (xi (E 55)) a0.toNatClampNeg 1 ∧ xi (u 54) = upd (xi (E 54)) a0.toNatClampNeg (xi (E 54) a0.toNatClampNeg + 1) ∧ xi (u 51) = upd (xi (E 51)) (2 * a0.toInt + (xi (E 54) a0.toNatClampNeg).toInt).toNat r ∧ xi (u 52) = upd (xi (E 52)) (2 * a0.toInt + (xi (E 54) a0.toNatClampNeg).toInt).toNat (xi (E 0) 1) ∧ xi (u 53) = upd (xi (E 53)) (2 * a0.toInt + (xi (E 54) a0.toNatClampNeg).toInt).toNat 1000) ∧ (DIr (xi (u 55)) (xi (u 54)))) ∨ (r = -1 ∧ (¬ ((0 ≤ a0.toInt ∧ a0.toInt < (xi (E 0) 75).toInt) ∧ (xi (E 55) a0.toNatClampNeg).toInt = 0)) ∧ (xi (u 55) = xi (E 55) ∧ xi (u 54) = xi (E 54) ∧ xi (u 51) = xi (E 51) ∧ xi (u 52) = xi (E 52) ∧ xi (u 53) = xi (E 53)) ∧ (DIr (xi (u 55)) (xi (u 54)))))) (HB dC dI 72 ad) (va_A (WX 72 ad E) sz)) 0 0 (va_A (WX 72 ad E) sz) := by
  refine Met.ofW (cc := cX13_decide) (maxL := 4) (ret := (some .int)) (by decide) rfl ?_
  intro p e s m args below meth c s₁ B hml hv
  obtain ⟨hargs, hsz, hP, hK, hD0, hEV⟩ := hv
  subst hsz
  have hx := B.exec
  have hb := B.bytes
  have hr := B.returns
  have hts := atoms_spec (ws := v_decideS) B.pre
  have hown : s.vm.findClass RX13 = some m.cls := findClass_of_methodNamed B.named
  have hlocks := B.notSynchronized
  have hinX13 : ∀ w ∈ u_ws RX13 TX13 97, w ∈ v_decideS := fun w h => vA_in _ w (in_X13 w h)
  generalize hAe : va_A (WX 72 ad E) s.heap.size = A at hEV ⊢
  have hA : ∀ q : Nat, s.heap.size ≤ q → A q := fun q h => by rw [← hAe]; exact Or.inr h
  have hD : va_D A (WX 72 ad E) := by rw [← hAe]; exact hD0.self
  have hS : va_S A s.heap s.heap [] := va_S.rf
  have hI := hI0
  have hKp : Kp w_decideS E E := Kp.rf
  have hl := lv_entry ([.ref (ad 0), .int a0]) (n := 4) (Nat.le_of_ble_eq_true rfl)
  obtain ⟨Q, hQ⟩ : ∃ Q, Q = MQ below (va_Qi (S := Nat → va_E) (fun r u => IX cT shM spM 72 ad u ∧ Kp w_decideS E u ∧ (((0 ≤ r.toInt ∧ r.toInt ≤ 3) ∧ ((0 ≤ a0.toInt ∧ a0.toInt < (xi (E 0) 75).toInt) ∧ (xi (E 55) a0.toNatClampNeg).toInt = 0) ∧ (xi (u 55) = upd (xi (E 55)) a0.toNatClampNeg 1 ∧ xi (u 54) = upd (xi (E 54)) a0.toNatClampNeg (xi (E 54) a0.toNatClampNeg + 1) ∧ xi (u 51) = upd (xi (E 51)) (2 * a0.toInt + (xi (E 54) a0.toNatClampNeg).toInt).toNat r ∧ xi (u 52) = upd (xi (E 52)) (2 * a0.toInt + (xi (E 54) a0.toNatClampNeg).toInt).toNat (xi (E 0) 1) ∧ xi (u 53) = upd (xi (E 53)) (2 * a0.toInt + (xi (E 54) a0.toNatClampNeg).toInt).toNat 1000) ∧ (DIr (xi (u 55)) (xi (u 54)))) ∨ (r = -1 ∧ (¬ ((0 ≤ a0.toInt ∧ a0.toInt < (xi (E 0) 75).toInt) ∧ (xi (E 55) a0.toNatClampNeg).toInt = 0)) ∧ (xi (u 55) = xi (E 55) ∧ xi (u 54) = xi (E 54) ∧ xi (u 51) = xi (E 51) ∧ xi (u 52) = xi (E 52) ∧ xi (u 53) = xi (E 53)) ∧ (DIr (xi (u 55)) (xi (u 54)))))) (HB dC dI 72 ad) (A)) args s 0 0 (A) := ⟨_, rfl⟩
  rw [← hQ, show entryFrame m args 4 = _ from (congrArg (fun z => entryFrame m z 4) hargs).trans (lg_entry_eq _ _ _)]
  generalize (lg_sl ([.ref (ad 0), .int a0]) ++ List.replicate (4 - (lg_sl ([.ref (ad 0), .int a0])).length) Slot.unset).toArray = ls at hl ⊢
  have hl : lv_has ls 4 [(0, .ref (ad 0)), (1, .int a0)] := hl
  obtain ⟨g1, hg1⟩ : ∃ g, xi (E 55) = g := ⟨_, rfl⟩
  obtain ⟨g2, hg2⟩ : ∃ g, xi (E 54) = g := ⟨_, rfl⟩
  obtain ⟨g3, hg3⟩ : ∃ g, xi (E 51) = g := ⟨_, rfl⟩
  obtain ⟨g4, hg4⟩ : ∃ g, xi (E 52) = g := ⟨_, rfl⟩
  obtain ⟨g5, hg5⟩ : ∃ g, xi (E 53) = g := ⟨_, rfl⟩
  have hDI : DIr g1 g2 := by rw [← hg1, ← hg2]; exact hh0
  refine lv_aload_n hx hb dX13_decide_0 rfl (lv_at hl 0 rfl) ?_
  refine lv_iconst (v := 0) hx hb dX13_decide_1 (by decide) ?_
  refine th_put (ci := 14) (C := RX13) (T := TX13) (N := 97) (v := .int 0) (ty := .int) hx hb hts hinX13 tyX13 tyX13_ok nmX13 hown hK hP (WX_D hD) hS hI 0 (Nat.le_of_ble_eq_true rfl) rfl rfl 0 (Nat.le_of_ble_eq_true rfl) (hts _ (vA_in _ _ (in_24 _ (List.mem_of_getElem? (i := 10) rfl)))) (fun _ h9 => h9) rfl (by decide +kernel) rfl rfl (okI rfl (iv_w ln_0 (by decide))) dX13_decide_2 (fun H locs E6 pw7 hI hP hS => ?_)
  have hKp := hKp.pw pw7 rfl
  refine lv_iload_n hx hb dX13_decide_5 rfl (lv_at hl 1 rfl) ?_
  refine lv_iconst (v := 0) hx hb dX13_decide_6 (by decide) ?_
  refine lv_aload_n hx hb dX13_decide_7 rfl (lv_at hl 0 rfl) ?_
  have i8 : 0 ≤ (xi (E 0) 75).toInt ∧ (xi (E 0) 75).toInt ≤ 30 := hI0.iv 0 (Nat.le_of_ble_eq_true rfl) rfl (Nat.le_of_ble_eq_true rfl) rfl
  refine th_get (ci := 14) (C := RX13) (T := TX13) (N := 97) (v := .int (xi (E 0) 75)) hx hb hts hinX13 hown hK hP hI 0 (Nat.le_of_ble_eq_true rfl) rfl rfl 75 (Nat.le_of_ble_eq_true rfl) (hts _ (vA_in _ _ (in_25 _ (List.mem_of_getElem? (i := 1) rfl)))) (fun _ h9 => h9) (th_v0 hKp hI0 0 (Nat.le_of_ble_eq_true rfl) rfl (Nat.le_of_ble_eq_true rfl) rfl rfl) dX13_decide_8 ?_
  refine lv_iconst (v := 1) hx hb dX13_decide_11 (by decide) ?_
  refine lv_isub hx hb dX13_decide_12 ?_
  refine lv_topi (fun y9 ey9 => ?_)
  obtain ⟨ty9, iy9⟩ := ti_sub (e := (-1)) (f := 29) i8 ln_1 ey9 (by decide)
  have ty9 : y9.toInt = (xi (E 0) 75).toInt - 1 := ty9
  have iy9 : -1 ≤ y9.toInt ∧ y9.toInt ≤ 29 := iy9
  refine th_pi (va_runS (As := [.int a0, .int 0, .int y9]) (rest := []) ⟨hx, hb, hml, hown, hts⟩ (q_isIn l a0 (0 : Int32) y9) (va_cwS 3 hts (gi_S (in_24 _ (List.mem_of_getElem? (i := 28) rfl)) (in_24 _ (List.mem_of_getElem? (i := 29) rfl)) (in_24 _ (List.mem_of_getElem? (i := 15) rfl)) (in_24 _ (List.mem_of_getElem? (i := 30) rfl))) rfl rfl rfl (by decide +kernel) ⟨Nat.le_of_ble_eq_true rfl, Nat.le_of_ble_eq_true rfl⟩) ⟨fun _ _ _ _ q => q, fun _ _ _ => ⟨rfl, trivial⟩⟩ rfl rfl hl.1 rfl (lv_room (Nat.le_of_ble_eq_true rfl)) dX13_decide_13 ⟨Nat.le_of_ble_eq_true rfl, Nat.le_of_ble_eq_true rfl⟩) hS (fun r10 H1 locs1 hw hk1 hS => ?_)
  have hP := ub_keep hP hk1
  generalize H1 = H at hP hS ⊢
  generalize locs1 = locs at hS ⊢
  rcases hw with hw | hw
  · -- isIn, case 0
    obtain ⟨rfl, f11⟩ := hw
    have t12 : (0 : Int) ≤ a0.toInt := f11.1
    have t13 : a0.toInt ≤ y9.toInt := f11.2
    have i14 : 0 ≤ a0.toInt ∧ a0.toInt ≤ 2147483647 := iv_le_r t12 (il_ 0) (iv_all _) (by decide)
    have i15 : 0 ≤ a0.toInt ∧ a0.toInt ≤ 29 := iv_le_l t13 i14 iy9 (by decide)
    have i16 : 0 ≤ y9.toInt ∧ y9.toInt ≤ 29 := iv_le_r t13 i14 iy9 (by decide)
    refine lv_if_eq (tgt := 28) hx hb dX13_decide_16 (by decide) (fun c17 => ?_) (fun c17 => ?_)
    · --16 taken
      exact absurd c17 (by decide)
    · --16 not
      refine lv_aload_n hx hb dX13_decide_19 rfl (lv_at hl 0 rfl) ?_
      refine th_get (ci := 14) (C := RX13) (T := TX13) (N := 97) (v := .ref (ad 55)) hx hb hts hinX13 hown hK hP hI 0 (Nat.le_of_ble_eq_true rfl) rfl rfl 73 (Nat.le_of_ble_eq_true rfl) (hts _ (vA_in _ _ (in_30 _ (List.mem_of_getElem? (i := 24) rfl)))) (fun _ h9 => h9) (hI.fr 0 (Nat.le_of_ble_eq_true rfl) rfl (Nat.le_of_ble_eq_true rfl) 55 rfl) dX13_decide_20 ?_
      refine lv_iload_n hx hb dX13_decide_23 rfl (lv_at hl 1 rfl) ?_
      have n19 : vp_in a0 30 := (iv_in (n := 30) i15 (by decide))
      refine th_zald hx hb hK hP hI 55 (Nat.le_of_ble_eq_true rfl) rfl rfl n19 dX13_decide_24 (fun y18 ey18 => ?_)
      have iy18 : 0 ≤ y18.toInt ∧ y18.toInt ≤ 1 := hI.el 55 (Nat.le_of_ble_eq_true rfl) rfl n19 (fun _ => rfl) ey18
      have ey18 := ey18.trans (congrFun ((pw7.ef 55 (Nat.ne_of_beq_eq_false rfl)).trans hg1) _)
      refine lv_if_eq (tgt := 30) hx hb dX13_decide_25 (by decide) (fun c20 => ?_) (fun c20 => ?_)
      · --25 taken
        have t21 : y18.toInt = 0 := ti_eq c20
        have i22 : 0 ≤ y18.toInt ∧ y18.toInt ≤ 0 := iv_eqi t21 iy18 (il_ 0) (by decide)
        refine lv_aload_n hx hb dX13_decide_30 rfl (lv_at hl 0 rfl) ?_
        refine lv_iload_n hx hb dX13_decide_31 rfl (lv_at hl 1 rfl) ?_
        refine lv_iconst (v := 0) hx hb dX13_decide_32 (by decide) ?_
        refine lv_aload_n hx hb dX13_decide_33 rfl (lv_at hl 0 rfl) ?_
        have i23 : 0 ≤ (xi (E 0) 1).toInt ∧ (xi (E 0) 1).toInt ≤ 400 := hI0.iv 0 (Nat.le_of_ble_eq_true rfl) rfl (Nat.le_of_ble_eq_true rfl) rfl
        refine th_get (ci := 14) (C := RX13) (T := TX13) (N := 97) (v := .int (xi (E 0) 1)) hx hb hts hinX13 hown hK hP hI 0 (Nat.le_of_ble_eq_true rfl) rfl rfl 1 (Nat.le_of_ble_eq_true rfl) (hts _ (vA_in _ _ (in_24 _ (List.mem_of_getElem? (i := 27) rfl)))) (fun _ h9 => h9) (th_v0 hKp hI0 0 (Nat.le_of_ble_eq_true rfl) rfl (Nat.le_of_ble_eq_true rfl) rfl rfl) dX13_decide_34 ?_
        refine th_i (va_runV (As := [.int a0, .int 0, .int (xi (E 0) 1)]) (rest := []) ⟨hx, hb, hml, hown, hts⟩ (q_asksProtest l dC dI cT ad E6 H.size a0 (0 : Int32) (xi (E 0) 1) hI) (cwV 3 hts (gi_V (in_30 _ (List.mem_of_getElem? (i := 25) rfl)) (in_30 _ (List.mem_of_getElem? (i := 26) rfl)) (in_30 _ (List.mem_of_getElem? (i := 27) rfl)) (in_24 _ (List.mem_of_getElem? (i := 15) rfl)) (in_25 _ (List.mem_of_getElem? (i := 0) rfl))) rfl rfl rfl (by decide +kernel) ⟨Nat.le_of_ble_eq_true rfl, Nat.le_of_ble_eq_true rfl⟩) ⟨HW_bl, va_recv hK hP (ci := 14) (q0 := 0) rfl (hI.ob 0 (Nat.le_of_ble_eq_true rfl) rfl), (HW_wi hP hK (WX_D hD) hS hA hEV)⟩ rfl rfl hl.1 rfl (lv_room (Nat.le_of_ble_eq_true rfl)) dX13_decide_37 ⟨Nat.le_of_ble_eq_true rfl, Nat.le_of_ble_eq_true rfl⟩) (WX_D hD) hS hA (fun r24 E25 H locs hw hP hS => ?_)
        obtain ⟨hI, kq26, hw⟩ := hw
        have hKb := hKp
        have hKp := hKp.tr kq26 (wl_sub rfl rfl)
        rcases hw with hw | hw
        · -- asksProtest, case 0
          obtain ⟨rfl, f27, f28⟩ := hw
          refine lv_istore_n (lv' := [(2, .int 1), (0, .ref (ad 0)), (1, .int a0)]) hx hb dX13_decide_40 rfl hl (by decide) rfl (fun ls hl => ?_)
          refine lv_iconst (v := 2) hx hb dX13_decide_41 (by decide) ?_
          refine lv_iload_n hx hb dX13_decide_42 rfl (lv_at hl 2 rfl) ?_
          refine lv_imul hx hb dX13_decide_43 ?_
          refine lv_topi (fun y29 ey29 => ?_)
          obtain ⟨ty29, iy29⟩ := ti_mul (e := 0) (f := 58) ln_2 i15 ey29 (by decide)
          have ty29 : y29.toInt = 2 * a0.toInt := ty29
          have iy29 : 0 ≤ y29.toInt ∧ y29.toInt ≤ 58 := iy29
          refine lv_aload_n hx hb dX13_decide_44 rfl (lv_at hl 1 rfl) ?_
          refine th_get (ci := 14) (C := RX13) (T := TX13) (N := 97) (v := .ref (ad 54)) hx hb hts hinX13 hown hK hP hI 0 (Nat.le_of_ble_eq_true rfl) rfl rfl 72 (Nat.le_of_ble_eq_true rfl) (hts _ (vA_in _ _ (in_28 _ (List.mem_of_getElem? (i := 5) rfl)))) (fun _ h9 => h9) (hI.fr 0 (Nat.le_of_ble_eq_true rfl) rfl (Nat.le_of_ble_eq_true rfl) 54 rfl) dX13_decide_45 ?_
          refine lv_iload_n hx hb dX13_decide_48 rfl (lv_at hl 2 rfl) ?_
          have n31 : vp_in a0 30 := (iv_in (n := 30) i15 (by decide))
          refine th_iald hx hb hK hP hI 54 (Nat.le_of_ble_eq_true rfl) rfl rfl n31 dX13_decide_49 (fun y30 ey30 => ?_)
          have iy30 : 0 ≤ y30.toInt ∧ y30.toInt ≤ 2 := hI.el 54 (Nat.le_of_ble_eq_true rfl) rfl n31 (fun _ => rfl) ey30
          have ey30 := ey30.trans (congrFun ((kq26.ef 54 (fun _ => rfl)).trans ((pw7.ef 54 (Nat.ne_of_beq_eq_false rfl)).trans hg2)) _)
          refine lv_iadd hx hb dX13_decide_50 ?_
          refine lv_topi (fun y32 ey32 => ?_)
          obtain ⟨ty32, iy32⟩ := ti_add (e := 0) (f := 60) iy29 iy30 ey32 (by decide)
          have ty32 : y32.toInt = y29.toInt + y30.toInt := ty32
          have iy32 : 0 ≤ y32.toInt ∧ y32.toInt ≤ 60 := iy32
          have d1 : y30.toInt ≤ 1 := by rw [ey30]; exact hDI _ (by rw [← ey18]; exact c20)
          have i33 : 0 ≤ y32.toInt ∧ y32.toInt ≤ 59 := by omega
          refine lv_istore_n (lv' := [(3, .int y32), (2, .int 1), (0, .ref (ad 0)), (1, .int a0)]) hx hb dX13_decide_51 rfl hl (by decide) rfl (fun ls hl => ?_)
          refine lv_aload_n hx hb dX13_decide_52 rfl (lv_at hl 2 rfl) ?_
          refine th_get (ci := 14) (C := RX13) (T := TX13) (N := 97) (v := .ref (ad 51)) hx hb hts hinX13 hown hK hP hI 0 (Nat.le_of_ble_eq_true rfl) rfl rfl 69 (Nat.le_of_ble_eq_true rfl) (hts _ (vA_in _ _ (in_28 _ (List.mem_of_getElem? (i := 6) rfl)))) (fun _ h9 => h9) (hI.fr 0 (Nat.le_of_ble_eq_true rfl) rfl (Nat.le_of_ble_eq_true rfl) 51 rfl) dX13_decide_53 ?_
          refine lv_iload_n hx hb dX13_decide_56 rfl (lv_at hl 0 rfl) ?_
          refine lv_aload_n hx hb dX13_decide_57 rfl (lv_at hl 2 rfl) ?_
          refine lv_iload_n hx hb dX13_decide_58 rfl (lv_at hl 3 rfl) ?_
          refine lv_iconst (v := 0) hx hb dX13_decide_59 (by decide) ?_
          refine lv_aload_n hx hb dX13_decide_60 rfl (lv_at hl 2 rfl) ?_
          refine th_get (ci := 14) (C := RX13) (T := TX13) (N := 97) (v := .int (xi (E 0) 1)) hx hb hts hinX13 hown hK hP hI 0 (Nat.le_of_ble_eq_true rfl) rfl rfl 1 (Nat.le_of_ble_eq_true rfl) (hts _ (vA_in _ _ (in_24 _ (List.mem_of_getElem? (i := 27) rfl)))) (fun _ h9 => h9) (th_v0 hKp hI0 0 (Nat.le_of_ble_eq_true rfl) rfl (Nat.le_of_ble_eq_true rfl) rfl rfl) dX13_decide_61 ?_
          refine th_i (va_runV (As := [.int a0, .int 0, .int (xi (E 0) 1)]) (rest := [.int y32, .ref (ad 51)]) ⟨hx, hb, hml, hown, hts⟩ (q_findingOf l dC dI cT ad E25 H.size a0 (0 : Int32) (xi (E 0) 1) hI i15) (cwV 3 hts (gi_V (in_30 _ (List.mem_of_getElem? (i := 28) rfl)) (in_30 _ (List.mem_of_getElem? (i := 29) rfl)) (in_30 _ (List.mem_of_getElem? (i := 30) rfl)) (in_24 _ (List.mem_of_getElem? (i := 15) rfl)) (in_30 _ (List.mem_of_getElem? (i := 31) rfl))) rfl rfl rfl (by decide +kernel) ⟨Nat.le_of_ble_eq_true rfl, Nat.le_of_ble_eq_true rfl⟩) ⟨HW_bl, va_recv hK hP (ci := 14) (q0 := 0) rfl (hI.ob 0 (Nat.le_of_ble_eq_true rfl) rfl), (HW_wi hP hK (WX_D hD) hS hA hEV)⟩ rfl rfl hl.1 rfl (lv_room (Nat.le_of_ble_eq_true rfl)) dX13_decide_64 ⟨Nat.le_of_ble_eq_true rfl, Nat.le_of_ble_eq_true rfl⟩) (WX_D hD) hS hA (fun r34 E35 H locs hw hP hS => ?_)
          obtain ⟨hI, kq36, hw⟩ := hw
          have hKb := hKp
          have hKp := hKp.tr kq36 (wl_sub rfl rfl)
          refine lv_iconst (v := 1) hx hb dX13_decide_67 (by decide) ?_
          refine lv_icmp_ne (tgt := 75) hx hb dX13_decide_68 (by decide) (fun c37 => ?_) (fun c37 => ?_)
          · --68 taken
            have t38 : ¬ r34.toInt = 1 := ti_ne c37
            refine lv_iconst (v := 0) hx hb dX13_decide_75 (by decide) ?_
            refine lv_aload_n hx hb dX13_decide_76 rfl (lv_at hl 2 rfl) ?_
            refine lv_iload_n hx hb dX13_decide_77 rfl (lv_at hl 3 rfl) ?_
            refine lv_iconst (v := 1) hx hb dX13_decide_78 (by decide) ?_
            refine lv_aload_n hx hb dX13_decide_79 rfl (lv_at hl 2 rfl) ?_
            refine th_get (ci := 14) (C := RX13) (T := TX13) (N := 97) (v := .int (xi (E 0) 1)) hx hb hts hinX13 hown hK hP hI 0 (Nat.le_of_ble_eq_true rfl) rfl rfl 1 (Nat.le_of_ble_eq_true rfl) (hts _ (vA_in _ _ (in_24 _ (List.mem_of_getElem? (i := 27) rfl)))) (fun _ h9 => h9) (th_v0 hKp hI0 0 (Nat.le_of_ble_eq_true rfl) rfl (Nat.le_of_ble_eq_true rfl) rfl rfl) dX13_decide_80 ?_
            refine th_i (va_runV (As := [.int a0, .int 1, .int (xi (E 0) 1)]) (rest := [.int 0, .int y32, .ref (ad 51)]) ⟨hx, hb, hml, hown, hts⟩ (q_findingOf l dC dI cT ad E35 H.size a0 (1 : Int32) (xi (E 0) 1) hI i15) (cwV 3 hts (gi_V (in_30 _ (List.mem_of_getElem? (i := 28) rfl)) (in_30 _ (List.mem_of_getElem? (i := 29) rfl)) (in_30 _ (List.mem_of_getElem? (i := 30) rfl)) (in_24 _ (List.mem_of_getElem? (i := 15) rfl)) (in_30 _ (List.mem_of_getElem? (i := 31) rfl))) rfl rfl rfl (by decide +kernel) ⟨Nat.le_of_ble_eq_true rfl, Nat.le_of_ble_eq_true rfl⟩) ⟨HW_bl, va_recv hK hP (ci := 14) (q0 := 0) rfl (hI.ob 0 (Nat.le_of_ble_eq_true rfl) rfl), (HW_wi hP hK (WX_D hD) hS hA hEV)⟩ rfl rfl hl.1 rfl (lv_room (Nat.le_of_ble_eq_true rfl)) dX13_decide_83 ⟨Nat.le_of_ble_eq_true rfl, Nat.le_of_ble_eq_true rfl⟩) (WX_D hD) hS hA (fun r39 E40 H locs hw hP hS => ?_)
            obtain ⟨hI, kq41, hw⟩ := hw
            have hKb := hKp
            have hKp := hKp.tr kq41 (wl_sub rfl rfl)
            refine lv_iconst (v := 1) hx hb dX13_decide_86 (by decide) ?_
            refine lv_icmp_ne (tgt := 94) hx hb dX13_decide_87 (by decide) (fun c42 => ?_) (fun c42 => ?_)
            · --87 taken
              have t43 : ¬ r39.toInt = 1 := ti_ne c42
              refine lv_iconst (v := 0) hx hb dX13_decide_94 (by decide) ?_
              refine lv_iadd hx hb dX13_decide_95 ?_
              refine lv_topi (fun y44 ey44 => ?_)
              obtain rfl : (0 : Int32) = y44 := (ey44.trans (by decide)).symm
              have n45 : vp_in y32 60 := (iv_in (n := 60) i33 (by decide))
              refine th_iast hx hb hK hP (WX_D hD) hS hI 51 (Nat.le_of_ble_eq_true rfl) rfl rfl n45 (okI rfl (iv_w ln_0 (by decide))) dX13_decide_96 (fun H locs E46 pw47 hI hP hS => ?_)
              have hKp := hKp.pw pw47 rfl
              obtain ⟨g48, eg48⟩ : ∃ z : Nat → Int32, z = upd g3 y32.toNatClampNeg (0 : Int32) := ⟨_, rfl⟩
              have hg48 : xi (E46 51) = g48 := by rw [pw47.eu, ((kq41.ef 51 (fun _ => rfl)).trans ((kq36.ef 51 (fun _ => rfl)).trans ((kq26.ef 51 (fun _ => rfl)).trans ((pw7.ef 51 (Nat.ne_of_beq_eq_false rfl)).trans hg3)))), eg48]
              refine lv_aload_n hx hb dX13_decide_97 rfl (lv_at hl 2 rfl) ?_
              refine th_get (ci := 14) (C := RX13) (T := TX13) (N := 97) (v := .ref (ad 52)) hx hb hts hinX13 hown hK hP hI 0 (Nat.le_of_ble_eq_true rfl) rfl rfl 70 (Nat.le_of_ble_eq_true rfl) (hts _ (vA_in _ _ (in_28 _ (List.mem_of_getElem? (i := 7) rfl)))) (fun _ h9 => h9) (hI.fr 0 (Nat.le_of_ble_eq_true rfl) rfl (Nat.le_of_ble_eq_true rfl) 52 rfl) dX13_decide_98 ?_
              refine lv_iload_n hx hb dX13_decide_101 rfl (lv_at hl 0 rfl) ?_
              refine lv_aload_n hx hb dX13_decide_102 rfl (lv_at hl 2 rfl) ?_
              refine th_get (ci := 14) (C := RX13) (T := TX13) (N := 97) (v := .int (xi (E 0) 1)) hx hb hts hinX13 hown hK hP hI 0 (Nat.le_of_ble_eq_true rfl) rfl rfl 1 (Nat.le_of_ble_eq_true rfl) (hts _ (vA_in _ _ (in_24 _ (List.mem_of_getElem? (i := 27) rfl)))) (fun _ h9 => h9) (th_v0 hKp hI0 0 (Nat.le_of_ble_eq_true rfl) rfl (Nat.le_of_ble_eq_true rfl) rfl rfl) dX13_decide_103 ?_
              have n49 : vp_in y32 60 := (iv_in (n := 60) i33 (by decide))
              refine th_iast hx hb hK hP (WX_D hD) hS hI 52 (Nat.le_of_ble_eq_true rfl) rfl rfl n49 (okI rfl i23) dX13_decide_106 (fun H locs E50 pw51 hI hP hS => ?_)
              have hKp := hKp.pw pw51 rfl
              obtain ⟨g52, eg52⟩ : ∃ z : Nat → Int32, z = upd g4 y32.toNatClampNeg (xi (E 0) 1) := ⟨_, rfl⟩
              have hg52 : xi (E50 52) = g52 := by rw [pw51.eu, ((pw47.ef 52 (Nat.ne_of_beq_eq_false rfl)).trans ((kq41.ef 52 (fun _ => rfl)).trans ((kq36.ef 52 (fun _ => rfl)).trans ((kq26.ef 52 (fun _ => rfl)).trans ((pw7.ef 52 (Nat.ne_of_beq_eq_false rfl)).trans hg4))))), eg52]
              refine lv_aload_n hx hb dX13_decide_107 rfl (lv_at hl 2 rfl) ?_
              refine th_get (ci := 14) (C := RX13) (T := TX13) (N := 97) (v := .ref (ad 53)) hx hb hts hinX13 hown hK hP hI 0 (Nat.le_of_ble_eq_true rfl) rfl rfl 71 (Nat.le_of_ble_eq_true rfl) (hts _ (vA_in _ _ (in_28 _ (List.mem_of_getElem? (i := 8) rfl)))) (fun _ h9 => h9) (hI.fr 0 (Nat.le_of_ble_eq_true rfl) rfl (Nat.le_of_ble_eq_true rfl) 53 rfl) dX13_decide_108 ?_
              refine lv_iload_n hx hb dX13_decide_111 rfl (lv_at hl 0 rfl) ?_
              refine lv_sipush (v := 1000) hx hb dX13_decide_112 (by decide) ?_
              have n53 : vp_in y32 60 := (iv_in (n := 60) i33 (by decide))
              refine th_iast hx hb hK hP (WX_D hD) hS hI 53 (Nat.le_of_ble_eq_true rfl) rfl rfl n53 (okI rfl (iv_w ln_1000 (by decide))) dX13_decide_115 (fun H locs E54 pw55 hI hP hS => ?_)
              have hKp := hKp.pw pw55 rfl
              obtain ⟨g56, eg56⟩ : ∃ z : Nat → Int32, z = upd g5 y32.toNatClampNeg (1000 : Int32) := ⟨_, rfl⟩
              have hg56 : xi (E54 53) = g56 := by rw [pw55.eu, ((pw51.ef 53 (Nat.ne_of_beq_eq_false rfl)).trans ((pw47.ef 53 (Nat.ne_of_beq_eq_false rfl)).trans ((kq41.ef 53 (fun _ => rfl)).trans ((kq36.ef 53 (fun _ => rfl)).trans ((kq26.ef 53 (fun _ => rfl)).trans ((pw7.ef 53 (Nat.ne_of_beq_eq_false rfl)).trans hg5)))))), eg56]
              refine lv_aload_n hx hb dX13_decide_116 rfl (lv_at hl 2 rfl) ?_
              refine th_get (ci := 14) (C := RX13) (T := TX13) (N := 97) (v := .ref (ad 54)) hx hb hts hinX13 hown hK hP hI 0 (Nat.le_of_ble_eq_true rfl) rfl rfl 72 (Nat.le_of_ble_eq_true rfl) (hts _ (vA_in _ _ (in_28 _ (List.mem_of_getElem? (i := 5) rfl)))) (fun _ h9 => h9) (hI.fr 0 (Nat.le_of_ble_eq_true rfl) rfl (Nat.le_of_ble_eq_true rfl) 54 rfl) dX13_decide_117 ?_
              refine lv_iload_n hx hb dX13_decide_120 rfl (lv_at hl 3 rfl) ?_
              refine lv_dup2_11 hx hb dX13_decide_121 rfl rfl ?_
              have n58 : vp_in a0 30 := (iv_in (n := 30) i15 (by decide))
              refine th_iald hx hb hK hP hI 54 (Nat.le_of_ble_eq_true rfl) rfl rfl n58 dX13_decide_122 (fun y57 ey57 => ?_)
              have iy57 : 0 ≤ y57.toInt ∧ y57.toInt ≤ 2 := hI.el 54 (Nat.le_of_ble_eq_true rfl) rfl n58 (fun _ => rfl) ey57
              have ey57 := ey57.trans (congrFun ((pw55.ef 54 (Nat.ne_of_beq_eq_false rfl)).trans ((pw51.ef 54 (Nat.ne_of_beq_eq_false rfl)).trans ((pw47.ef 54 (Nat.ne_of_beq_eq_false rfl)).trans ((kq41.ef 54 (fun _ => rfl)).trans ((kq36.ef 54 (fun _ => rfl)).trans ((kq26.ef 54 (fun _ => rfl)).trans ((pw7.ef 54 (Nat.ne_of_beq_eq_false rfl)).trans hg2))))))) _)
              have d2 : y57.toInt ≤ 1 := by rw [ey57, ← ey30]; exact d1
              refine lv_iconst (v := 1) hx hb dX13_decide_123 (by decide) ?_
              refine lv_iadd hx hb dX13_decide_124 ?_
              refine lv_topi (fun y59 ey59 => ?_)
              obtain ⟨ty59, iy59⟩ := ti_add (e := 1) (f := 3) iy57 ln_1 ey59 (by decide)
              have ty59 : y59.toInt = y57.toInt + 1 := ty59
              have iy59 : 1 ≤ y59.toInt ∧ y59.toInt ≤ 3 := iy59
              have n60 : vp_in a0 30 := (iv_in (n := 30) i15 (by decide))
              have i63 : 1 ≤ y59.toInt ∧ y59.toInt ≤ 2 := by omega
              refine th_iast hx hb hK hP (WX_D hD) hS hI 54 (Nat.le_of_ble_eq_true rfl) rfl rfl n60 (okI rfl (iv_w i63 (by decide))) dX13_decide_125 (fun H locs E61 pw62 hI hP hS => ?_)
              have hKp := hKp.pw pw62 rfl
              obtain ⟨g64, eg64⟩ : ∃ z : Nat → Int32, z = upd g2 a0.toNatClampNeg y59 := ⟨_, rfl⟩
              have hg64 : xi (E61 54) = g64 := by rw [pw62.eu, ((pw55.ef 54 (Nat.ne_of_beq_eq_false rfl)).trans ((pw51.ef 54 (Nat.ne_of_beq_eq_false rfl)).trans ((pw47.ef 54 (Nat.ne_of_beq_eq_false rfl)).trans ((kq41.ef 54 (fun _ => rfl)).trans ((kq36.ef 54 (fun _ => rfl)).trans ((kq26.ef 54 (fun _ => rfl)).trans ((pw7.ef 54 (Nat.ne_of_beq_eq_false rfl)).trans hg2))))))), eg64]
              refine lv_aload_n hx hb dX13_decide_126 rfl (lv_at hl 2 rfl) ?_
              refine th_get (ci := 14) (C := RX13) (T := TX13) (N := 97) (v := .ref (ad 55)) hx hb hts hinX13 hown hK hP hI 0 (Nat.le_of_ble_eq_true rfl) rfl rfl 73 (Nat.le_of_ble_eq_true rfl) (hts _ (vA_in _ _ (in_30 _ (List.mem_of_getElem? (i := 24) rfl)))) (fun _ h9 => h9) (hI.fr 0 (Nat.le_of_ble_eq_true rfl) rfl (Nat.le_of_ble_eq_true rfl) 55 rfl) dX13_decide_127 ?_
              refine lv_iload_n hx hb dX13_decide_130 rfl (lv_at hl 3 rfl) ?_
              refine lv_iconst (v := 1) hx hb dX13_decide_131 (by decide) ?_
              have n65 : vp_in a0 30 := (iv_in (n := 30) i15 (by decide))
              refine th_zast hx hb hK hP (WX_D hD) hS hI 55 (Nat.le_of_ble_eq_true rfl) rfl rfl n65 (iv_w ln_1 (by decide)) (okI rfl (iv_w ln_1 (by decide))) dX13_decide_132 (fun H locs E66 pw67 hI hP hS => ?_)
              have hKp := hKp.pw pw67 rfl
              obtain ⟨g68, eg68⟩ : ∃ z : Nat → Int32, z = upd g1 a0.toNatClampNeg (1 : Int32) := ⟨_, rfl⟩
              have hg68 : xi (E66 55) = g68 := by rw [pw67.eu, ((pw62.ef 55 (Nat.ne_of_beq_eq_false rfl)).trans ((pw55.ef 55 (Nat.ne_of_beq_eq_false rfl)).trans ((pw51.ef 55 (Nat.ne_of_beq_eq_false rfl)).trans ((pw47.ef 55 (Nat.ne_of_beq_eq_false rfl)).trans ((kq41.ef 55 (fun _ => rfl)).trans ((kq36.ef 55 (fun _ => rfl)).trans ((kq26.ef 55 (fun _ => rfl)).trans ((pw7.ef 55 (Nat.ne_of_beq_eq_false rfl)).trans hg1)))))))), eg68]
              refine lv_aload_n hx hb dX13_decide_133 rfl (lv_at hl 2 rfl) ?_
              refine th_get (ci := 14) (C := RX13) (T := TX13) (N := 97) (v := .ref (ad 51)) hx hb hts hinX13 hown hK hP hI 0 (Nat.le_of_ble_eq_true rfl) rfl rfl 69 (Nat.le_of_ble_eq_true rfl) (hts _ (vA_in _ _ (in_28 _ (List.mem_of_getElem? (i := 6) rfl)))) (fun _ h9 => h9) (hI.fr 0 (Nat.le_of_ble_eq_true rfl) rfl (Nat.le_of_ble_eq_true rfl) 51 rfl) dX13_decide_134 ?_
              refine lv_iload_n hx hb dX13_decide_137 rfl (lv_at hl 0 rfl) ?_
              have n70 : vp_in y32 60 := (iv_in (n := 60) i33 (by decide))
              refine th_iald hx hb hK hP hI 51 (Nat.le_of_ble_eq_true rfl) rfl rfl n70 dX13_decide_138 (fun y69 ey69 => ?_)
              have iy69 : 0 ≤ y69.toInt ∧ y69.toInt ≤ 3 := hI.el 51 (Nat.le_of_ble_eq_true rfl) rfl n70 (fun _ => rfl) ey69
              have ey69 := ey69.trans (congrFun ((pw67.ef 51 (Nat.ne_of_beq_eq_false rfl)).trans ((pw62.ef 51 (Nat.ne_of_beq_eq_false rfl)).trans ((pw55.ef 51 (Nat.ne_of_beq_eq_false rfl)).trans ((pw51.ef 51 (Nat.ne_of_beq_eq_false rfl)).trans hg48)))) _)
              rw [hQ]
              exact W.iret (v := y69) hx hb hr (fun t ht hW => ⟨⟨y69, E66, rfl, ⟨hI, hKp, Or.inl ⟨iy69, by rw [(show xi (E 55) = g1 from hg1)]; have gy18 := congrArg Int32.toInt ey18; all_goals omega, ⟨(show xi (E66 55) = g68 from hg68).trans (by rw [eg68, (show xi (E 55) = g1 from hg1)]), (show xi (E66 54) = g64 from ((pw67.ef 54 (Nat.ne_of_beq_eq_false rfl)).trans hg64)).trans (by rw [eg64, (show xi (E 54) = g2 from hg2)]; congr 1; rw [← ey57]; exact ey59), (show xi (E66 51) = g48 from ((pw67.ef 51 (Nat.ne_of_beq_eq_false rfl)).trans ((pw62.ef 51 (Nat.ne_of_beq_eq_false rfl)).trans ((pw55.ef 51 (Nat.ne_of_beq_eq_false rfl)).trans ((pw51.ef 51 (Nat.ne_of_beq_eq_false rfl)).trans hg48))))).trans (by rw [show g48 = upd g3 y32.toNatClampNeg y69 from by rw [ey69, eg48, pk_us], (show xi (E 51) = g3 from hg3), ← (show y32.toNatClampNeg = (2 * a0.toInt + (xi (E 54) a0.toNatClampNeg).toInt).toNat by rw [(show xi (E 54) = g2 from hg2), ← ey30, tn_]; omega)]), (show xi (E66 52) = g52 from ((pw67.ef 52 (Nat.ne_of_beq_eq_false rfl)).trans ((pw62.ef 52 (Nat.ne_of_beq_eq_false rfl)).trans ((pw55.ef 52 (Nat.ne_of_beq_eq_false rfl)).trans hg52)))).trans (by rw [eg52, (show xi (E 52) = g4 from hg4), ← (show y32.toNatClampNeg = (2 * a0.toInt + (xi (E 54) a0.toNatClampNeg).toInt).toNat by rw [(show xi (E 54) = g2 from hg2), ← ey30, tn_]; omega)]), (show xi (E66 53) = g56 from ((pw67.ef 53 (Nat.ne_of_beq_eq_false rfl)).trans ((pw62.ef 53 (Nat.ne_of_beq_eq_false rfl)).trans hg56))).trans (by rw [eg56, (show xi (E 53) = g5 from hg5), ← (show y32.toNatClampNeg = (2 * a0.toInt + (xi (E 54) a0.toNatClampNeg).toInt).toNat by rw [(show xi (E 54) = g2 from hg2), ← ey30, tn_]; omega)])⟩, by rw [(show xi (E66 55) = g68 from hg68), (show xi (E66 54) = g64 from ((pw67.ef 54 (Nat.ne_of_beq_eq_false rfl)).trans hg64))]; rw [eg68, eg64]; exact DIr_upd hDI⟩⟩, by show va_P (dC, dI) vwCl (WX 72 ad E66) t.heap; rw [ht]; exact hP⟩, hS.F ht⟩) hS.2.2 dX13_decide_139
            · --87 not
              have t71 : r39.toInt = 1 := ti_eq c42
              have i72 : 1 ≤ r39.toInt ∧ r39.toInt ≤ 1 := iv_eqi t71 (iv_all _) (il_ 1) (by decide)
              refine lv_iconst (v := 2) hx hb dX13_decide_90 (by decide) ?_
              refine lv_goto (tgt := 95) hx hb dX13_decide_91 (by decide) ?_
              refine lv_iadd hx hb dX13_decide_95 ?_
              refine lv_topi (fun y73 ey73 => ?_)
              obtain rfl : (2 : Int32) = y73 := (ey73.trans (by decide)).symm
              have n74 : vp_in y32 60 := (iv_in (n := 60) i33 (by decide))
              refine th_iast hx hb hK hP (WX_D hD) hS hI 51 (Nat.le_of_ble_eq_true rfl) rfl rfl n74 (okI rfl (iv_w ln_2 (by decide))) dX13_decide_96 (fun H locs E75 pw76 hI hP hS => ?_)
              have hKp := hKp.pw pw76 rfl
              obtain ⟨g77, eg77⟩ : ∃ z : Nat → Int32, z = upd g3 y32.toNatClampNeg (2 : Int32) := ⟨_, rfl⟩
              have hg77 : xi (E75 51) = g77 := by rw [pw76.eu, ((kq41.ef 51 (fun _ => rfl)).trans ((kq36.ef 51 (fun _ => rfl)).trans ((kq26.ef 51 (fun _ => rfl)).trans ((pw7.ef 51 (Nat.ne_of_beq_eq_false rfl)).trans hg3)))), eg77]
              refine lv_aload_n hx hb dX13_decide_97 rfl (lv_at hl 2 rfl) ?_
              refine th_get (ci := 14) (C := RX13) (T := TX13) (N := 97) (v := .ref (ad 52)) hx hb hts hinX13 hown hK hP hI 0 (Nat.le_of_ble_eq_true rfl) rfl rfl 70 (Nat.le_of_ble_eq_true rfl) (hts _ (vA_in _ _ (in_28 _ (List.mem_of_getElem? (i := 7) rfl)))) (fun _ h9 => h9) (hI.fr 0 (Nat.le_of_ble_eq_true rfl) rfl (Nat.le_of_ble_eq_true rfl) 52 rfl) dX13_decide_98 ?_
              refine lv_iload_n hx hb dX13_decide_101 rfl (lv_at hl 0 rfl) ?_
              refine lv_aload_n hx hb dX13_decide_102 rfl (lv_at hl 2 rfl) ?_
              refine th_get (ci := 14) (C := RX13) (T := TX13) (N := 97) (v := .int (xi (E 0) 1)) hx hb hts hinX13 hown hK hP hI 0 (Nat.le_of_ble_eq_true rfl) rfl rfl 1 (Nat.le_of_ble_eq_true rfl) (hts _ (vA_in _ _ (in_24 _ (List.mem_of_getElem? (i := 27) rfl)))) (fun _ h9 => h9) (th_v0 hKp hI0 0 (Nat.le_of_ble_eq_true rfl) rfl (Nat.le_of_ble_eq_true rfl) rfl rfl) dX13_decide_103 ?_
              have n78 : vp_in y32 60 := (iv_in (n := 60) i33 (by decide))
              refine th_iast hx hb hK hP (WX_D hD) hS hI 52 (Nat.le_of_ble_eq_true rfl) rfl rfl n78 (okI rfl i23) dX13_decide_106 (fun H locs E79 pw80 hI hP hS => ?_)
              have hKp := hKp.pw pw80 rfl
              obtain ⟨g81, eg81⟩ : ∃ z : Nat → Int32, z = upd g4 y32.toNatClampNeg (xi (E 0) 1) := ⟨_, rfl⟩
              have hg81 : xi (E79 52) = g81 := by rw [pw80.eu, ((pw76.ef 52 (Nat.ne_of_beq_eq_false rfl)).trans ((kq41.ef 52 (fun _ => rfl)).trans ((kq36.ef 52 (fun _ => rfl)).trans ((kq26.ef 52 (fun _ => rfl)).trans ((pw7.ef 52 (Nat.ne_of_beq_eq_false rfl)).trans hg4))))), eg81]
              refine lv_aload_n hx hb dX13_decide_107 rfl (lv_at hl 2 rfl) ?_
              refine th_get (ci := 14) (C := RX13) (T := TX13) (N := 97) (v := .ref (ad 53)) hx hb hts hinX13 hown hK hP hI 0 (Nat.le_of_ble_eq_true rfl) rfl rfl 71 (Nat.le_of_ble_eq_true rfl) (hts _ (vA_in _ _ (in_28 _ (List.mem_of_getElem? (i := 8) rfl)))) (fun _ h9 => h9) (hI.fr 0 (Nat.le_of_ble_eq_true rfl) rfl (Nat.le_of_ble_eq_true rfl) 53 rfl) dX13_decide_108 ?_
              refine lv_iload_n hx hb dX13_decide_111 rfl (lv_at hl 0 rfl) ?_
              refine lv_sipush (v := 1000) hx hb dX13_decide_112 (by decide) ?_
              have n82 : vp_in y32 60 := (iv_in (n := 60) i33 (by decide))
              refine th_iast hx hb hK hP (WX_D hD) hS hI 53 (Nat.le_of_ble_eq_true rfl) rfl rfl n82 (okI rfl (iv_w ln_1000 (by decide))) dX13_decide_115 (fun H locs E83 pw84 hI hP hS => ?_)
              have hKp := hKp.pw pw84 rfl
              obtain ⟨g85, eg85⟩ : ∃ z : Nat → Int32, z = upd g5 y32.toNatClampNeg (1000 : Int32) := ⟨_, rfl⟩
              have hg85 : xi (E83 53) = g85 := by rw [pw84.eu, ((pw80.ef 53 (Nat.ne_of_beq_eq_false rfl)).trans ((pw76.ef 53 (Nat.ne_of_beq_eq_false rfl)).trans ((kq41.ef 53 (fun _ => rfl)).trans ((kq36.ef 53 (fun _ => rfl)).trans ((kq26.ef 53 (fun _ => rfl)).trans ((pw7.ef 53 (Nat.ne_of_beq_eq_false rfl)).trans hg5)))))), eg85]
              refine lv_aload_n hx hb dX13_decide_116 rfl (lv_at hl 2 rfl) ?_
              refine th_get (ci := 14) (C := RX13) (T := TX13) (N := 97) (v := .ref (ad 54)) hx hb hts hinX13 hown hK hP hI 0 (Nat.le_of_ble_eq_true rfl) rfl rfl 72 (Nat.le_of_ble_eq_true rfl) (hts _ (vA_in _ _ (in_28 _ (List.mem_of_getElem? (i := 5) rfl)))) (fun _ h9 => h9) (hI.fr 0 (Nat.le_of_ble_eq_true rfl) rfl (Nat.le_of_ble_eq_true rfl) 54 rfl) dX13_decide_117 ?_
              refine lv_iload_n hx hb dX13_decide_120 rfl (lv_at hl 3 rfl) ?_
              refine lv_dup2_11 hx hb dX13_decide_121 rfl rfl ?_
              have n87 : vp_in a0 30 := (iv_in (n := 30) i15 (by decide))
              refine th_iald hx hb hK hP hI 54 (Nat.le_of_ble_eq_true rfl) rfl rfl n87 dX13_decide_122 (fun y86 ey86 => ?_)
              have iy86 : 0 ≤ y86.toInt ∧ y86.toInt ≤ 2 := hI.el 54 (Nat.le_of_ble_eq_true rfl) rfl n87 (fun _ => rfl) ey86
              have ey86 := ey86.trans (congrFun ((pw84.ef 54 (Nat.ne_of_beq_eq_false rfl)).trans ((pw80.ef 54 (Nat.ne_of_beq_eq_false rfl)).trans ((pw76.ef 54 (Nat.ne_of_beq_eq_false rfl)).trans ((kq41.ef 54 (fun _ => rfl)).trans ((kq36.ef 54 (fun _ => rfl)).trans ((kq26.ef 54 (fun _ => rfl)).trans ((pw7.ef 54 (Nat.ne_of_beq_eq_false rfl)).trans hg2))))))) _)
              have d2 : y86.toInt ≤ 1 := by rw [ey86, ← ey30]; exact d1
              refine lv_iconst (v := 1) hx hb dX13_decide_123 (by decide) ?_
              refine lv_iadd hx hb dX13_decide_124 ?_
              refine lv_topi (fun y88 ey88 => ?_)
              obtain ⟨ty88, iy88⟩ := ti_add (e := 1) (f := 3) iy86 ln_1 ey88 (by decide)
              have ty88 : y88.toInt = y86.toInt + 1 := ty88
              have iy88 : 1 ≤ y88.toInt ∧ y88.toInt ≤ 3 := iy88
              have n89 : vp_in a0 30 := (iv_in (n := 30) i15 (by decide))
              have i92 : 1 ≤ y88.toInt ∧ y88.toInt ≤ 2 := by omega
              refine th_iast hx hb hK hP (WX_D hD) hS hI 54 (Nat.le_of_ble_eq_true rfl) rfl rfl n89 (okI rfl (iv_w i92 (by decide))) dX13_decide_125 (fun H locs E90 pw91 hI hP hS => ?_)
              have hKp := hKp.pw pw91 rfl
              obtain ⟨g93, eg93⟩ : ∃ z : Nat → Int32, z = upd g2 a0.toNatClampNeg y88 := ⟨_, rfl⟩
              have hg93 : xi (E90 54) = g93 := by rw [pw91.eu, ((pw84.ef 54 (Nat.ne_of_beq_eq_false rfl)).trans ((pw80.ef 54 (Nat.ne_of_beq_eq_false rfl)).trans ((pw76.ef 54 (Nat.ne_of_beq_eq_false rfl)).trans ((kq41.ef 54 (fun _ => rfl)).trans ((kq36.ef 54 (fun _ => rfl)).trans ((kq26.ef 54 (fun _ => rfl)).trans ((pw7.ef 54 (Nat.ne_of_beq_eq_false rfl)).trans hg2))))))), eg93]
              refine lv_aload_n hx hb dX13_decide_126 rfl (lv_at hl 2 rfl) ?_
              refine th_get (ci := 14) (C := RX13) (T := TX13) (N := 97) (v := .ref (ad 55)) hx hb hts hinX13 hown hK hP hI 0 (Nat.le_of_ble_eq_true rfl) rfl rfl 73 (Nat.le_of_ble_eq_true rfl) (hts _ (vA_in _ _ (in_30 _ (List.mem_of_getElem? (i := 24) rfl)))) (fun _ h9 => h9) (hI.fr 0 (Nat.le_of_ble_eq_true rfl) rfl (Nat.le_of_ble_eq_true rfl) 55 rfl) dX13_decide_127 ?_
              refine lv_iload_n hx hb dX13_decide_130 rfl (lv_at hl 3 rfl) ?_
              refine lv_iconst (v := 1) hx hb dX13_decide_131 (by decide) ?_
              have n94 : vp_in a0 30 := (iv_in (n := 30) i15 (by decide))
              refine th_zast hx hb hK hP (WX_D hD) hS hI 55 (Nat.le_of_ble_eq_true rfl) rfl rfl n94 (iv_w ln_1 (by decide)) (okI rfl (iv_w ln_1 (by decide))) dX13_decide_132 (fun H locs E95 pw96 hI hP hS => ?_)
              have hKp := hKp.pw pw96 rfl
              obtain ⟨g97, eg97⟩ : ∃ z : Nat → Int32, z = upd g1 a0.toNatClampNeg (1 : Int32) := ⟨_, rfl⟩
              have hg97 : xi (E95 55) = g97 := by rw [pw96.eu, ((pw91.ef 55 (Nat.ne_of_beq_eq_false rfl)).trans ((pw84.ef 55 (Nat.ne_of_beq_eq_false rfl)).trans ((pw80.ef 55 (Nat.ne_of_beq_eq_false rfl)).trans ((pw76.ef 55 (Nat.ne_of_beq_eq_false rfl)).trans ((kq41.ef 55 (fun _ => rfl)).trans ((kq36.ef 55 (fun _ => rfl)).trans ((kq26.ef 55 (fun _ => rfl)).trans ((pw7.ef 55 (Nat.ne_of_beq_eq_false rfl)).trans hg1)))))))), eg97]
              refine lv_aload_n hx hb dX13_decide_133 rfl (lv_at hl 2 rfl) ?_
              refine th_get (ci := 14) (C := RX13) (T := TX13) (N := 97) (v := .ref (ad 51)) hx hb hts hinX13 hown hK hP hI 0 (Nat.le_of_ble_eq_true rfl) rfl rfl 69 (Nat.le_of_ble_eq_true rfl) (hts _ (vA_in _ _ (in_28 _ (List.mem_of_getElem? (i := 6) rfl)))) (fun _ h9 => h9) (hI.fr 0 (Nat.le_of_ble_eq_true rfl) rfl (Nat.le_of_ble_eq_true rfl) 51 rfl) dX13_decide_134 ?_
              refine lv_iload_n hx hb dX13_decide_137 rfl (lv_at hl 0 rfl) ?_
              have n99 : vp_in y32 60 := (iv_in (n := 60) i33 (by decide))
              refine th_iald hx hb hK hP hI 51 (Nat.le_of_ble_eq_true rfl) rfl rfl n99 dX13_decide_138 (fun y98 ey98 => ?_)
              have iy98 : 0 ≤ y98.toInt ∧ y98.toInt ≤ 3 := hI.el 51 (Nat.le_of_ble_eq_true rfl) rfl n99 (fun _ => rfl) ey98
              have ey98 := ey98.trans (congrFun ((pw96.ef 51 (Nat.ne_of_beq_eq_false rfl)).trans ((pw91.ef 51 (Nat.ne_of_beq_eq_false rfl)).trans ((pw84.ef 51 (Nat.ne_of_beq_eq_false rfl)).trans ((pw80.ef 51 (Nat.ne_of_beq_eq_false rfl)).trans hg77)))) _)
              rw [hQ]
              exact W.iret (v := y98) hx hb hr (fun t ht hW => ⟨⟨y98, E95, rfl, ⟨hI, hKp, Or.inl ⟨iy98, by rw [(show xi (E 55) = g1 from hg1)]; have gy18 := congrArg Int32.toInt ey18; all_goals omega, ⟨(show xi (E95 55) = g97 from hg97).trans (by rw [eg97, (show xi (E 55) = g1 from hg1)]), (show xi (E95 54) = g93 from ((pw96.ef 54 (Nat.ne_of_beq_eq_false rfl)).trans hg93)).trans (by rw [eg93, (show xi (E 54) = g2 from hg2)]; congr 1; rw [← ey86]; exact ey88), (show xi (E95 51) = g77 from ((pw96.ef 51 (Nat.ne_of_beq_eq_false rfl)).trans ((pw91.ef 51 (Nat.ne_of_beq_eq_false rfl)).trans ((pw84.ef 51 (Nat.ne_of_beq_eq_false rfl)).trans ((pw80.ef 51 (Nat.ne_of_beq_eq_false rfl)).trans hg77))))).trans (by rw [show g77 = upd g3 y32.toNatClampNeg y98 from by rw [ey98, eg77, pk_us], (show xi (E 51) = g3 from hg3), ← (show y32.toNatClampNeg = (2 * a0.toInt + (xi (E 54) a0.toNatClampNeg).toInt).toNat by rw [(show xi (E 54) = g2 from hg2), ← ey30, tn_]; omega)]), (show xi (E95 52) = g81 from ((pw96.ef 52 (Nat.ne_of_beq_eq_false rfl)).trans ((pw91.ef 52 (Nat.ne_of_beq_eq_false rfl)).trans ((pw84.ef 52 (Nat.ne_of_beq_eq_false rfl)).trans hg81)))).trans (by rw [eg81, (show xi (E 52) = g4 from hg4), ← (show y32.toNatClampNeg = (2 * a0.toInt + (xi (E 54) a0.toNatClampNeg).toInt).toNat by rw [(show xi (E 54) = g2 from hg2), ← ey30, tn_]; omega)]), (show xi (E95 53) = g85 from ((pw96.ef 53 (Nat.ne_of_beq_eq_false rfl)).trans ((pw91.ef 53 (Nat.ne_of_beq_eq_false rfl)).trans hg85))).trans (by rw [eg85, (show xi (E 53) = g5 from hg5), ← (show y32.toNatClampNeg = (2 * a0.toInt + (xi (E 54) a0.toNatClampNeg).toInt).toNat by rw [(show xi (E 54) = g2 from hg2), ← ey30, tn_]; omega)])⟩, by rw [(show xi (E95 55) = g97 from hg97), (show xi (E95 54) = g93 from ((pw96.ef 54 (Nat.ne_of_beq_eq_false rfl)).trans hg93))]; rw [eg97, eg93]; exact DIr_upd hDI⟩⟩, by show va_P (dC, dI) vwCl (WX 72 ad E95) t.heap; rw [ht]; exact hP⟩, hS.F ht⟩) hS.2.2 dX13_decide_139
          · --68 not
            have t100 : r34.toInt = 1 := ti_eq c37
            have i101 : 1 ≤ r34.toInt ∧ r34.toInt ≤ 1 := iv_eqi t100 (iv_all _) (il_ 1) (by decide)
            refine lv_iconst (v := 1) hx hb dX13_decide_71 (by decide) ?_
            refine lv_goto (tgt := 76) hx hb dX13_decide_72 (by decide) ?_
            refine lv_aload_n hx hb dX13_decide_76 rfl (lv_at hl 2 rfl) ?_
            refine lv_iload_n hx hb dX13_decide_77 rfl (lv_at hl 3 rfl) ?_
            refine lv_iconst (v := 1) hx hb dX13_decide_78 (by decide) ?_
            refine lv_aload_n hx hb dX13_decide_79 rfl (lv_at hl 2 rfl) ?_
            refine th_get (ci := 14) (C := RX13) (T := TX13) (N := 97) (v := .int (xi (E 0) 1)) hx hb hts hinX13 hown hK hP hI 0 (Nat.le_of_ble_eq_true rfl) rfl rfl 1 (Nat.le_of_ble_eq_true rfl) (hts _ (vA_in _ _ (in_24 _ (List.mem_of_getElem? (i := 27) rfl)))) (fun _ h9 => h9) (th_v0 hKp hI0 0 (Nat.le_of_ble_eq_true rfl) rfl (Nat.le_of_ble_eq_true rfl) rfl rfl) dX13_decide_80 ?_
            refine th_i (va_runV (As := [.int a0, .int 1, .int (xi (E 0) 1)]) (rest := [.int 1, .int y32, .ref (ad 51)]) ⟨hx, hb, hml, hown, hts⟩ (q_findingOf l dC dI cT ad E35 H.size a0 (1 : Int32) (xi (E 0) 1) hI i15) (cwV 3 hts (gi_V (in_30 _ (List.mem_of_getElem? (i := 28) rfl)) (in_30 _ (List.mem_of_getElem? (i := 29) rfl)) (in_30 _ (List.mem_of_getElem? (i := 30) rfl)) (in_24 _ (List.mem_of_getElem? (i := 15) rfl)) (in_30 _ (List.mem_of_getElem? (i := 31) rfl))) rfl rfl rfl (by decide +kernel) ⟨Nat.le_of_ble_eq_true rfl, Nat.le_of_ble_eq_true rfl⟩) ⟨HW_bl, va_recv hK hP (ci := 14) (q0 := 0) rfl (hI.ob 0 (Nat.le_of_ble_eq_true rfl) rfl), (HW_wi hP hK (WX_D hD) hS hA hEV)⟩ rfl rfl hl.1 rfl (lv_room (Nat.le_of_ble_eq_true rfl)) dX13_decide_83 ⟨Nat.le_of_ble_eq_true rfl, Nat.le_of_ble_eq_true rfl⟩) (WX_D hD) hS hA (fun r102 E103 H locs hw hP hS => ?_)
            obtain ⟨hI, kq104, hw⟩ := hw
            have hKb := hKp
            have hKp := hKp.tr kq104 (wl_sub rfl rfl)
            refine lv_iconst (v := 1) hx hb dX13_decide_86 (by decide) ?_
            refine lv_icmp_ne (tgt := 94) hx hb dX13_decide_87 (by decide) (fun c105 => ?_) (fun c105 => ?_)
            · --87 taken
              have t106 : ¬ r102.toInt = 1 := ti_ne c105
              refine lv_iconst (v := 0) hx hb dX13_decide_94 (by decide) ?_
              refine lv_iadd hx hb dX13_decide_95 ?_
              refine lv_topi (fun y107 ey107 => ?_)
              obtain rfl : (1 : Int32) = y107 := (ey107.trans (by decide)).symm
              have n108 : vp_in y32 60 := (iv_in (n := 60) i33 (by decide))
              refine th_iast hx hb hK hP (WX_D hD) hS hI 51 (Nat.le_of_ble_eq_true rfl) rfl rfl n108 (okI rfl (iv_w ln_1 (by decide))) dX13_decide_96 (fun H locs E109 pw110 hI hP hS => ?_)
              have hKp := hKp.pw pw110 rfl
              obtain ⟨g111, eg111⟩ : ∃ z : Nat → Int32, z = upd g3 y32.toNatClampNeg (1 : Int32) := ⟨_, rfl⟩
              have hg111 : xi (E109 51) = g111 := by rw [pw110.eu, ((kq104.ef 51 (fun _ => rfl)).trans ((kq36.ef 51 (fun _ => rfl)).trans ((kq26.ef 51 (fun _ => rfl)).trans ((pw7.ef 51 (Nat.ne_of_beq_eq_false rfl)).trans hg3)))), eg111]
              refine lv_aload_n hx hb dX13_decide_97 rfl (lv_at hl 2 rfl) ?_
              refine th_get (ci := 14) (C := RX13) (T := TX13) (N := 97) (v := .ref (ad 52)) hx hb hts hinX13 hown hK hP hI 0 (Nat.le_of_ble_eq_true rfl) rfl rfl 70 (Nat.le_of_ble_eq_true rfl) (hts _ (vA_in _ _ (in_28 _ (List.mem_of_getElem? (i := 7) rfl)))) (fun _ h9 => h9) (hI.fr 0 (Nat.le_of_ble_eq_true rfl) rfl (Nat.le_of_ble_eq_true rfl) 52 rfl) dX13_decide_98 ?_
              refine lv_iload_n hx hb dX13_decide_101 rfl (lv_at hl 0 rfl) ?_
              refine lv_aload_n hx hb dX13_decide_102 rfl (lv_at hl 2 rfl) ?_
              refine th_get (ci := 14) (C := RX13) (T := TX13) (N := 97) (v := .int (xi (E 0) 1)) hx hb hts hinX13 hown hK hP hI 0 (Nat.le_of_ble_eq_true rfl) rfl rfl 1 (Nat.le_of_ble_eq_true rfl) (hts _ (vA_in _ _ (in_24 _ (List.mem_of_getElem? (i := 27) rfl)))) (fun _ h9 => h9) (th_v0 hKp hI0 0 (Nat.le_of_ble_eq_true rfl) rfl (Nat.le_of_ble_eq_true rfl) rfl rfl) dX13_decide_103 ?_
              have n112 : vp_in y32 60 := (iv_in (n := 60) i33 (by decide))
              refine th_iast hx hb hK hP (WX_D hD) hS hI 52 (Nat.le_of_ble_eq_true rfl) rfl rfl n112 (okI rfl i23) dX13_decide_106 (fun H locs E113 pw114 hI hP hS => ?_)
              have hKp := hKp.pw pw114 rfl
              obtain ⟨g115, eg115⟩ : ∃ z : Nat → Int32, z = upd g4 y32.toNatClampNeg (xi (E 0) 1) := ⟨_, rfl⟩
              have hg115 : xi (E113 52) = g115 := by rw [pw114.eu, ((pw110.ef 52 (Nat.ne_of_beq_eq_false rfl)).trans ((kq104.ef 52 (fun _ => rfl)).trans ((kq36.ef 52 (fun _ => rfl)).trans ((kq26.ef 52 (fun _ => rfl)).trans ((pw7.ef 52 (Nat.ne_of_beq_eq_false rfl)).trans hg4))))), eg115]
              refine lv_aload_n hx hb dX13_decide_107 rfl (lv_at hl 2 rfl) ?_
              refine th_get (ci := 14) (C := RX13) (T := TX13) (N := 97) (v := .ref (ad 53)) hx hb hts hinX13 hown hK hP hI 0 (Nat.le_of_ble_eq_true rfl) rfl rfl 71 (Nat.le_of_ble_eq_true rfl) (hts _ (vA_in _ _ (in_28 _ (List.mem_of_getElem? (i := 8) rfl)))) (fun _ h9 => h9) (hI.fr 0 (Nat.le_of_ble_eq_true rfl) rfl (Nat.le_of_ble_eq_true rfl) 53 rfl) dX13_decide_108 ?_
              refine lv_iload_n hx hb dX13_decide_111 rfl (lv_at hl 0 rfl) ?_
              refine lv_sipush (v := 1000) hx hb dX13_decide_112 (by decide) ?_
              have n116 : vp_in y32 60 := (iv_in (n := 60) i33 (by decide))
              refine th_iast hx hb hK hP (WX_D hD) hS hI 53 (Nat.le_of_ble_eq_true rfl) rfl rfl n116 (okI rfl (iv_w ln_1000 (by decide))) dX13_decide_115 (fun H locs E117 pw118 hI hP hS => ?_)
              have hKp := hKp.pw pw118 rfl
              obtain ⟨g119, eg119⟩ : ∃ z : Nat → Int32, z = upd g5 y32.toNatClampNeg (1000 : Int32) := ⟨_, rfl⟩
              have hg119 : xi (E117 53) = g119 := by rw [pw118.eu, ((pw114.ef 53 (Nat.ne_of_beq_eq_false rfl)).trans ((pw110.ef 53 (Nat.ne_of_beq_eq_false rfl)).trans ((kq104.ef 53 (fun _ => rfl)).trans ((kq36.ef 53 (fun _ => rfl)).trans ((kq26.ef 53 (fun _ => rfl)).trans ((pw7.ef 53 (Nat.ne_of_beq_eq_false rfl)).trans hg5)))))), eg119]
              refine lv_aload_n hx hb dX13_decide_116 rfl (lv_at hl 2 rfl) ?_
              refine th_get (ci := 14) (C := RX13) (T := TX13) (N := 97) (v := .ref (ad 54)) hx hb hts hinX13 hown hK hP hI 0 (Nat.le_of_ble_eq_true rfl) rfl rfl 72 (Nat.le_of_ble_eq_true rfl) (hts _ (vA_in _ _ (in_28 _ (List.mem_of_getElem? (i := 5) rfl)))) (fun _ h9 => h9) (hI.fr 0 (Nat.le_of_ble_eq_true rfl) rfl (Nat.le_of_ble_eq_true rfl) 54 rfl) dX13_decide_117 ?_
              refine lv_iload_n hx hb dX13_decide_120 rfl (lv_at hl 3 rfl) ?_
              refine lv_dup2_11 hx hb dX13_decide_121 rfl rfl ?_
              have n121 : vp_in a0 30 := (iv_in (n := 30) i15 (by decide))
              refine th_iald hx hb hK hP hI 54 (Nat.le_of_ble_eq_true rfl) rfl rfl n121 dX13_decide_122 (fun y120 ey120 => ?_)
              have iy120 : 0 ≤ y120.toInt ∧ y120.toInt ≤ 2 := hI.el 54 (Nat.le_of_ble_eq_true rfl) rfl n121 (fun _ => rfl) ey120
              have ey120 := ey120.trans (congrFun ((pw118.ef 54 (Nat.ne_of_beq_eq_false rfl)).trans ((pw114.ef 54 (Nat.ne_of_beq_eq_false rfl)).trans ((pw110.ef 54 (Nat.ne_of_beq_eq_false rfl)).trans ((kq104.ef 54 (fun _ => rfl)).trans ((kq36.ef 54 (fun _ => rfl)).trans ((kq26.ef 54 (fun _ => rfl)).trans ((pw7.ef 54 (Nat.ne_of_beq_eq_false rfl)).trans hg2))))))) _)
              have d2 : y120.toInt ≤ 1 := by rw [ey120, ← ey30]; exact d1
              refine lv_iconst (v := 1) hx hb dX13_decide_123 (by decide) ?_
              refine lv_iadd hx hb dX13_decide_124 ?_
              refine lv_topi (fun y122 ey122 => ?_)
              obtain ⟨ty122, iy122⟩ := ti_add (e := 1) (f := 3) iy120 ln_1 ey122 (by decide)
              have ty122 : y122.toInt = y120.toInt + 1 := ty122
              have iy122 : 1 ≤ y122.toInt ∧ y122.toInt ≤ 3 := iy122
              have n123 : vp_in a0 30 := (iv_in (n := 30) i15 (by decide))
              have i126 : 1 ≤ y122.toInt ∧ y122.toInt ≤ 2 := by omega
              refine th_iast hx hb hK hP (WX_D hD) hS hI 54 (Nat.le_of_ble_eq_true rfl) rfl rfl n123 (okI rfl (iv_w i126 (by decide))) dX13_decide_125 (fun H locs E124 pw125 hI hP hS => ?_)
              have hKp := hKp.pw pw125 rfl
              obtain ⟨g127, eg127⟩ : ∃ z : Nat → Int32, z = upd g2 a0.toNatClampNeg y122 := ⟨_, rfl⟩
              have hg127 : xi (E124 54) = g127 := by rw [pw125.eu, ((pw118.ef 54 (Nat.ne_of_beq_eq_false rfl)).trans ((pw114.ef 54 (Nat.ne_of_beq_eq_false rfl)).trans ((pw110.ef 54 (Nat.ne_of_beq_eq_false rfl)).trans ((kq104.ef 54 (fun _ => rfl)).trans ((kq36.ef 54 (fun _ => rfl)).trans ((kq26.ef 54 (fun _ => rfl)).trans ((pw7.ef 54 (Nat.ne_of_beq_eq_false rfl)).trans hg2))))))), eg127]
              refine lv_aload_n hx hb dX13_decide_126 rfl (lv_at hl 2 rfl) ?_
              refine th_get (ci := 14) (C := RX13) (T := TX13) (N := 97) (v := .ref (ad 55)) hx hb hts hinX13 hown hK hP hI 0 (Nat.le_of_ble_eq_true rfl) rfl rfl 73 (Nat.le_of_ble_eq_true rfl) (hts _ (vA_in _ _ (in_30 _ (List.mem_of_getElem? (i := 24) rfl)))) (fun _ h9 => h9) (hI.fr 0 (Nat.le_of_ble_eq_true rfl) rfl (Nat.le_of_ble_eq_true rfl) 55 rfl) dX13_decide_127 ?_
              refine lv_iload_n hx hb dX13_decide_130 rfl (lv_at hl 3 rfl) ?_
              refine lv_iconst (v := 1) hx hb dX13_decide_131 (by decide) ?_
              have n128 : vp_in a0 30 := (iv_in (n := 30) i15 (by decide))
              refine th_zast hx hb hK hP (WX_D hD) hS hI 55 (Nat.le_of_ble_eq_true rfl) rfl rfl n128 (iv_w ln_1 (by decide)) (okI rfl (iv_w ln_1 (by decide))) dX13_decide_132 (fun H locs E129 pw130 hI hP hS => ?_)
              have hKp := hKp.pw pw130 rfl
              obtain ⟨g131, eg131⟩ : ∃ z : Nat → Int32, z = upd g1 a0.toNatClampNeg (1 : Int32) := ⟨_, rfl⟩
              have hg131 : xi (E129 55) = g131 := by rw [pw130.eu, ((pw125.ef 55 (Nat.ne_of_beq_eq_false rfl)).trans ((pw118.ef 55 (Nat.ne_of_beq_eq_false rfl)).trans ((pw114.ef 55 (Nat.ne_of_beq_eq_false rfl)).trans ((pw110.ef 55 (Nat.ne_of_beq_eq_false rfl)).trans ((kq104.ef 55 (fun _ => rfl)).trans ((kq36.ef 55 (fun _ => rfl)).trans ((kq26.ef 55 (fun _ => rfl)).trans ((pw7.ef 55 (Nat.ne_of_beq_eq_false rfl)).trans hg1)))))))), eg131]
              refine lv_aload_n hx hb dX13_decide_133 rfl (lv_at hl 2 rfl) ?_
              refine th_get (ci := 14) (C := RX13) (T := TX13) (N := 97) (v := .ref (ad 51)) hx hb hts hinX13 hown hK hP hI 0 (Nat.le_of_ble_eq_true rfl) rfl rfl 69 (Nat.le_of_ble_eq_true rfl) (hts _ (vA_in _ _ (in_28 _ (List.mem_of_getElem? (i := 6) rfl)))) (fun _ h9 => h9) (hI.fr 0 (Nat.le_of_ble_eq_true rfl) rfl (Nat.le_of_ble_eq_true rfl) 51 rfl) dX13_decide_134 ?_
              refine lv_iload_n hx hb dX13_decide_137 rfl (lv_at hl 0 rfl) ?_
              have n133 : vp_in y32 60 := (iv_in (n := 60) i33 (by decide))
              refine th_iald hx hb hK hP hI 51 (Nat.le_of_ble_eq_true rfl) rfl rfl n133 dX13_decide_138 (fun y132 ey132 => ?_)
              have iy132 : 0 ≤ y132.toInt ∧ y132.toInt ≤ 3 := hI.el 51 (Nat.le_of_ble_eq_true rfl) rfl n133 (fun _ => rfl) ey132
              have ey132 := ey132.trans (congrFun ((pw130.ef 51 (Nat.ne_of_beq_eq_false rfl)).trans ((pw125.ef 51 (Nat.ne_of_beq_eq_false rfl)).trans ((pw118.ef 51 (Nat.ne_of_beq_eq_false rfl)).trans ((pw114.ef 51 (Nat.ne_of_beq_eq_false rfl)).trans hg111)))) _)
              rw [hQ]
              exact W.iret (v := y132) hx hb hr (fun t ht hW => ⟨⟨y132, E129, rfl, ⟨hI, hKp, Or.inl ⟨iy132, by rw [(show xi (E 55) = g1 from hg1)]; have gy18 := congrArg Int32.toInt ey18; all_goals omega, ⟨(show xi (E129 55) = g131 from hg131).trans (by rw [eg131, (show xi (E 55) = g1 from hg1)]), (show xi (E129 54) = g127 from ((pw130.ef 54 (Nat.ne_of_beq_eq_false rfl)).trans hg127)).trans (by rw [eg127, (show xi (E 54) = g2 from hg2)]; congr 1; rw [← ey120]; exact ey122), (show xi (E129 51) = g111 from ((pw130.ef 51 (Nat.ne_of_beq_eq_false rfl)).trans ((pw125.ef 51 (Nat.ne_of_beq_eq_false rfl)).trans ((pw118.ef 51 (Nat.ne_of_beq_eq_false rfl)).trans ((pw114.ef 51 (Nat.ne_of_beq_eq_false rfl)).trans hg111))))).trans (by rw [show g111 = upd g3 y32.toNatClampNeg y132 from by rw [ey132, eg111, pk_us], (show xi (E 51) = g3 from hg3), ← (show y32.toNatClampNeg = (2 * a0.toInt + (xi (E 54) a0.toNatClampNeg).toInt).toNat by rw [(show xi (E 54) = g2 from hg2), ← ey30, tn_]; omega)]), (show xi (E129 52) = g115 from ((pw130.ef 52 (Nat.ne_of_beq_eq_false rfl)).trans ((pw125.ef 52 (Nat.ne_of_beq_eq_false rfl)).trans ((pw118.ef 52 (Nat.ne_of_beq_eq_false rfl)).trans hg115)))).trans (by rw [eg115, (show xi (E 52) = g4 from hg4), ← (show y32.toNatClampNeg = (2 * a0.toInt + (xi (E 54) a0.toNatClampNeg).toInt).toNat by rw [(show xi (E 54) = g2 from hg2), ← ey30, tn_]; omega)]), (show xi (E129 53) = g119 from ((pw130.ef 53 (Nat.ne_of_beq_eq_false rfl)).trans ((pw125.ef 53 (Nat.ne_of_beq_eq_false rfl)).trans hg119))).trans (by rw [eg119, (show xi (E 53) = g5 from hg5), ← (show y32.toNatClampNeg = (2 * a0.toInt + (xi (E 54) a0.toNatClampNeg).toInt).toNat by rw [(show xi (E 54) = g2 from hg2), ← ey30, tn_]; omega)])⟩, by rw [(show xi (E129 55) = g131 from hg131), (show xi (E129 54) = g127 from ((pw130.ef 54 (Nat.ne_of_beq_eq_false rfl)).trans hg127))]; rw [eg131, eg127]; exact DIr_upd hDI⟩⟩, by show va_P (dC, dI) vwCl (WX 72 ad E129) t.heap; rw [ht]; exact hP⟩, hS.F ht⟩) hS.2.2 dX13_decide_139
            · --87 not
              have t134 : r102.toInt = 1 := ti_eq c105
              have i135 : 1 ≤ r102.toInt ∧ r102.toInt ≤ 1 := iv_eqi t134 (iv_all _) (il_ 1) (by decide)
              refine lv_iconst (v := 2) hx hb dX13_decide_90 (by decide) ?_
              refine lv_goto (tgt := 95) hx hb dX13_decide_91 (by decide) ?_
              refine lv_iadd hx hb dX13_decide_95 ?_
              refine lv_topi (fun y136 ey136 => ?_)
              obtain rfl : (3 : Int32) = y136 := (ey136.trans (by decide)).symm
              have n137 : vp_in y32 60 := (iv_in (n := 60) i33 (by decide))
              refine th_iast hx hb hK hP (WX_D hD) hS hI 51 (Nat.le_of_ble_eq_true rfl) rfl rfl n137 (okI rfl (iv_w ln_3 (by decide))) dX13_decide_96 (fun H locs E138 pw139 hI hP hS => ?_)
              have hKp := hKp.pw pw139 rfl
              obtain ⟨g140, eg140⟩ : ∃ z : Nat → Int32, z = upd g3 y32.toNatClampNeg (3 : Int32) := ⟨_, rfl⟩
              have hg140 : xi (E138 51) = g140 := by rw [pw139.eu, ((kq104.ef 51 (fun _ => rfl)).trans ((kq36.ef 51 (fun _ => rfl)).trans ((kq26.ef 51 (fun _ => rfl)).trans ((pw7.ef 51 (Nat.ne_of_beq_eq_false rfl)).trans hg3)))), eg140]
              refine lv_aload_n hx hb dX13_decide_97 rfl (lv_at hl 2 rfl) ?_
              refine th_get (ci := 14) (C := RX13) (T := TX13) (N := 97) (v := .ref (ad 52)) hx hb hts hinX13 hown hK hP hI 0 (Nat.le_of_ble_eq_true rfl) rfl rfl 70 (Nat.le_of_ble_eq_true rfl) (hts _ (vA_in _ _ (in_28 _ (List.mem_of_getElem? (i := 7) rfl)))) (fun _ h9 => h9) (hI.fr 0 (Nat.le_of_ble_eq_true rfl) rfl (Nat.le_of_ble_eq_true rfl) 52 rfl) dX13_decide_98 ?_
              refine lv_iload_n hx hb dX13_decide_101 rfl (lv_at hl 0 rfl) ?_
              refine lv_aload_n hx hb dX13_decide_102 rfl (lv_at hl 2 rfl) ?_
              refine th_get (ci := 14) (C := RX13) (T := TX13) (N := 97) (v := .int (xi (E 0) 1)) hx hb hts hinX13 hown hK hP hI 0 (Nat.le_of_ble_eq_true rfl) rfl rfl 1 (Nat.le_of_ble_eq_true rfl) (hts _ (vA_in _ _ (in_24 _ (List.mem_of_getElem? (i := 27) rfl)))) (fun _ h9 => h9) (th_v0 hKp hI0 0 (Nat.le_of_ble_eq_true rfl) rfl (Nat.le_of_ble_eq_true rfl) rfl rfl) dX13_decide_103 ?_
              have n141 : vp_in y32 60 := (iv_in (n := 60) i33 (by decide))
              refine th_iast hx hb hK hP (WX_D hD) hS hI 52 (Nat.le_of_ble_eq_true rfl) rfl rfl n141 (okI rfl i23) dX13_decide_106 (fun H locs E142 pw143 hI hP hS => ?_)
              have hKp := hKp.pw pw143 rfl
              obtain ⟨g144, eg144⟩ : ∃ z : Nat → Int32, z = upd g4 y32.toNatClampNeg (xi (E 0) 1) := ⟨_, rfl⟩
              have hg144 : xi (E142 52) = g144 := by rw [pw143.eu, ((pw139.ef 52 (Nat.ne_of_beq_eq_false rfl)).trans ((kq104.ef 52 (fun _ => rfl)).trans ((kq36.ef 52 (fun _ => rfl)).trans ((kq26.ef 52 (fun _ => rfl)).trans ((pw7.ef 52 (Nat.ne_of_beq_eq_false rfl)).trans hg4))))), eg144]
              refine lv_aload_n hx hb dX13_decide_107 rfl (lv_at hl 2 rfl) ?_
              refine th_get (ci := 14) (C := RX13) (T := TX13) (N := 97) (v := .ref (ad 53)) hx hb hts hinX13 hown hK hP hI 0 (Nat.le_of_ble_eq_true rfl) rfl rfl 71 (Nat.le_of_ble_eq_true rfl) (hts _ (vA_in _ _ (in_28 _ (List.mem_of_getElem? (i := 8) rfl)))) (fun _ h9 => h9) (hI.fr 0 (Nat.le_of_ble_eq_true rfl) rfl (Nat.le_of_ble_eq_true rfl) 53 rfl) dX13_decide_108 ?_
              refine lv_iload_n hx hb dX13_decide_111 rfl (lv_at hl 0 rfl) ?_
              refine lv_sipush (v := 1000) hx hb dX13_decide_112 (by decide) ?_
              have n145 : vp_in y32 60 := (iv_in (n := 60) i33 (by decide))
              refine th_iast hx hb hK hP (WX_D hD) hS hI 53 (Nat.le_of_ble_eq_true rfl) rfl rfl n145 (okI rfl (iv_w ln_1000 (by decide))) dX13_decide_115 (fun H locs E146 pw147 hI hP hS => ?_)
              have hKp := hKp.pw pw147 rfl
              obtain ⟨g148, eg148⟩ : ∃ z : Nat → Int32, z = upd g5 y32.toNatClampNeg (1000 : Int32) := ⟨_, rfl⟩
              have hg148 : xi (E146 53) = g148 := by rw [pw147.eu, ((pw143.ef 53 (Nat.ne_of_beq_eq_false rfl)).trans ((pw139.ef 53 (Nat.ne_of_beq_eq_false rfl)).trans ((kq104.ef 53 (fun _ => rfl)).trans ((kq36.ef 53 (fun _ => rfl)).trans ((kq26.ef 53 (fun _ => rfl)).trans ((pw7.ef 53 (Nat.ne_of_beq_eq_false rfl)).trans hg5)))))), eg148]
              refine lv_aload_n hx hb dX13_decide_116 rfl (lv_at hl 2 rfl) ?_
              refine th_get (ci := 14) (C := RX13) (T := TX13) (N := 97) (v := .ref (ad 54)) hx hb hts hinX13 hown hK hP hI 0 (Nat.le_of_ble_eq_true rfl) rfl rfl 72 (Nat.le_of_ble_eq_true rfl) (hts _ (vA_in _ _ (in_28 _ (List.mem_of_getElem? (i := 5) rfl)))) (fun _ h9 => h9) (hI.fr 0 (Nat.le_of_ble_eq_true rfl) rfl (Nat.le_of_ble_eq_true rfl) 54 rfl) dX13_decide_117 ?_
              refine lv_iload_n hx hb dX13_decide_120 rfl (lv_at hl 3 rfl) ?_
              refine lv_dup2_11 hx hb dX13_decide_121 rfl rfl ?_
              have n150 : vp_in a0 30 := (iv_in (n := 30) i15 (by decide))
              refine th_iald hx hb hK hP hI 54 (Nat.le_of_ble_eq_true rfl) rfl rfl n150 dX13_decide_122 (fun y149 ey149 => ?_)
              have iy149 : 0 ≤ y149.toInt ∧ y149.toInt ≤ 2 := hI.el 54 (Nat.le_of_ble_eq_true rfl) rfl n150 (fun _ => rfl) ey149
              have ey149 := ey149.trans (congrFun ((pw147.ef 54 (Nat.ne_of_beq_eq_false rfl)).trans ((pw143.ef 54 (Nat.ne_of_beq_eq_false rfl)).trans ((pw139.ef 54 (Nat.ne_of_beq_eq_false rfl)).trans ((kq104.ef 54 (fun _ => rfl)).trans ((kq36.ef 54 (fun _ => rfl)).trans ((kq26.ef 54 (fun _ => rfl)).trans ((pw7.ef 54 (Nat.ne_of_beq_eq_false rfl)).trans hg2))))))) _)
              have d2 : y149.toInt ≤ 1 := by rw [ey149, ← ey30]; exact d1
              refine lv_iconst (v := 1) hx hb dX13_decide_123 (by decide) ?_
              refine lv_iadd hx hb dX13_decide_124 ?_
              refine lv_topi (fun y151 ey151 => ?_)
              obtain ⟨ty151, iy151⟩ := ti_add (e := 1) (f := 3) iy149 ln_1 ey151 (by decide)
              have ty151 : y151.toInt = y149.toInt + 1 := ty151
              have iy151 : 1 ≤ y151.toInt ∧ y151.toInt ≤ 3 := iy151
              have n152 : vp_in a0 30 := (iv_in (n := 30) i15 (by decide))
              have i155 : 1 ≤ y151.toInt ∧ y151.toInt ≤ 2 := by omega
              refine th_iast hx hb hK hP (WX_D hD) hS hI 54 (Nat.le_of_ble_eq_true rfl) rfl rfl n152 (okI rfl (iv_w i155 (by decide))) dX13_decide_125 (fun H locs E153 pw154 hI hP hS => ?_)
              have hKp := hKp.pw pw154 rfl
              obtain ⟨g156, eg156⟩ : ∃ z : Nat → Int32, z = upd g2 a0.toNatClampNeg y151 := ⟨_, rfl⟩
              have hg156 : xi (E153 54) = g156 := by rw [pw154.eu, ((pw147.ef 54 (Nat.ne_of_beq_eq_false rfl)).trans ((pw143.ef 54 (Nat.ne_of_beq_eq_false rfl)).trans ((pw139.ef 54 (Nat.ne_of_beq_eq_false rfl)).trans ((kq104.ef 54 (fun _ => rfl)).trans ((kq36.ef 54 (fun _ => rfl)).trans ((kq26.ef 54 (fun _ => rfl)).trans ((pw7.ef 54 (Nat.ne_of_beq_eq_false rfl)).trans hg2))))))), eg156]
              refine lv_aload_n hx hb dX13_decide_126 rfl (lv_at hl 2 rfl) ?_
              refine th_get (ci := 14) (C := RX13) (T := TX13) (N := 97) (v := .ref (ad 55)) hx hb hts hinX13 hown hK hP hI 0 (Nat.le_of_ble_eq_true rfl) rfl rfl 73 (Nat.le_of_ble_eq_true rfl) (hts _ (vA_in _ _ (in_30 _ (List.mem_of_getElem? (i := 24) rfl)))) (fun _ h9 => h9) (hI.fr 0 (Nat.le_of_ble_eq_true rfl) rfl (Nat.le_of_ble_eq_true rfl) 55 rfl) dX13_decide_127 ?_
              refine lv_iload_n hx hb dX13_decide_130 rfl (lv_at hl 3 rfl) ?_
              refine lv_iconst (v := 1) hx hb dX13_decide_131 (by decide) ?_
              have n157 : vp_in a0 30 := (iv_in (n := 30) i15 (by decide))
              refine th_zast hx hb hK hP (WX_D hD) hS hI 55 (Nat.le_of_ble_eq_true rfl) rfl rfl n157 (iv_w ln_1 (by decide)) (okI rfl (iv_w ln_1 (by decide))) dX13_decide_132 (fun H locs E158 pw159 hI hP hS => ?_)
              have hKp := hKp.pw pw159 rfl
              obtain ⟨g160, eg160⟩ : ∃ z : Nat → Int32, z = upd g1 a0.toNatClampNeg (1 : Int32) := ⟨_, rfl⟩
              have hg160 : xi (E158 55) = g160 := by rw [pw159.eu, ((pw154.ef 55 (Nat.ne_of_beq_eq_false rfl)).trans ((pw147.ef 55 (Nat.ne_of_beq_eq_false rfl)).trans ((pw143.ef 55 (Nat.ne_of_beq_eq_false rfl)).trans ((pw139.ef 55 (Nat.ne_of_beq_eq_false rfl)).trans ((kq104.ef 55 (fun _ => rfl)).trans ((kq36.ef 55 (fun _ => rfl)).trans ((kq26.ef 55 (fun _ => rfl)).trans ((pw7.ef 55 (Nat.ne_of_beq_eq_false rfl)).trans hg1)))))))), eg160]
              refine lv_aload_n hx hb dX13_decide_133 rfl (lv_at hl 2 rfl) ?_
              refine th_get (ci := 14) (C := RX13) (T := TX13) (N := 97) (v := .ref (ad 51)) hx hb hts hinX13 hown hK hP hI 0 (Nat.le_of_ble_eq_true rfl) rfl rfl 69 (Nat.le_of_ble_eq_true rfl) (hts _ (vA_in _ _ (in_28 _ (List.mem_of_getElem? (i := 6) rfl)))) (fun _ h9 => h9) (hI.fr 0 (Nat.le_of_ble_eq_true rfl) rfl (Nat.le_of_ble_eq_true rfl) 51 rfl) dX13_decide_134 ?_
              refine lv_iload_n hx hb dX13_decide_137 rfl (lv_at hl 0 rfl) ?_
              have n162 : vp_in y32 60 := (iv_in (n := 60) i33 (by decide))
              refine th_iald hx hb hK hP hI 51 (Nat.le_of_ble_eq_true rfl) rfl rfl n162 dX13_decide_138 (fun y161 ey161 => ?_)
              have iy161 : 0 ≤ y161.toInt ∧ y161.toInt ≤ 3 := hI.el 51 (Nat.le_of_ble_eq_true rfl) rfl n162 (fun _ => rfl) ey161
              have ey161 := ey161.trans (congrFun ((pw159.ef 51 (Nat.ne_of_beq_eq_false rfl)).trans ((pw154.ef 51 (Nat.ne_of_beq_eq_false rfl)).trans ((pw147.ef 51 (Nat.ne_of_beq_eq_false rfl)).trans ((pw143.ef 51 (Nat.ne_of_beq_eq_false rfl)).trans hg140)))) _)
              rw [hQ]
              exact W.iret (v := y161) hx hb hr (fun t ht hW => ⟨⟨y161, E158, rfl, ⟨hI, hKp, Or.inl ⟨iy161, by rw [(show xi (E 55) = g1 from hg1)]; have gy18 := congrArg Int32.toInt ey18; all_goals omega, ⟨(show xi (E158 55) = g160 from hg160).trans (by rw [eg160, (show xi (E 55) = g1 from hg1)]), (show xi (E158 54) = g156 from ((pw159.ef 54 (Nat.ne_of_beq_eq_false rfl)).trans hg156)).trans (by rw [eg156, (show xi (E 54) = g2 from hg2)]; congr 1; rw [← ey149]; exact ey151), (show xi (E158 51) = g140 from ((pw159.ef 51 (Nat.ne_of_beq_eq_false rfl)).trans ((pw154.ef 51 (Nat.ne_of_beq_eq_false rfl)).trans ((pw147.ef 51 (Nat.ne_of_beq_eq_false rfl)).trans ((pw143.ef 51 (Nat.ne_of_beq_eq_false rfl)).trans hg140))))).trans (by rw [show g140 = upd g3 y32.toNatClampNeg y161 from by rw [ey161, eg140, pk_us], (show xi (E 51) = g3 from hg3), ← (show y32.toNatClampNeg = (2 * a0.toInt + (xi (E 54) a0.toNatClampNeg).toInt).toNat by rw [(show xi (E 54) = g2 from hg2), ← ey30, tn_]; omega)]), (show xi (E158 52) = g144 from ((pw159.ef 52 (Nat.ne_of_beq_eq_false rfl)).trans ((pw154.ef 52 (Nat.ne_of_beq_eq_false rfl)).trans ((pw147.ef 52 (Nat.ne_of_beq_eq_false rfl)).trans hg144)))).trans (by rw [eg144, (show xi (E 52) = g4 from hg4), ← (show y32.toNatClampNeg = (2 * a0.toInt + (xi (E 54) a0.toNatClampNeg).toInt).toNat by rw [(show xi (E 54) = g2 from hg2), ← ey30, tn_]; omega)]), (show xi (E158 53) = g148 from ((pw159.ef 53 (Nat.ne_of_beq_eq_false rfl)).trans ((pw154.ef 53 (Nat.ne_of_beq_eq_false rfl)).trans hg148))).trans (by rw [eg148, (show xi (E 53) = g5 from hg5), ← (show y32.toNatClampNeg = (2 * a0.toInt + (xi (E 54) a0.toNatClampNeg).toInt).toNat by rw [(show xi (E 54) = g2 from hg2), ← ey30, tn_]; omega)])⟩, by rw [(show xi (E158 55) = g160 from hg160), (show xi (E158 54) = g156 from ((pw159.ef 54 (Nat.ne_of_beq_eq_false rfl)).trans hg156))]; rw [eg160, eg156]; exact DIr_upd hDI⟩⟩, by show va_P (dC, dI) vwCl (WX 72 ad E158) t.heap; rw [ht]; exact hP⟩, hS.F ht⟩) hS.2.2 dX13_decide_139
        · -- asksProtest, case 1
          obtain rfl := hw
          refine lv_istore_n (lv' := [(2, .int 0), (0, .ref (ad 0)), (1, .int a0)]) hx hb dX13_decide_40 rfl hl (by decide) rfl (fun ls hl => ?_)
          refine lv_iconst (v := 2) hx hb dX13_decide_41 (by decide) ?_
          refine lv_iload_n hx hb dX13_decide_42 rfl (lv_at hl 2 rfl) ?_
          refine lv_imul hx hb dX13_decide_43 ?_
          refine lv_topi (fun y163 ey163 => ?_)
          obtain ⟨ty163, iy163⟩ := ti_mul (e := 0) (f := 58) ln_2 i15 ey163 (by decide)
          have ty163 : y163.toInt = 2 * a0.toInt := ty163
          have iy163 : 0 ≤ y163.toInt ∧ y163.toInt ≤ 58 := iy163
          refine lv_aload_n hx hb dX13_decide_44 rfl (lv_at hl 1 rfl) ?_
          refine th_get (ci := 14) (C := RX13) (T := TX13) (N := 97) (v := .ref (ad 54)) hx hb hts hinX13 hown hK hP hI 0 (Nat.le_of_ble_eq_true rfl) rfl rfl 72 (Nat.le_of_ble_eq_true rfl) (hts _ (vA_in _ _ (in_28 _ (List.mem_of_getElem? (i := 5) rfl)))) (fun _ h9 => h9) (hI.fr 0 (Nat.le_of_ble_eq_true rfl) rfl (Nat.le_of_ble_eq_true rfl) 54 rfl) dX13_decide_45 ?_
          refine lv_iload_n hx hb dX13_decide_48 rfl (lv_at hl 2 rfl) ?_
          have n165 : vp_in a0 30 := (iv_in (n := 30) i15 (by decide))
          refine th_iald hx hb hK hP hI 54 (Nat.le_of_ble_eq_true rfl) rfl rfl n165 dX13_decide_49 (fun y164 ey164 => ?_)
          have iy164 : 0 ≤ y164.toInt ∧ y164.toInt ≤ 2 := hI.el 54 (Nat.le_of_ble_eq_true rfl) rfl n165 (fun _ => rfl) ey164
          have ey164 := ey164.trans (congrFun ((kq26.ef 54 (fun _ => rfl)).trans ((pw7.ef 54 (Nat.ne_of_beq_eq_false rfl)).trans hg2)) _)
          refine lv_iadd hx hb dX13_decide_50 ?_
          refine lv_topi (fun y166 ey166 => ?_)
          obtain ⟨ty166, iy166⟩ := ti_add (e := 0) (f := 60) iy163 iy164 ey166 (by decide)
          have ty166 : y166.toInt = y163.toInt + y164.toInt := ty166
          have iy166 : 0 ≤ y166.toInt ∧ y166.toInt ≤ 60 := iy166
          have d1 : y164.toInt ≤ 1 := by rw [ey164]; exact hDI _ (by rw [← ey18]; exact c20)
          have i167 : 0 ≤ y166.toInt ∧ y166.toInt ≤ 59 := by omega
          refine lv_istore_n (lv' := [(3, .int y166), (2, .int 0), (0, .ref (ad 0)), (1, .int a0)]) hx hb dX13_decide_51 rfl hl (by decide) rfl (fun ls hl => ?_)
          refine lv_aload_n hx hb dX13_decide_52 rfl (lv_at hl 2 rfl) ?_
          refine th_get (ci := 14) (C := RX13) (T := TX13) (N := 97) (v := .ref (ad 51)) hx hb hts hinX13 hown hK hP hI 0 (Nat.le_of_ble_eq_true rfl) rfl rfl 69 (Nat.le_of_ble_eq_true rfl) (hts _ (vA_in _ _ (in_28 _ (List.mem_of_getElem? (i := 6) rfl)))) (fun _ h9 => h9) (hI.fr 0 (Nat.le_of_ble_eq_true rfl) rfl (Nat.le_of_ble_eq_true rfl) 51 rfl) dX13_decide_53 ?_
          refine lv_iload_n hx hb dX13_decide_56 rfl (lv_at hl 0 rfl) ?_
          refine lv_aload_n hx hb dX13_decide_57 rfl (lv_at hl 2 rfl) ?_
          refine lv_iload_n hx hb dX13_decide_58 rfl (lv_at hl 3 rfl) ?_
          refine lv_iconst (v := 0) hx hb dX13_decide_59 (by decide) ?_
          refine lv_aload_n hx hb dX13_decide_60 rfl (lv_at hl 2 rfl) ?_
          refine th_get (ci := 14) (C := RX13) (T := TX13) (N := 97) (v := .int (xi (E 0) 1)) hx hb hts hinX13 hown hK hP hI 0 (Nat.le_of_ble_eq_true rfl) rfl rfl 1 (Nat.le_of_ble_eq_true rfl) (hts _ (vA_in _ _ (in_24 _ (List.mem_of_getElem? (i := 27) rfl)))) (fun _ h9 => h9) (th_v0 hKp hI0 0 (Nat.le_of_ble_eq_true rfl) rfl (Nat.le_of_ble_eq_true rfl) rfl rfl) dX13_decide_61 ?_
          refine th_i (va_runV (As := [.int a0, .int 0, .int (xi (E 0) 1)]) (rest := [.int y166, .ref (ad 51)]) ⟨hx, hb, hml, hown, hts⟩ (q_findingOf l dC dI cT ad E25 H.size a0 (0 : Int32) (xi (E 0) 1) hI i15) (cwV 3 hts (gi_V (in_30 _ (List.mem_of_getElem? (i := 28) rfl)) (in_30 _ (List.mem_of_getElem? (i := 29) rfl)) (in_30 _ (List.mem_of_getElem? (i := 30) rfl)) (in_24 _ (List.mem_of_getElem? (i := 15) rfl)) (in_30 _ (List.mem_of_getElem? (i := 31) rfl))) rfl rfl rfl (by decide +kernel) ⟨Nat.le_of_ble_eq_true rfl, Nat.le_of_ble_eq_true rfl⟩) ⟨HW_bl, va_recv hK hP (ci := 14) (q0 := 0) rfl (hI.ob 0 (Nat.le_of_ble_eq_true rfl) rfl), (HW_wi hP hK (WX_D hD) hS hA hEV)⟩ rfl rfl hl.1 rfl (lv_room (Nat.le_of_ble_eq_true rfl)) dX13_decide_64 ⟨Nat.le_of_ble_eq_true rfl, Nat.le_of_ble_eq_true rfl⟩) (WX_D hD) hS hA (fun r168 E169 H locs hw hP hS => ?_)
          obtain ⟨hI, kq170, hw⟩ := hw
          have hKb := hKp
          have hKp := hKp.tr kq170 (wl_sub rfl rfl)
          refine lv_iconst (v := 1) hx hb dX13_decide_67 (by decide) ?_
          refine lv_icmp_ne (tgt := 75) hx hb dX13_decide_68 (by decide) (fun c171 => ?_) (fun c171 => ?_)
          · --68 taken
            have t172 : ¬ r168.toInt = 1 := ti_ne c171
            refine lv_iconst (v := 0) hx hb dX13_decide_75 (by decide) ?_
            refine lv_aload_n hx hb dX13_decide_76 rfl (lv_at hl 2 rfl) ?_
            refine lv_iload_n hx hb dX13_decide_77 rfl (lv_at hl 3 rfl) ?_
            refine lv_iconst (v := 1) hx hb dX13_decide_78 (by decide) ?_
            refine lv_aload_n hx hb dX13_decide_79 rfl (lv_at hl 2 rfl) ?_
            refine th_get (ci := 14) (C := RX13) (T := TX13) (N := 97) (v := .int (xi (E 0) 1)) hx hb hts hinX13 hown hK hP hI 0 (Nat.le_of_ble_eq_true rfl) rfl rfl 1 (Nat.le_of_ble_eq_true rfl) (hts _ (vA_in _ _ (in_24 _ (List.mem_of_getElem? (i := 27) rfl)))) (fun _ h9 => h9) (th_v0 hKp hI0 0 (Nat.le_of_ble_eq_true rfl) rfl (Nat.le_of_ble_eq_true rfl) rfl rfl) dX13_decide_80 ?_
            refine th_i (va_runV (As := [.int a0, .int 1, .int (xi (E 0) 1)]) (rest := [.int 0, .int y166, .ref (ad 51)]) ⟨hx, hb, hml, hown, hts⟩ (q_findingOf l dC dI cT ad E169 H.size a0 (1 : Int32) (xi (E 0) 1) hI i15) (cwV 3 hts (gi_V (in_30 _ (List.mem_of_getElem? (i := 28) rfl)) (in_30 _ (List.mem_of_getElem? (i := 29) rfl)) (in_30 _ (List.mem_of_getElem? (i := 30) rfl)) (in_24 _ (List.mem_of_getElem? (i := 15) rfl)) (in_30 _ (List.mem_of_getElem? (i := 31) rfl))) rfl rfl rfl (by decide +kernel) ⟨Nat.le_of_ble_eq_true rfl, Nat.le_of_ble_eq_true rfl⟩) ⟨HW_bl, va_recv hK hP (ci := 14) (q0 := 0) rfl (hI.ob 0 (Nat.le_of_ble_eq_true rfl) rfl), (HW_wi hP hK (WX_D hD) hS hA hEV)⟩ rfl rfl hl.1 rfl (lv_room (Nat.le_of_ble_eq_true rfl)) dX13_decide_83 ⟨Nat.le_of_ble_eq_true rfl, Nat.le_of_ble_eq_true rfl⟩) (WX_D hD) hS hA (fun r173 E174 H locs hw hP hS => ?_)
            obtain ⟨hI, kq175, hw⟩ := hw
            have hKb := hKp
            have hKp := hKp.tr kq175 (wl_sub rfl rfl)
            refine lv_iconst (v := 1) hx hb dX13_decide_86 (by decide) ?_
            refine lv_icmp_ne (tgt := 94) hx hb dX13_decide_87 (by decide) (fun c176 => ?_) (fun c176 => ?_)
            · --87 taken
              have t177 : ¬ r173.toInt = 1 := ti_ne c176
              refine lv_iconst (v := 0) hx hb dX13_decide_94 (by decide) ?_
              refine lv_iadd hx hb dX13_decide_95 ?_
              refine lv_topi (fun y178 ey178 => ?_)
              obtain rfl : (0 : Int32) = y178 := (ey178.trans (by decide)).symm
              have n179 : vp_in y166 60 := (iv_in (n := 60) i167 (by decide))
              refine th_iast hx hb hK hP (WX_D hD) hS hI 51 (Nat.le_of_ble_eq_true rfl) rfl rfl n179 (okI rfl (iv_w ln_0 (by decide))) dX13_decide_96 (fun H locs E180 pw181 hI hP hS => ?_)
              have hKp := hKp.pw pw181 rfl
              obtain ⟨g182, eg182⟩ : ∃ z : Nat → Int32, z = upd g3 y166.toNatClampNeg (0 : Int32) := ⟨_, rfl⟩
              have hg182 : xi (E180 51) = g182 := by rw [pw181.eu, ((kq175.ef 51 (fun _ => rfl)).trans ((kq170.ef 51 (fun _ => rfl)).trans ((kq26.ef 51 (fun _ => rfl)).trans ((pw7.ef 51 (Nat.ne_of_beq_eq_false rfl)).trans hg3)))), eg182]
              refine lv_aload_n hx hb dX13_decide_97 rfl (lv_at hl 2 rfl) ?_
              refine th_get (ci := 14) (C := RX13) (T := TX13) (N := 97) (v := .ref (ad 52)) hx hb hts hinX13 hown hK hP hI 0 (Nat.le_of_ble_eq_true rfl) rfl rfl 70 (Nat.le_of_ble_eq_true rfl) (hts _ (vA_in _ _ (in_28 _ (List.mem_of_getElem? (i := 7) rfl)))) (fun _ h9 => h9) (hI.fr 0 (Nat.le_of_ble_eq_true rfl) rfl (Nat.le_of_ble_eq_true rfl) 52 rfl) dX13_decide_98 ?_
              refine lv_iload_n hx hb dX13_decide_101 rfl (lv_at hl 0 rfl) ?_
              refine lv_aload_n hx hb dX13_decide_102 rfl (lv_at hl 2 rfl) ?_
              refine th_get (ci := 14) (C := RX13) (T := TX13) (N := 97) (v := .int (xi (E 0) 1)) hx hb hts hinX13 hown hK hP hI 0 (Nat.le_of_ble_eq_true rfl) rfl rfl 1 (Nat.le_of_ble_eq_true rfl) (hts _ (vA_in _ _ (in_24 _ (List.mem_of_getElem? (i := 27) rfl)))) (fun _ h9 => h9) (th_v0 hKp hI0 0 (Nat.le_of_ble_eq_true rfl) rfl (Nat.le_of_ble_eq_true rfl) rfl rfl) dX13_decide_103 ?_
              have n183 : vp_in y166 60 := (iv_in (n := 60) i167 (by decide))
              refine th_iast hx hb hK hP (WX_D hD) hS hI 52 (Nat.le_of_ble_eq_true rfl) rfl rfl n183 (okI rfl i23) dX13_decide_106 (fun H locs E184 pw185 hI hP hS => ?_)
              have hKp := hKp.pw pw185 rfl
              obtain ⟨g186, eg186⟩ : ∃ z : Nat → Int32, z = upd g4 y166.toNatClampNeg (xi (E 0) 1) := ⟨_, rfl⟩
              have hg186 : xi (E184 52) = g186 := by rw [pw185.eu, ((pw181.ef 52 (Nat.ne_of_beq_eq_false rfl)).trans ((kq175.ef 52 (fun _ => rfl)).trans ((kq170.ef 52 (fun _ => rfl)).trans ((kq26.ef 52 (fun _ => rfl)).trans ((pw7.ef 52 (Nat.ne_of_beq_eq_false rfl)).trans hg4))))), eg186]
              refine lv_aload_n hx hb dX13_decide_107 rfl (lv_at hl 2 rfl) ?_
              refine th_get (ci := 14) (C := RX13) (T := TX13) (N := 97) (v := .ref (ad 53)) hx hb hts hinX13 hown hK hP hI 0 (Nat.le_of_ble_eq_true rfl) rfl rfl 71 (Nat.le_of_ble_eq_true rfl) (hts _ (vA_in _ _ (in_28 _ (List.mem_of_getElem? (i := 8) rfl)))) (fun _ h9 => h9) (hI.fr 0 (Nat.le_of_ble_eq_true rfl) rfl (Nat.le_of_ble_eq_true rfl) 53 rfl) dX13_decide_108 ?_
              refine lv_iload_n hx hb dX13_decide_111 rfl (lv_at hl 0 rfl) ?_
              refine lv_sipush (v := 1000) hx hb dX13_decide_112 (by decide) ?_
              have n187 : vp_in y166 60 := (iv_in (n := 60) i167 (by decide))
              refine th_iast hx hb hK hP (WX_D hD) hS hI 53 (Nat.le_of_ble_eq_true rfl) rfl rfl n187 (okI rfl (iv_w ln_1000 (by decide))) dX13_decide_115 (fun H locs E188 pw189 hI hP hS => ?_)
              have hKp := hKp.pw pw189 rfl
              obtain ⟨g190, eg190⟩ : ∃ z : Nat → Int32, z = upd g5 y166.toNatClampNeg (1000 : Int32) := ⟨_, rfl⟩
              have hg190 : xi (E188 53) = g190 := by rw [pw189.eu, ((pw185.ef 53 (Nat.ne_of_beq_eq_false rfl)).trans ((pw181.ef 53 (Nat.ne_of_beq_eq_false rfl)).trans ((kq175.ef 53 (fun _ => rfl)).trans ((kq170.ef 53 (fun _ => rfl)).trans ((kq26.ef 53 (fun _ => rfl)).trans ((pw7.ef 53 (Nat.ne_of_beq_eq_false rfl)).trans hg5)))))), eg190]
              refine lv_aload_n hx hb dX13_decide_116 rfl (lv_at hl 2 rfl) ?_
              refine th_get (ci := 14) (C := RX13) (T := TX13) (N := 97) (v := .ref (ad 54)) hx hb hts hinX13 hown hK hP hI 0 (Nat.le_of_ble_eq_true rfl) rfl rfl 72 (Nat.le_of_ble_eq_true rfl) (hts _ (vA_in _ _ (in_28 _ (List.mem_of_getElem? (i := 5) rfl)))) (fun _ h9 => h9) (hI.fr 0 (Nat.le_of_ble_eq_true rfl) rfl (Nat.le_of_ble_eq_true rfl) 54 rfl) dX13_decide_117 ?_
              refine lv_iload_n hx hb dX13_decide_120 rfl (lv_at hl 3 rfl) ?_
              refine lv_dup2_11 hx hb dX13_decide_121 rfl rfl ?_
              have n192 : vp_in a0 30 := (iv_in (n := 30) i15 (by decide))
              refine th_iald hx hb hK hP hI 54 (Nat.le_of_ble_eq_true rfl) rfl rfl n192 dX13_decide_122 (fun y191 ey191 => ?_)
              have iy191 : 0 ≤ y191.toInt ∧ y191.toInt ≤ 2 := hI.el 54 (Nat.le_of_ble_eq_true rfl) rfl n192 (fun _ => rfl) ey191
              have ey191 := ey191.trans (congrFun ((pw189.ef 54 (Nat.ne_of_beq_eq_false rfl)).trans ((pw185.ef 54 (Nat.ne_of_beq_eq_false rfl)).trans ((pw181.ef 54 (Nat.ne_of_beq_eq_false rfl)).trans ((kq175.ef 54 (fun _ => rfl)).trans ((kq170.ef 54 (fun _ => rfl)).trans ((kq26.ef 54 (fun _ => rfl)).trans ((pw7.ef 54 (Nat.ne_of_beq_eq_false rfl)).trans hg2))))))) _)
              have d2 : y191.toInt ≤ 1 := by rw [ey191, ← ey164]; exact d1
              refine lv_iconst (v := 1) hx hb dX13_decide_123 (by decide) ?_
              refine lv_iadd hx hb dX13_decide_124 ?_
              refine lv_topi (fun y193 ey193 => ?_)
              obtain ⟨ty193, iy193⟩ := ti_add (e := 1) (f := 3) iy191 ln_1 ey193 (by decide)
              have ty193 : y193.toInt = y191.toInt + 1 := ty193
              have iy193 : 1 ≤ y193.toInt ∧ y193.toInt ≤ 3 := iy193
              have n194 : vp_in a0 30 := (iv_in (n := 30) i15 (by decide))
              have i197 : 1 ≤ y193.toInt ∧ y193.toInt ≤ 2 := by omega
              refine th_iast hx hb hK hP (WX_D hD) hS hI 54 (Nat.le_of_ble_eq_true rfl) rfl rfl n194 (okI rfl (iv_w i197 (by decide))) dX13_decide_125 (fun H locs E195 pw196 hI hP hS => ?_)
              have hKp := hKp.pw pw196 rfl
              obtain ⟨g198, eg198⟩ : ∃ z : Nat → Int32, z = upd g2 a0.toNatClampNeg y193 := ⟨_, rfl⟩
              have hg198 : xi (E195 54) = g198 := by rw [pw196.eu, ((pw189.ef 54 (Nat.ne_of_beq_eq_false rfl)).trans ((pw185.ef 54 (Nat.ne_of_beq_eq_false rfl)).trans ((pw181.ef 54 (Nat.ne_of_beq_eq_false rfl)).trans ((kq175.ef 54 (fun _ => rfl)).trans ((kq170.ef 54 (fun _ => rfl)).trans ((kq26.ef 54 (fun _ => rfl)).trans ((pw7.ef 54 (Nat.ne_of_beq_eq_false rfl)).trans hg2))))))), eg198]
              refine lv_aload_n hx hb dX13_decide_126 rfl (lv_at hl 2 rfl) ?_
              refine th_get (ci := 14) (C := RX13) (T := TX13) (N := 97) (v := .ref (ad 55)) hx hb hts hinX13 hown hK hP hI 0 (Nat.le_of_ble_eq_true rfl) rfl rfl 73 (Nat.le_of_ble_eq_true rfl) (hts _ (vA_in _ _ (in_30 _ (List.mem_of_getElem? (i := 24) rfl)))) (fun _ h9 => h9) (hI.fr 0 (Nat.le_of_ble_eq_true rfl) rfl (Nat.le_of_ble_eq_true rfl) 55 rfl) dX13_decide_127 ?_
              refine lv_iload_n hx hb dX13_decide_130 rfl (lv_at hl 3 rfl) ?_
              refine lv_iconst (v := 1) hx hb dX13_decide_131 (by decide) ?_
              have n199 : vp_in a0 30 := (iv_in (n := 30) i15 (by decide))
              refine th_zast hx hb hK hP (WX_D hD) hS hI 55 (Nat.le_of_ble_eq_true rfl) rfl rfl n199 (iv_w ln_1 (by decide)) (okI rfl (iv_w ln_1 (by decide))) dX13_decide_132 (fun H locs E200 pw201 hI hP hS => ?_)
              have hKp := hKp.pw pw201 rfl
              obtain ⟨g202, eg202⟩ : ∃ z : Nat → Int32, z = upd g1 a0.toNatClampNeg (1 : Int32) := ⟨_, rfl⟩
              have hg202 : xi (E200 55) = g202 := by rw [pw201.eu, ((pw196.ef 55 (Nat.ne_of_beq_eq_false rfl)).trans ((pw189.ef 55 (Nat.ne_of_beq_eq_false rfl)).trans ((pw185.ef 55 (Nat.ne_of_beq_eq_false rfl)).trans ((pw181.ef 55 (Nat.ne_of_beq_eq_false rfl)).trans ((kq175.ef 55 (fun _ => rfl)).trans ((kq170.ef 55 (fun _ => rfl)).trans ((kq26.ef 55 (fun _ => rfl)).trans ((pw7.ef 55 (Nat.ne_of_beq_eq_false rfl)).trans hg1)))))))), eg202]
              refine lv_aload_n hx hb dX13_decide_133 rfl (lv_at hl 2 rfl) ?_
              refine th_get (ci := 14) (C := RX13) (T := TX13) (N := 97) (v := .ref (ad 51)) hx hb hts hinX13 hown hK hP hI 0 (Nat.le_of_ble_eq_true rfl) rfl rfl 69 (Nat.le_of_ble_eq_true rfl) (hts _ (vA_in _ _ (in_28 _ (List.mem_of_getElem? (i := 6) rfl)))) (fun _ h9 => h9) (hI.fr 0 (Nat.le_of_ble_eq_true rfl) rfl (Nat.le_of_ble_eq_true rfl) 51 rfl) dX13_decide_134 ?_
              refine lv_iload_n hx hb dX13_decide_137 rfl (lv_at hl 0 rfl) ?_
              have n204 : vp_in y166 60 := (iv_in (n := 60) i167 (by decide))
              refine th_iald hx hb hK hP hI 51 (Nat.le_of_ble_eq_true rfl) rfl rfl n204 dX13_decide_138 (fun y203 ey203 => ?_)
              have iy203 : 0 ≤ y203.toInt ∧ y203.toInt ≤ 3 := hI.el 51 (Nat.le_of_ble_eq_true rfl) rfl n204 (fun _ => rfl) ey203
              have ey203 := ey203.trans (congrFun ((pw201.ef 51 (Nat.ne_of_beq_eq_false rfl)).trans ((pw196.ef 51 (Nat.ne_of_beq_eq_false rfl)).trans ((pw189.ef 51 (Nat.ne_of_beq_eq_false rfl)).trans ((pw185.ef 51 (Nat.ne_of_beq_eq_false rfl)).trans hg182)))) _)
              rw [hQ]
              exact W.iret (v := y203) hx hb hr (fun t ht hW => ⟨⟨y203, E200, rfl, ⟨hI, hKp, Or.inl ⟨iy203, by rw [(show xi (E 55) = g1 from hg1)]; have gy18 := congrArg Int32.toInt ey18; all_goals omega, ⟨(show xi (E200 55) = g202 from hg202).trans (by rw [eg202, (show xi (E 55) = g1 from hg1)]), (show xi (E200 54) = g198 from ((pw201.ef 54 (Nat.ne_of_beq_eq_false rfl)).trans hg198)).trans (by rw [eg198, (show xi (E 54) = g2 from hg2)]; congr 1; rw [← ey191]; exact ey193), (show xi (E200 51) = g182 from ((pw201.ef 51 (Nat.ne_of_beq_eq_false rfl)).trans ((pw196.ef 51 (Nat.ne_of_beq_eq_false rfl)).trans ((pw189.ef 51 (Nat.ne_of_beq_eq_false rfl)).trans ((pw185.ef 51 (Nat.ne_of_beq_eq_false rfl)).trans hg182))))).trans (by rw [show g182 = upd g3 y166.toNatClampNeg y203 from by rw [ey203, eg182, pk_us], (show xi (E 51) = g3 from hg3), ← (show y166.toNatClampNeg = (2 * a0.toInt + (xi (E 54) a0.toNatClampNeg).toInt).toNat by rw [(show xi (E 54) = g2 from hg2), ← ey164, tn_]; omega)]), (show xi (E200 52) = g186 from ((pw201.ef 52 (Nat.ne_of_beq_eq_false rfl)).trans ((pw196.ef 52 (Nat.ne_of_beq_eq_false rfl)).trans ((pw189.ef 52 (Nat.ne_of_beq_eq_false rfl)).trans hg186)))).trans (by rw [eg186, (show xi (E 52) = g4 from hg4), ← (show y166.toNatClampNeg = (2 * a0.toInt + (xi (E 54) a0.toNatClampNeg).toInt).toNat by rw [(show xi (E 54) = g2 from hg2), ← ey164, tn_]; omega)]), (show xi (E200 53) = g190 from ((pw201.ef 53 (Nat.ne_of_beq_eq_false rfl)).trans ((pw196.ef 53 (Nat.ne_of_beq_eq_false rfl)).trans hg190))).trans (by rw [eg190, (show xi (E 53) = g5 from hg5), ← (show y166.toNatClampNeg = (2 * a0.toInt + (xi (E 54) a0.toNatClampNeg).toInt).toNat by rw [(show xi (E 54) = g2 from hg2), ← ey164, tn_]; omega)])⟩, by rw [(show xi (E200 55) = g202 from hg202), (show xi (E200 54) = g198 from ((pw201.ef 54 (Nat.ne_of_beq_eq_false rfl)).trans hg198))]; rw [eg202, eg198]; exact DIr_upd hDI⟩⟩, by show va_P (dC, dI) vwCl (WX 72 ad E200) t.heap; rw [ht]; exact hP⟩, hS.F ht⟩) hS.2.2 dX13_decide_139
            · --87 not
              have t205 : r173.toInt = 1 := ti_eq c176
              have i206 : 1 ≤ r173.toInt ∧ r173.toInt ≤ 1 := iv_eqi t205 (iv_all _) (il_ 1) (by decide)
              refine lv_iconst (v := 2) hx hb dX13_decide_90 (by decide) ?_
              refine lv_goto (tgt := 95) hx hb dX13_decide_91 (by decide) ?_
              refine lv_iadd hx hb dX13_decide_95 ?_
              refine lv_topi (fun y207 ey207 => ?_)
              obtain rfl : (2 : Int32) = y207 := (ey207.trans (by decide)).symm
              have n208 : vp_in y166 60 := (iv_in (n := 60) i167 (by decide))
              refine th_iast hx hb hK hP (WX_D hD) hS hI 51 (Nat.le_of_ble_eq_true rfl) rfl rfl n208 (okI rfl (iv_w ln_2 (by decide))) dX13_decide_96 (fun H locs E209 pw210 hI hP hS => ?_)
              have hKp := hKp.pw pw210 rfl
              obtain ⟨g211, eg211⟩ : ∃ z : Nat → Int32, z = upd g3 y166.toNatClampNeg (2 : Int32) := ⟨_, rfl⟩
              have hg211 : xi (E209 51) = g211 := by rw [pw210.eu, ((kq175.ef 51 (fun _ => rfl)).trans ((kq170.ef 51 (fun _ => rfl)).trans ((kq26.ef 51 (fun _ => rfl)).trans ((pw7.ef 51 (Nat.ne_of_beq_eq_false rfl)).trans hg3)))), eg211]
              refine lv_aload_n hx hb dX13_decide_97 rfl (lv_at hl 2 rfl) ?_
              refine th_get (ci := 14) (C := RX13) (T := TX13) (N := 97) (v := .ref (ad 52)) hx hb hts hinX13 hown hK hP hI 0 (Nat.le_of_ble_eq_true rfl) rfl rfl 70 (Nat.le_of_ble_eq_true rfl) (hts _ (vA_in _ _ (in_28 _ (List.mem_of_getElem? (i := 7) rfl)))) (fun _ h9 => h9) (hI.fr 0 (Nat.le_of_ble_eq_true rfl) rfl (Nat.le_of_ble_eq_true rfl) 52 rfl) dX13_decide_98 ?_
              refine lv_iload_n hx hb dX13_decide_101 rfl (lv_at hl 0 rfl) ?_
              refine lv_aload_n hx hb dX13_decide_102 rfl (lv_at hl 2 rfl) ?_
              refine th_get (ci := 14) (C := RX13) (T := TX13) (N := 97) (v := .int (xi (E 0) 1)) hx hb hts hinX13 hown hK hP hI 0 (Nat.le_of_ble_eq_true rfl) rfl rfl 1 (Nat.le_of_ble_eq_true rfl) (hts _ (vA_in _ _ (in_24 _ (List.mem_of_getElem? (i := 27) rfl)))) (fun _ h9 => h9) (th_v0 hKp hI0 0 (Nat.le_of_ble_eq_true rfl) rfl (Nat.le_of_ble_eq_true rfl) rfl rfl) dX13_decide_103 ?_
              have n212 : vp_in y166 60 := (iv_in (n := 60) i167 (by decide))
              refine th_iast hx hb hK hP (WX_D hD) hS hI 52 (Nat.le_of_ble_eq_true rfl) rfl rfl n212 (okI rfl i23) dX13_decide_106 (fun H locs E213 pw214 hI hP hS => ?_)
              have hKp := hKp.pw pw214 rfl
              obtain ⟨g215, eg215⟩ : ∃ z : Nat → Int32, z = upd g4 y166.toNatClampNeg (xi (E 0) 1) := ⟨_, rfl⟩
              have hg215 : xi (E213 52) = g215 := by rw [pw214.eu, ((pw210.ef 52 (Nat.ne_of_beq_eq_false rfl)).trans ((kq175.ef 52 (fun _ => rfl)).trans ((kq170.ef 52 (fun _ => rfl)).trans ((kq26.ef 52 (fun _ => rfl)).trans ((pw7.ef 52 (Nat.ne_of_beq_eq_false rfl)).trans hg4))))), eg215]
              refine lv_aload_n hx hb dX13_decide_107 rfl (lv_at hl 2 rfl) ?_
              refine th_get (ci := 14) (C := RX13) (T := TX13) (N := 97) (v := .ref (ad 53)) hx hb hts hinX13 hown hK hP hI 0 (Nat.le_of_ble_eq_true rfl) rfl rfl 71 (Nat.le_of_ble_eq_true rfl) (hts _ (vA_in _ _ (in_28 _ (List.mem_of_getElem? (i := 8) rfl)))) (fun _ h9 => h9) (hI.fr 0 (Nat.le_of_ble_eq_true rfl) rfl (Nat.le_of_ble_eq_true rfl) 53 rfl) dX13_decide_108 ?_
              refine lv_iload_n hx hb dX13_decide_111 rfl (lv_at hl 0 rfl) ?_
              refine lv_sipush (v := 1000) hx hb dX13_decide_112 (by decide) ?_
              have n216 : vp_in y166 60 := (iv_in (n := 60) i167 (by decide))
              refine th_iast hx hb hK hP (WX_D hD) hS hI 53 (Nat.le_of_ble_eq_true rfl) rfl rfl n216 (okI rfl (iv_w ln_1000 (by decide))) dX13_decide_115 (fun H locs E217 pw218 hI hP hS => ?_)
              have hKp := hKp.pw pw218 rfl
              obtain ⟨g219, eg219⟩ : ∃ z : Nat → Int32, z = upd g5 y166.toNatClampNeg (1000 : Int32) := ⟨_, rfl⟩
              have hg219 : xi (E217 53) = g219 := by rw [pw218.eu, ((pw214.ef 53 (Nat.ne_of_beq_eq_false rfl)).trans ((pw210.ef 53 (Nat.ne_of_beq_eq_false rfl)).trans ((kq175.ef 53 (fun _ => rfl)).trans ((kq170.ef 53 (fun _ => rfl)).trans ((kq26.ef 53 (fun _ => rfl)).trans ((pw7.ef 53 (Nat.ne_of_beq_eq_false rfl)).trans hg5)))))), eg219]
              refine lv_aload_n hx hb dX13_decide_116 rfl (lv_at hl 2 rfl) ?_
              refine th_get (ci := 14) (C := RX13) (T := TX13) (N := 97) (v := .ref (ad 54)) hx hb hts hinX13 hown hK hP hI 0 (Nat.le_of_ble_eq_true rfl) rfl rfl 72 (Nat.le_of_ble_eq_true rfl) (hts _ (vA_in _ _ (in_28 _ (List.mem_of_getElem? (i := 5) rfl)))) (fun _ h9 => h9) (hI.fr 0 (Nat.le_of_ble_eq_true rfl) rfl (Nat.le_of_ble_eq_true rfl) 54 rfl) dX13_decide_117 ?_
              refine lv_iload_n hx hb dX13_decide_120 rfl (lv_at hl 3 rfl) ?_
              refine lv_dup2_11 hx hb dX13_decide_121 rfl rfl ?_
              have n221 : vp_in a0 30 := (iv_in (n := 30) i15 (by decide))
              refine th_iald hx hb hK hP hI 54 (Nat.le_of_ble_eq_true rfl) rfl rfl n221 dX13_decide_122 (fun y220 ey220 => ?_)
              have iy220 : 0 ≤ y220.toInt ∧ y220.toInt ≤ 2 := hI.el 54 (Nat.le_of_ble_eq_true rfl) rfl n221 (fun _ => rfl) ey220
              have ey220 := ey220.trans (congrFun ((pw218.ef 54 (Nat.ne_of_beq_eq_false rfl)).trans ((pw214.ef 54 (Nat.ne_of_beq_eq_false rfl)).trans ((pw210.ef 54 (Nat.ne_of_beq_eq_false rfl)).trans ((kq175.ef 54 (fun _ => rfl)).trans ((kq170.ef 54 (fun _ => rfl)).trans ((kq26.ef 54 (fun _ => rfl)).trans ((pw7.ef 54 (Nat.ne_of_beq_eq_false rfl)).trans hg2))))))) _)
              have d2 : y220.toInt ≤ 1 := by rw [ey220, ← ey164]; exact d1
              refine lv_iconst (v := 1) hx hb dX13_decide_123 (by decide) ?_
              refine lv_iadd hx hb dX13_decide_124 ?_
              refine lv_topi (fun y222 ey222 => ?_)
              obtain ⟨ty222, iy222⟩ := ti_add (e := 1) (f := 3) iy220 ln_1 ey222 (by decide)
              have ty222 : y222.toInt = y220.toInt + 1 := ty222
              have iy222 : 1 ≤ y222.toInt ∧ y222.toInt ≤ 3 := iy222
              have n223 : vp_in a0 30 := (iv_in (n := 30) i15 (by decide))
              have i226 : 1 ≤ y222.toInt ∧ y222.toInt ≤ 2 := by omega
              refine th_iast hx hb hK hP (WX_D hD) hS hI 54 (Nat.le_of_ble_eq_true rfl) rfl rfl n223 (okI rfl (iv_w i226 (by decide))) dX13_decide_125 (fun H locs E224 pw225 hI hP hS => ?_)
              have hKp := hKp.pw pw225 rfl
              obtain ⟨g227, eg227⟩ : ∃ z : Nat → Int32, z = upd g2 a0.toNatClampNeg y222 := ⟨_, rfl⟩
              have hg227 : xi (E224 54) = g227 := by rw [pw225.eu, ((pw218.ef 54 (Nat.ne_of_beq_eq_false rfl)).trans ((pw214.ef 54 (Nat.ne_of_beq_eq_false rfl)).trans ((pw210.ef 54 (Nat.ne_of_beq_eq_false rfl)).trans ((kq175.ef 54 (fun _ => rfl)).trans ((kq170.ef 54 (fun _ => rfl)).trans ((kq26.ef 54 (fun _ => rfl)).trans ((pw7.ef 54 (Nat.ne_of_beq_eq_false rfl)).trans hg2))))))), eg227]
              refine lv_aload_n hx hb dX13_decide_126 rfl (lv_at hl 2 rfl) ?_
              refine th_get (ci := 14) (C := RX13) (T := TX13) (N := 97) (v := .ref (ad 55)) hx hb hts hinX13 hown hK hP hI 0 (Nat.le_of_ble_eq_true rfl) rfl rfl 73 (Nat.le_of_ble_eq_true rfl) (hts _ (vA_in _ _ (in_30 _ (List.mem_of_getElem? (i := 24) rfl)))) (fun _ h9 => h9) (hI.fr 0 (Nat.le_of_ble_eq_true rfl) rfl (Nat.le_of_ble_eq_true rfl) 55 rfl) dX13_decide_127 ?_
              refine lv_iload_n hx hb dX13_decide_130 rfl (lv_at hl 3 rfl) ?_
              refine lv_iconst (v := 1) hx hb dX13_decide_131 (by decide) ?_
              have n228 : vp_in a0 30 := (iv_in (n := 30) i15 (by decide))
              refine th_zast hx hb hK hP (WX_D hD) hS hI 55 (Nat.le_of_ble_eq_true rfl) rfl rfl n228 (iv_w ln_1 (by decide)) (okI rfl (iv_w ln_1 (by decide))) dX13_decide_132 (fun H locs E229 pw230 hI hP hS => ?_)
              have hKp := hKp.pw pw230 rfl
              obtain ⟨g231, eg231⟩ : ∃ z : Nat → Int32, z = upd g1 a0.toNatClampNeg (1 : Int32) := ⟨_, rfl⟩
              have hg231 : xi (E229 55) = g231 := by rw [pw230.eu, ((pw225.ef 55 (Nat.ne_of_beq_eq_false rfl)).trans ((pw218.ef 55 (Nat.ne_of_beq_eq_false rfl)).trans ((pw214.ef 55 (Nat.ne_of_beq_eq_false rfl)).trans ((pw210.ef 55 (Nat.ne_of_beq_eq_false rfl)).trans ((kq175.ef 55 (fun _ => rfl)).trans ((kq170.ef 55 (fun _ => rfl)).trans ((kq26.ef 55 (fun _ => rfl)).trans ((pw7.ef 55 (Nat.ne_of_beq_eq_false rfl)).trans hg1)))))))), eg231]
              refine lv_aload_n hx hb dX13_decide_133 rfl (lv_at hl 2 rfl) ?_
              refine th_get (ci := 14) (C := RX13) (T := TX13) (N := 97) (v := .ref (ad 51)) hx hb hts hinX13 hown hK hP hI 0 (Nat.le_of_ble_eq_true rfl) rfl rfl 69 (Nat.le_of_ble_eq_true rfl) (hts _ (vA_in _ _ (in_28 _ (List.mem_of_getElem? (i := 6) rfl)))) (fun _ h9 => h9) (hI.fr 0 (Nat.le_of_ble_eq_true rfl) rfl (Nat.le_of_ble_eq_true rfl) 51 rfl) dX13_decide_134 ?_
              refine lv_iload_n hx hb dX13_decide_137 rfl (lv_at hl 0 rfl) ?_
              have n233 : vp_in y166 60 := (iv_in (n := 60) i167 (by decide))
              refine th_iald hx hb hK hP hI 51 (Nat.le_of_ble_eq_true rfl) rfl rfl n233 dX13_decide_138 (fun y232 ey232 => ?_)
              have iy232 : 0 ≤ y232.toInt ∧ y232.toInt ≤ 3 := hI.el 51 (Nat.le_of_ble_eq_true rfl) rfl n233 (fun _ => rfl) ey232
              have ey232 := ey232.trans (congrFun ((pw230.ef 51 (Nat.ne_of_beq_eq_false rfl)).trans ((pw225.ef 51 (Nat.ne_of_beq_eq_false rfl)).trans ((pw218.ef 51 (Nat.ne_of_beq_eq_false rfl)).trans ((pw214.ef 51 (Nat.ne_of_beq_eq_false rfl)).trans hg211)))) _)
              rw [hQ]
              exact W.iret (v := y232) hx hb hr (fun t ht hW => ⟨⟨y232, E229, rfl, ⟨hI, hKp, Or.inl ⟨iy232, by rw [(show xi (E 55) = g1 from hg1)]; have gy18 := congrArg Int32.toInt ey18; all_goals omega, ⟨(show xi (E229 55) = g231 from hg231).trans (by rw [eg231, (show xi (E 55) = g1 from hg1)]), (show xi (E229 54) = g227 from ((pw230.ef 54 (Nat.ne_of_beq_eq_false rfl)).trans hg227)).trans (by rw [eg227, (show xi (E 54) = g2 from hg2)]; congr 1; rw [← ey220]; exact ey222), (show xi (E229 51) = g211 from ((pw230.ef 51 (Nat.ne_of_beq_eq_false rfl)).trans ((pw225.ef 51 (Nat.ne_of_beq_eq_false rfl)).trans ((pw218.ef 51 (Nat.ne_of_beq_eq_false rfl)).trans ((pw214.ef 51 (Nat.ne_of_beq_eq_false rfl)).trans hg211))))).trans (by rw [show g211 = upd g3 y166.toNatClampNeg y232 from by rw [ey232, eg211, pk_us], (show xi (E 51) = g3 from hg3), ← (show y166.toNatClampNeg = (2 * a0.toInt + (xi (E 54) a0.toNatClampNeg).toInt).toNat by rw [(show xi (E 54) = g2 from hg2), ← ey164, tn_]; omega)]), (show xi (E229 52) = g215 from ((pw230.ef 52 (Nat.ne_of_beq_eq_false rfl)).trans ((pw225.ef 52 (Nat.ne_of_beq_eq_false rfl)).trans ((pw218.ef 52 (Nat.ne_of_beq_eq_false rfl)).trans hg215)))).trans (by rw [eg215, (show xi (E 52) = g4 from hg4), ← (show y166.toNatClampNeg = (2 * a0.toInt + (xi (E 54) a0.toNatClampNeg).toInt).toNat by rw [(show xi (E 54) = g2 from hg2), ← ey164, tn_]; omega)]), (show xi (E229 53) = g219 from ((pw230.ef 53 (Nat.ne_of_beq_eq_false rfl)).trans ((pw225.ef 53 (Nat.ne_of_beq_eq_false rfl)).trans hg219))).trans (by rw [eg219, (show xi (E 53) = g5 from hg5), ← (show y166.toNatClampNeg = (2 * a0.toInt + (xi (E 54) a0.toNatClampNeg).toInt).toNat by rw [(show xi (E 54) = g2 from hg2), ← ey164, tn_]; omega)])⟩, by rw [(show xi (E229 55) = g231 from hg231), (show xi (E229 54) = g227 from ((pw230.ef 54 (Nat.ne_of_beq_eq_false rfl)).trans hg227))]; rw [eg231, eg227]; exact DIr_upd hDI⟩⟩, by show va_P (dC, dI) vwCl (WX 72 ad E229) t.heap; rw [ht]; exact hP⟩, hS.F ht⟩) hS.2.2 dX13_decide_139
          · --68 not
            have t234 : r168.toInt = 1 := ti_eq c171
            have i235 : 1 ≤ r168.toInt ∧ r168.toInt ≤ 1 := iv_eqi t234 (iv_all _) (il_ 1) (by decide)
            refine lv_iconst (v := 1) hx hb dX13_decide_71 (by decide) ?_
            refine lv_goto (tgt := 76) hx hb dX13_decide_72 (by decide) ?_
            refine lv_aload_n hx hb dX13_decide_76 rfl (lv_at hl 2 rfl) ?_
            refine lv_iload_n hx hb dX13_decide_77 rfl (lv_at hl 3 rfl) ?_
            refine lv_iconst (v := 1) hx hb dX13_decide_78 (by decide) ?_
            refine lv_aload_n hx hb dX13_decide_79 rfl (lv_at hl 2 rfl) ?_
            refine th_get (ci := 14) (C := RX13) (T := TX13) (N := 97) (v := .int (xi (E 0) 1)) hx hb hts hinX13 hown hK hP hI 0 (Nat.le_of_ble_eq_true rfl) rfl rfl 1 (Nat.le_of_ble_eq_true rfl) (hts _ (vA_in _ _ (in_24 _ (List.mem_of_getElem? (i := 27) rfl)))) (fun _ h9 => h9) (th_v0 hKp hI0 0 (Nat.le_of_ble_eq_true rfl) rfl (Nat.le_of_ble_eq_true rfl) rfl rfl) dX13_decide_80 ?_
            refine th_i (va_runV (As := [.int a0, .int 1, .int (xi (E 0) 1)]) (rest := [.int 1, .int y166, .ref (ad 51)]) ⟨hx, hb, hml, hown, hts⟩ (q_findingOf l dC dI cT ad E169 H.size a0 (1 : Int32) (xi (E 0) 1) hI i15) (cwV 3 hts (gi_V (in_30 _ (List.mem_of_getElem? (i := 28) rfl)) (in_30 _ (List.mem_of_getElem? (i := 29) rfl)) (in_30 _ (List.mem_of_getElem? (i := 30) rfl)) (in_24 _ (List.mem_of_getElem? (i := 15) rfl)) (in_30 _ (List.mem_of_getElem? (i := 31) rfl))) rfl rfl rfl (by decide +kernel) ⟨Nat.le_of_ble_eq_true rfl, Nat.le_of_ble_eq_true rfl⟩) ⟨HW_bl, va_recv hK hP (ci := 14) (q0 := 0) rfl (hI.ob 0 (Nat.le_of_ble_eq_true rfl) rfl), (HW_wi hP hK (WX_D hD) hS hA hEV)⟩ rfl rfl hl.1 rfl (lv_room (Nat.le_of_ble_eq_true rfl)) dX13_decide_83 ⟨Nat.le_of_ble_eq_true rfl, Nat.le_of_ble_eq_true rfl⟩) (WX_D hD) hS hA (fun r236 E237 H locs hw hP hS => ?_)
            obtain ⟨hI, kq238, hw⟩ := hw
            have hKb := hKp
            have hKp := hKp.tr kq238 (wl_sub rfl rfl)
            refine lv_iconst (v := 1) hx hb dX13_decide_86 (by decide) ?_
            refine lv_icmp_ne (tgt := 94) hx hb dX13_decide_87 (by decide) (fun c239 => ?_) (fun c239 => ?_)
            · --87 taken
              have t240 : ¬ r236.toInt = 1 := ti_ne c239
              refine lv_iconst (v := 0) hx hb dX13_decide_94 (by decide) ?_
              refine lv_iadd hx hb dX13_decide_95 ?_
              refine lv_topi (fun y241 ey241 => ?_)
              obtain rfl : (1 : Int32) = y241 := (ey241.trans (by decide)).symm
              have n242 : vp_in y166 60 := (iv_in (n := 60) i167 (by decide))
              refine th_iast hx hb hK hP (WX_D hD) hS hI 51 (Nat.le_of_ble_eq_true rfl) rfl rfl n242 (okI rfl (iv_w ln_1 (by decide))) dX13_decide_96 (fun H locs E243 pw244 hI hP hS => ?_)
              have hKp := hKp.pw pw244 rfl
              obtain ⟨g245, eg245⟩ : ∃ z : Nat → Int32, z = upd g3 y166.toNatClampNeg (1 : Int32) := ⟨_, rfl⟩
              have hg245 : xi (E243 51) = g245 := by rw [pw244.eu, ((kq238.ef 51 (fun _ => rfl)).trans ((kq170.ef 51 (fun _ => rfl)).trans ((kq26.ef 51 (fun _ => rfl)).trans ((pw7.ef 51 (Nat.ne_of_beq_eq_false rfl)).trans hg3)))), eg245]
              refine lv_aload_n hx hb dX13_decide_97 rfl (lv_at hl 2 rfl) ?_
              refine th_get (ci := 14) (C := RX13) (T := TX13) (N := 97) (v := .ref (ad 52)) hx hb hts hinX13 hown hK hP hI 0 (Nat.le_of_ble_eq_true rfl) rfl rfl 70 (Nat.le_of_ble_eq_true rfl) (hts _ (vA_in _ _ (in_28 _ (List.mem_of_getElem? (i := 7) rfl)))) (fun _ h9 => h9) (hI.fr 0 (Nat.le_of_ble_eq_true rfl) rfl (Nat.le_of_ble_eq_true rfl) 52 rfl) dX13_decide_98 ?_
              refine lv_iload_n hx hb dX13_decide_101 rfl (lv_at hl 0 rfl) ?_
              refine lv_aload_n hx hb dX13_decide_102 rfl (lv_at hl 2 rfl) ?_
              refine th_get (ci := 14) (C := RX13) (T := TX13) (N := 97) (v := .int (xi (E 0) 1)) hx hb hts hinX13 hown hK hP hI 0 (Nat.le_of_ble_eq_true rfl) rfl rfl 1 (Nat.le_of_ble_eq_true rfl) (hts _ (vA_in _ _ (in_24 _ (List.mem_of_getElem? (i := 27) rfl)))) (fun _ h9 => h9) (th_v0 hKp hI0 0 (Nat.le_of_ble_eq_true rfl) rfl (Nat.le_of_ble_eq_true rfl) rfl rfl) dX13_decide_103 ?_
              have n246 : vp_in y166 60 := (iv_in (n := 60) i167 (by decide))
              refine th_iast hx hb hK hP (WX_D hD) hS hI 52 (Nat.le_of_ble_eq_true rfl) rfl rfl n246 (okI rfl i23) dX13_decide_106 (fun H locs E247 pw248 hI hP hS => ?_)
              have hKp := hKp.pw pw248 rfl
              obtain ⟨g249, eg249⟩ : ∃ z : Nat → Int32, z = upd g4 y166.toNatClampNeg (xi (E 0) 1) := ⟨_, rfl⟩
              have hg249 : xi (E247 52) = g249 := by rw [pw248.eu, ((pw244.ef 52 (Nat.ne_of_beq_eq_false rfl)).trans ((kq238.ef 52 (fun _ => rfl)).trans ((kq170.ef 52 (fun _ => rfl)).trans ((kq26.ef 52 (fun _ => rfl)).trans ((pw7.ef 52 (Nat.ne_of_beq_eq_false rfl)).trans hg4))))), eg249]
              refine lv_aload_n hx hb dX13_decide_107 rfl (lv_at hl 2 rfl) ?_
              refine th_get (ci := 14) (C := RX13) (T := TX13) (N := 97) (v := .ref (ad 53)) hx hb hts hinX13 hown hK hP hI 0 (Nat.le_of_ble_eq_true rfl) rfl rfl 71 (Nat.le_of_ble_eq_true rfl) (hts _ (vA_in _ _ (in_28 _ (List.mem_of_getElem? (i := 8) rfl)))) (fun _ h9 => h9) (hI.fr 0 (Nat.le_of_ble_eq_true rfl) rfl (Nat.le_of_ble_eq_true rfl) 53 rfl) dX13_decide_108 ?_
              refine lv_iload_n hx hb dX13_decide_111 rfl (lv_at hl 0 rfl) ?_
              refine lv_sipush (v := 1000) hx hb dX13_decide_112 (by decide) ?_
              have n250 : vp_in y166 60 := (iv_in (n := 60) i167 (by decide))
              refine th_iast hx hb hK hP (WX_D hD) hS hI 53 (Nat.le_of_ble_eq_true rfl) rfl rfl n250 (okI rfl (iv_w ln_1000 (by decide))) dX13_decide_115 (fun H locs E251 pw252 hI hP hS => ?_)
              have hKp := hKp.pw pw252 rfl
              obtain ⟨g253, eg253⟩ : ∃ z : Nat → Int32, z = upd g5 y166.toNatClampNeg (1000 : Int32) := ⟨_, rfl⟩
              have hg253 : xi (E251 53) = g253 := by rw [pw252.eu, ((pw248.ef 53 (Nat.ne_of_beq_eq_false rfl)).trans ((pw244.ef 53 (Nat.ne_of_beq_eq_false rfl)).trans ((kq238.ef 53 (fun _ => rfl)).trans ((kq170.ef 53 (fun _ => rfl)).trans ((kq26.ef 53 (fun _ => rfl)).trans ((pw7.ef 53 (Nat.ne_of_beq_eq_false rfl)).trans hg5)))))), eg253]
              refine lv_aload_n hx hb dX13_decide_116 rfl (lv_at hl 2 rfl) ?_
              refine th_get (ci := 14) (C := RX13) (T := TX13) (N := 97) (v := .ref (ad 54)) hx hb hts hinX13 hown hK hP hI 0 (Nat.le_of_ble_eq_true rfl) rfl rfl 72 (Nat.le_of_ble_eq_true rfl) (hts _ (vA_in _ _ (in_28 _ (List.mem_of_getElem? (i := 5) rfl)))) (fun _ h9 => h9) (hI.fr 0 (Nat.le_of_ble_eq_true rfl) rfl (Nat.le_of_ble_eq_true rfl) 54 rfl) dX13_decide_117 ?_
              refine lv_iload_n hx hb dX13_decide_120 rfl (lv_at hl 3 rfl) ?_
              refine lv_dup2_11 hx hb dX13_decide_121 rfl rfl ?_
              have n255 : vp_in a0 30 := (iv_in (n := 30) i15 (by decide))
              refine th_iald hx hb hK hP hI 54 (Nat.le_of_ble_eq_true rfl) rfl rfl n255 dX13_decide_122 (fun y254 ey254 => ?_)
              have iy254 : 0 ≤ y254.toInt ∧ y254.toInt ≤ 2 := hI.el 54 (Nat.le_of_ble_eq_true rfl) rfl n255 (fun _ => rfl) ey254
              have ey254 := ey254.trans (congrFun ((pw252.ef 54 (Nat.ne_of_beq_eq_false rfl)).trans ((pw248.ef 54 (Nat.ne_of_beq_eq_false rfl)).trans ((pw244.ef 54 (Nat.ne_of_beq_eq_false rfl)).trans ((kq238.ef 54 (fun _ => rfl)).trans ((kq170.ef 54 (fun _ => rfl)).trans ((kq26.ef 54 (fun _ => rfl)).trans ((pw7.ef 54 (Nat.ne_of_beq_eq_false rfl)).trans hg2))))))) _)
              have d2 : y254.toInt ≤ 1 := by rw [ey254, ← ey164]; exact d1
              refine lv_iconst (v := 1) hx hb dX13_decide_123 (by decide) ?_
              refine lv_iadd hx hb dX13_decide_124 ?_
              refine lv_topi (fun y256 ey256 => ?_)
              obtain ⟨ty256, iy256⟩ := ti_add (e := 1) (f := 3) iy254 ln_1 ey256 (by decide)
              have ty256 : y256.toInt = y254.toInt + 1 := ty256
              have iy256 : 1 ≤ y256.toInt ∧ y256.toInt ≤ 3 := iy256
              have n257 : vp_in a0 30 := (iv_in (n := 30) i15 (by decide))
              have i260 : 1 ≤ y256.toInt ∧ y256.toInt ≤ 2 := by omega
              refine th_iast hx hb hK hP (WX_D hD) hS hI 54 (Nat.le_of_ble_eq_true rfl) rfl rfl n257 (okI rfl (iv_w i260 (by decide))) dX13_decide_125 (fun H locs E258 pw259 hI hP hS => ?_)
              have hKp := hKp.pw pw259 rfl
              obtain ⟨g261, eg261⟩ : ∃ z : Nat → Int32, z = upd g2 a0.toNatClampNeg y256 := ⟨_, rfl⟩
              have hg261 : xi (E258 54) = g261 := by rw [pw259.eu, ((pw252.ef 54 (Nat.ne_of_beq_eq_false rfl)).trans ((pw248.ef 54 (Nat.ne_of_beq_eq_false rfl)).trans ((pw244.ef 54 (Nat.ne_of_beq_eq_false rfl)).trans ((kq238.ef 54 (fun _ => rfl)).trans ((kq170.ef 54 (fun _ => rfl)).trans ((kq26.ef 54 (fun _ => rfl)).trans ((pw7.ef 54 (Nat.ne_of_beq_eq_false rfl)).trans hg2))))))), eg261]
              refine lv_aload_n hx hb dX13_decide_126 rfl (lv_at hl 2 rfl) ?_
              refine th_get (ci := 14) (C := RX13) (T := TX13) (N := 97) (v := .ref (ad 55)) hx hb hts hinX13 hown hK hP hI 0 (Nat.le_of_ble_eq_true rfl) rfl rfl 73 (Nat.le_of_ble_eq_true rfl) (hts _ (vA_in _ _ (in_30 _ (List.mem_of_getElem? (i := 24) rfl)))) (fun _ h9 => h9) (hI.fr 0 (Nat.le_of_ble_eq_true rfl) rfl (Nat.le_of_ble_eq_true rfl) 55 rfl) dX13_decide_127 ?_
              refine lv_iload_n hx hb dX13_decide_130 rfl (lv_at hl 3 rfl) ?_
              refine lv_iconst (v := 1) hx hb dX13_decide_131 (by decide) ?_
              have n262 : vp_in a0 30 := (iv_in (n := 30) i15 (by decide))
              refine th_zast hx hb hK hP (WX_D hD) hS hI 55 (Nat.le_of_ble_eq_true rfl) rfl rfl n262 (iv_w ln_1 (by decide)) (okI rfl (iv_w ln_1 (by decide))) dX13_decide_132 (fun H locs E263 pw264 hI hP hS => ?_)
              have hKp := hKp.pw pw264 rfl
              obtain ⟨g265, eg265⟩ : ∃ z : Nat → Int32, z = upd g1 a0.toNatClampNeg (1 : Int32) := ⟨_, rfl⟩
              have hg265 : xi (E263 55) = g265 := by rw [pw264.eu, ((pw259.ef 55 (Nat.ne_of_beq_eq_false rfl)).trans ((pw252.ef 55 (Nat.ne_of_beq_eq_false rfl)).trans ((pw248.ef 55 (Nat.ne_of_beq_eq_false rfl)).trans ((pw244.ef 55 (Nat.ne_of_beq_eq_false rfl)).trans ((kq238.ef 55 (fun _ => rfl)).trans ((kq170.ef 55 (fun _ => rfl)).trans ((kq26.ef 55 (fun _ => rfl)).trans ((pw7.ef 55 (Nat.ne_of_beq_eq_false rfl)).trans hg1)))))))), eg265]
              refine lv_aload_n hx hb dX13_decide_133 rfl (lv_at hl 2 rfl) ?_
              refine th_get (ci := 14) (C := RX13) (T := TX13) (N := 97) (v := .ref (ad 51)) hx hb hts hinX13 hown hK hP hI 0 (Nat.le_of_ble_eq_true rfl) rfl rfl 69 (Nat.le_of_ble_eq_true rfl) (hts _ (vA_in _ _ (in_28 _ (List.mem_of_getElem? (i := 6) rfl)))) (fun _ h9 => h9) (hI.fr 0 (Nat.le_of_ble_eq_true rfl) rfl (Nat.le_of_ble_eq_true rfl) 51 rfl) dX13_decide_134 ?_
              refine lv_iload_n hx hb dX13_decide_137 rfl (lv_at hl 0 rfl) ?_
              have n267 : vp_in y166 60 := (iv_in (n := 60) i167 (by decide))
              refine th_iald hx hb hK hP hI 51 (Nat.le_of_ble_eq_true rfl) rfl rfl n267 dX13_decide_138 (fun y266 ey266 => ?_)
              have iy266 : 0 ≤ y266.toInt ∧ y266.toInt ≤ 3 := hI.el 51 (Nat.le_of_ble_eq_true rfl) rfl n267 (fun _ => rfl) ey266
              have ey266 := ey266.trans (congrFun ((pw264.ef 51 (Nat.ne_of_beq_eq_false rfl)).trans ((pw259.ef 51 (Nat.ne_of_beq_eq_false rfl)).trans ((pw252.ef 51 (Nat.ne_of_beq_eq_false rfl)).trans ((pw248.ef 51 (Nat.ne_of_beq_eq_false rfl)).trans hg245)))) _)
              rw [hQ]
              exact W.iret (v := y266) hx hb hr (fun t ht hW => ⟨⟨y266, E263, rfl, ⟨hI, hKp, Or.inl ⟨iy266, by rw [(show xi (E 55) = g1 from hg1)]; have gy18 := congrArg Int32.toInt ey18; all_goals omega, ⟨(show xi (E263 55) = g265 from hg265).trans (by rw [eg265, (show xi (E 55) = g1 from hg1)]), (show xi (E263 54) = g261 from ((pw264.ef 54 (Nat.ne_of_beq_eq_false rfl)).trans hg261)).trans (by rw [eg261, (show xi (E 54) = g2 from hg2)]; congr 1; rw [← ey254]; exact ey256), (show xi (E263 51) = g245 from ((pw264.ef 51 (Nat.ne_of_beq_eq_false rfl)).trans ((pw259.ef 51 (Nat.ne_of_beq_eq_false rfl)).trans ((pw252.ef 51 (Nat.ne_of_beq_eq_false rfl)).trans ((pw248.ef 51 (Nat.ne_of_beq_eq_false rfl)).trans hg245))))).trans (by rw [show g245 = upd g3 y166.toNatClampNeg y266 from by rw [ey266, eg245, pk_us], (show xi (E 51) = g3 from hg3), ← (show y166.toNatClampNeg = (2 * a0.toInt + (xi (E 54) a0.toNatClampNeg).toInt).toNat by rw [(show xi (E 54) = g2 from hg2), ← ey164, tn_]; omega)]), (show xi (E263 52) = g249 from ((pw264.ef 52 (Nat.ne_of_beq_eq_false rfl)).trans ((pw259.ef 52 (Nat.ne_of_beq_eq_false rfl)).trans ((pw252.ef 52 (Nat.ne_of_beq_eq_false rfl)).trans hg249)))).trans (by rw [eg249, (show xi (E 52) = g4 from hg4), ← (show y166.toNatClampNeg = (2 * a0.toInt + (xi (E 54) a0.toNatClampNeg).toInt).toNat by rw [(show xi (E 54) = g2 from hg2), ← ey164, tn_]; omega)]), (show xi (E263 53) = g253 from ((pw264.ef 53 (Nat.ne_of_beq_eq_false rfl)).trans ((pw259.ef 53 (Nat.ne_of_beq_eq_false rfl)).trans hg253))).trans (by rw [eg253, (show xi (E 53) = g5 from hg5), ← (show y166.toNatClampNeg = (2 * a0.toInt + (xi (E 54) a0.toNatClampNeg).toInt).toNat by rw [(show xi (E 54) = g2 from hg2), ← ey164, tn_]; omega)])⟩, by rw [(show xi (E263 55) = g265 from hg265), (show xi (E263 54) = g261 from ((pw264.ef 54 (Nat.ne_of_beq_eq_false rfl)).trans hg261))]; rw [eg265, eg261]; exact DIr_upd hDI⟩⟩, by show va_P (dC, dI) vwCl (WX 72 ad E263) t.heap; rw [ht]; exact hP⟩, hS.F ht⟩) hS.2.2 dX13_decide_139
            · --87 not
              have t268 : r236.toInt = 1 := ti_eq c239
              have i269 : 1 ≤ r236.toInt ∧ r236.toInt ≤ 1 := iv_eqi t268 (iv_all _) (il_ 1) (by decide)
              refine lv_iconst (v := 2) hx hb dX13_decide_90 (by decide) ?_
              refine lv_goto (tgt := 95) hx hb dX13_decide_91 (by decide) ?_
              refine lv_iadd hx hb dX13_decide_95 ?_
              refine lv_topi (fun y270 ey270 => ?_)
              obtain rfl : (3 : Int32) = y270 := (ey270.trans (by decide)).symm
              have n271 : vp_in y166 60 := (iv_in (n := 60) i167 (by decide))
              refine th_iast hx hb hK hP (WX_D hD) hS hI 51 (Nat.le_of_ble_eq_true rfl) rfl rfl n271 (okI rfl (iv_w ln_3 (by decide))) dX13_decide_96 (fun H locs E272 pw273 hI hP hS => ?_)
              have hKp := hKp.pw pw273 rfl
              obtain ⟨g274, eg274⟩ : ∃ z : Nat → Int32, z = upd g3 y166.toNatClampNeg (3 : Int32) := ⟨_, rfl⟩
              have hg274 : xi (E272 51) = g274 := by rw [pw273.eu, ((kq238.ef 51 (fun _ => rfl)).trans ((kq170.ef 51 (fun _ => rfl)).trans ((kq26.ef 51 (fun _ => rfl)).trans ((pw7.ef 51 (Nat.ne_of_beq_eq_false rfl)).trans hg3)))), eg274]
              refine lv_aload_n hx hb dX13_decide_97 rfl (lv_at hl 2 rfl) ?_
              refine th_get (ci := 14) (C := RX13) (T := TX13) (N := 97) (v := .ref (ad 52)) hx hb hts hinX13 hown hK hP hI 0 (Nat.le_of_ble_eq_true rfl) rfl rfl 70 (Nat.le_of_ble_eq_true rfl) (hts _ (vA_in _ _ (in_28 _ (List.mem_of_getElem? (i := 7) rfl)))) (fun _ h9 => h9) (hI.fr 0 (Nat.le_of_ble_eq_true rfl) rfl (Nat.le_of_ble_eq_true rfl) 52 rfl) dX13_decide_98 ?_
              refine lv_iload_n hx hb dX13_decide_101 rfl (lv_at hl 0 rfl) ?_
              refine lv_aload_n hx hb dX13_decide_102 rfl (lv_at hl 2 rfl) ?_
              refine th_get (ci := 14) (C := RX13) (T := TX13) (N := 97) (v := .int (xi (E 0) 1)) hx hb hts hinX13 hown hK hP hI 0 (Nat.le_of_ble_eq_true rfl) rfl rfl 1 (Nat.le_of_ble_eq_true rfl) (hts _ (vA_in _ _ (in_24 _ (List.mem_of_getElem? (i := 27) rfl)))) (fun _ h9 => h9) (th_v0 hKp hI0 0 (Nat.le_of_ble_eq_true rfl) rfl (Nat.le_of_ble_eq_true rfl) rfl rfl) dX13_decide_103 ?_
              have n275 : vp_in y166 60 := (iv_in (n := 60) i167 (by decide))
              refine th_iast hx hb hK hP (WX_D hD) hS hI 52 (Nat.le_of_ble_eq_true rfl) rfl rfl n275 (okI rfl i23) dX13_decide_106 (fun H locs E276 pw277 hI hP hS => ?_)
              have hKp := hKp.pw pw277 rfl
              obtain ⟨g278, eg278⟩ : ∃ z : Nat → Int32, z = upd g4 y166.toNatClampNeg (xi (E 0) 1) := ⟨_, rfl⟩
              have hg278 : xi (E276 52) = g278 := by rw [pw277.eu, ((pw273.ef 52 (Nat.ne_of_beq_eq_false rfl)).trans ((kq238.ef 52 (fun _ => rfl)).trans ((kq170.ef 52 (fun _ => rfl)).trans ((kq26.ef 52 (fun _ => rfl)).trans ((pw7.ef 52 (Nat.ne_of_beq_eq_false rfl)).trans hg4))))), eg278]
              refine lv_aload_n hx hb dX13_decide_107 rfl (lv_at hl 2 rfl) ?_
              refine th_get (ci := 14) (C := RX13) (T := TX13) (N := 97) (v := .ref (ad 53)) hx hb hts hinX13 hown hK hP hI 0 (Nat.le_of_ble_eq_true rfl) rfl rfl 71 (Nat.le_of_ble_eq_true rfl) (hts _ (vA_in _ _ (in_28 _ (List.mem_of_getElem? (i := 8) rfl)))) (fun _ h9 => h9) (hI.fr 0 (Nat.le_of_ble_eq_true rfl) rfl (Nat.le_of_ble_eq_true rfl) 53 rfl) dX13_decide_108 ?_
              refine lv_iload_n hx hb dX13_decide_111 rfl (lv_at hl 0 rfl) ?_
              refine lv_sipush (v := 1000) hx hb dX13_decide_112 (by decide) ?_
              have n279 : vp_in y166 60 := (iv_in (n := 60) i167 (by decide))
              refine th_iast hx hb hK hP (WX_D hD) hS hI 53 (Nat.le_of_ble_eq_true rfl) rfl rfl n279 (okI rfl (iv_w ln_1000 (by decide))) dX13_decide_115 (fun H locs E280 pw281 hI hP hS => ?_)
              have hKp := hKp.pw pw281 rfl
              obtain ⟨g282, eg282⟩ : ∃ z : Nat → Int32, z = upd g5 y166.toNatClampNeg (1000 : Int32) := ⟨_, rfl⟩
              have hg282 : xi (E280 53) = g282 := by rw [pw281.eu, ((pw277.ef 53 (Nat.ne_of_beq_eq_false rfl)).trans ((pw273.ef 53 (Nat.ne_of_beq_eq_false rfl)).trans ((kq238.ef 53 (fun _ => rfl)).trans ((kq170.ef 53 (fun _ => rfl)).trans ((kq26.ef 53 (fun _ => rfl)).trans ((pw7.ef 53 (Nat.ne_of_beq_eq_false rfl)).trans hg5)))))), eg282]
              refine lv_aload_n hx hb dX13_decide_116 rfl (lv_at hl 2 rfl) ?_
              refine th_get (ci := 14) (C := RX13) (T := TX13) (N := 97) (v := .ref (ad 54)) hx hb hts hinX13 hown hK hP hI 0 (Nat.le_of_ble_eq_true rfl) rfl rfl 72 (Nat.le_of_ble_eq_true rfl) (hts _ (vA_in _ _ (in_28 _ (List.mem_of_getElem? (i := 5) rfl)))) (fun _ h9 => h9) (hI.fr 0 (Nat.le_of_ble_eq_true rfl) rfl (Nat.le_of_ble_eq_true rfl) 54 rfl) dX13_decide_117 ?_
              refine lv_iload_n hx hb dX13_decide_120 rfl (lv_at hl 3 rfl) ?_
              refine lv_dup2_11 hx hb dX13_decide_121 rfl rfl ?_
              have n284 : vp_in a0 30 := (iv_in (n := 30) i15 (by decide))
              refine th_iald hx hb hK hP hI 54 (Nat.le_of_ble_eq_true rfl) rfl rfl n284 dX13_decide_122 (fun y283 ey283 => ?_)
              have iy283 : 0 ≤ y283.toInt ∧ y283.toInt ≤ 2 := hI.el 54 (Nat.le_of_ble_eq_true rfl) rfl n284 (fun _ => rfl) ey283
              have ey283 := ey283.trans (congrFun ((pw281.ef 54 (Nat.ne_of_beq_eq_false rfl)).trans ((pw277.ef 54 (Nat.ne_of_beq_eq_false rfl)).trans ((pw273.ef 54 (Nat.ne_of_beq_eq_false rfl)).trans ((kq238.ef 54 (fun _ => rfl)).trans ((kq170.ef 54 (fun _ => rfl)).trans ((kq26.ef 54 (fun _ => rfl)).trans ((pw7.ef 54 (Nat.ne_of_beq_eq_false rfl)).trans hg2))))))) _)
              have d2 : y283.toInt ≤ 1 := by rw [ey283, ← ey164]; exact d1
              refine lv_iconst (v := 1) hx hb dX13_decide_123 (by decide) ?_
              refine lv_iadd hx hb dX13_decide_124 ?_
              refine lv_topi (fun y285 ey285 => ?_)
              obtain ⟨ty285, iy285⟩ := ti_add (e := 1) (f := 3) iy283 ln_1 ey285 (by decide)
              have ty285 : y285.toInt = y283.toInt + 1 := ty285
              have iy285 : 1 ≤ y285.toInt ∧ y285.toInt ≤ 3 := iy285
              have n286 : vp_in a0 30 := (iv_in (n := 30) i15 (by decide))
              have i289 : 1 ≤ y285.toInt ∧ y285.toInt ≤ 2 := by omega
              refine th_iast hx hb hK hP (WX_D hD) hS hI 54 (Nat.le_of_ble_eq_true rfl) rfl rfl n286 (okI rfl (iv_w i289 (by decide))) dX13_decide_125 (fun H locs E287 pw288 hI hP hS => ?_)
              have hKp := hKp.pw pw288 rfl
              obtain ⟨g290, eg290⟩ : ∃ z : Nat → Int32, z = upd g2 a0.toNatClampNeg y285 := ⟨_, rfl⟩
              have hg290 : xi (E287 54) = g290 := by rw [pw288.eu, ((pw281.ef 54 (Nat.ne_of_beq_eq_false rfl)).trans ((pw277.ef 54 (Nat.ne_of_beq_eq_false rfl)).trans ((pw273.ef 54 (Nat.ne_of_beq_eq_false rfl)).trans ((kq238.ef 54 (fun _ => rfl)).trans ((kq170.ef 54 (fun _ => rfl)).trans ((kq26.ef 54 (fun _ => rfl)).trans ((pw7.ef 54 (Nat.ne_of_beq_eq_false rfl)).trans hg2))))))), eg290]
              refine lv_aload_n hx hb dX13_decide_126 rfl (lv_at hl 2 rfl) ?_
              refine th_get (ci := 14) (C := RX13) (T := TX13) (N := 97) (v := .ref (ad 55)) hx hb hts hinX13 hown hK hP hI 0 (Nat.le_of_ble_eq_true rfl) rfl rfl 73 (Nat.le_of_ble_eq_true rfl) (hts _ (vA_in _ _ (in_30 _ (List.mem_of_getElem? (i := 24) rfl)))) (fun _ h9 => h9) (hI.fr 0 (Nat.le_of_ble_eq_true rfl) rfl (Nat.le_of_ble_eq_true rfl) 55 rfl) dX13_decide_127 ?_
              refine lv_iload_n hx hb dX13_decide_130 rfl (lv_at hl 3 rfl) ?_
              refine lv_iconst (v := 1) hx hb dX13_decide_131 (by decide) ?_
              have n291 : vp_in a0 30 := (iv_in (n := 30) i15 (by decide))
              refine th_zast hx hb hK hP (WX_D hD) hS hI 55 (Nat.le_of_ble_eq_true rfl) rfl rfl n291 (iv_w ln_1 (by decide)) (okI rfl (iv_w ln_1 (by decide))) dX13_decide_132 (fun H locs E292 pw293 hI hP hS => ?_)
              have hKp := hKp.pw pw293 rfl
              obtain ⟨g294, eg294⟩ : ∃ z : Nat → Int32, z = upd g1 a0.toNatClampNeg (1 : Int32) := ⟨_, rfl⟩
              have hg294 : xi (E292 55) = g294 := by rw [pw293.eu, ((pw288.ef 55 (Nat.ne_of_beq_eq_false rfl)).trans ((pw281.ef 55 (Nat.ne_of_beq_eq_false rfl)).trans ((pw277.ef 55 (Nat.ne_of_beq_eq_false rfl)).trans ((pw273.ef 55 (Nat.ne_of_beq_eq_false rfl)).trans ((kq238.ef 55 (fun _ => rfl)).trans ((kq170.ef 55 (fun _ => rfl)).trans ((kq26.ef 55 (fun _ => rfl)).trans ((pw7.ef 55 (Nat.ne_of_beq_eq_false rfl)).trans hg1)))))))), eg294]
              refine lv_aload_n hx hb dX13_decide_133 rfl (lv_at hl 2 rfl) ?_
              refine th_get (ci := 14) (C := RX13) (T := TX13) (N := 97) (v := .ref (ad 51)) hx hb hts hinX13 hown hK hP hI 0 (Nat.le_of_ble_eq_true rfl) rfl rfl 69 (Nat.le_of_ble_eq_true rfl) (hts _ (vA_in _ _ (in_28 _ (List.mem_of_getElem? (i := 6) rfl)))) (fun _ h9 => h9) (hI.fr 0 (Nat.le_of_ble_eq_true rfl) rfl (Nat.le_of_ble_eq_true rfl) 51 rfl) dX13_decide_134 ?_
              refine lv_iload_n hx hb dX13_decide_137 rfl (lv_at hl 0 rfl) ?_
              have n296 : vp_in y166 60 := (iv_in (n := 60) i167 (by decide))
              refine th_iald hx hb hK hP hI 51 (Nat.le_of_ble_eq_true rfl) rfl rfl n296 dX13_decide_138 (fun y295 ey295 => ?_)
              have iy295 : 0 ≤ y295.toInt ∧ y295.toInt ≤ 3 := hI.el 51 (Nat.le_of_ble_eq_true rfl) rfl n296 (fun _ => rfl) ey295
              have ey295 := ey295.trans (congrFun ((pw293.ef 51 (Nat.ne_of_beq_eq_false rfl)).trans ((pw288.ef 51 (Nat.ne_of_beq_eq_false rfl)).trans ((pw281.ef 51 (Nat.ne_of_beq_eq_false rfl)).trans ((pw277.ef 51 (Nat.ne_of_beq_eq_false rfl)).trans hg274)))) _)
              rw [hQ]
              exact W.iret (v := y295) hx hb hr (fun t ht hW => ⟨⟨y295, E292, rfl, ⟨hI, hKp, Or.inl ⟨iy295, by rw [(show xi (E 55) = g1 from hg1)]; have gy18 := congrArg Int32.toInt ey18; all_goals omega, ⟨(show xi (E292 55) = g294 from hg294).trans (by rw [eg294, (show xi (E 55) = g1 from hg1)]), (show xi (E292 54) = g290 from ((pw293.ef 54 (Nat.ne_of_beq_eq_false rfl)).trans hg290)).trans (by rw [eg290, (show xi (E 54) = g2 from hg2)]; congr 1; rw [← ey283]; exact ey285), (show xi (E292 51) = g274 from ((pw293.ef 51 (Nat.ne_of_beq_eq_false rfl)).trans ((pw288.ef 51 (Nat.ne_of_beq_eq_false rfl)).trans ((pw281.ef 51 (Nat.ne_of_beq_eq_false rfl)).trans ((pw277.ef 51 (Nat.ne_of_beq_eq_false rfl)).trans hg274))))).trans (by rw [show g274 = upd g3 y166.toNatClampNeg y295 from by rw [ey295, eg274, pk_us], (show xi (E 51) = g3 from hg3), ← (show y166.toNatClampNeg = (2 * a0.toInt + (xi (E 54) a0.toNatClampNeg).toInt).toNat by rw [(show xi (E 54) = g2 from hg2), ← ey164, tn_]; omega)]), (show xi (E292 52) = g278 from ((pw293.ef 52 (Nat.ne_of_beq_eq_false rfl)).trans ((pw288.ef 52 (Nat.ne_of_beq_eq_false rfl)).trans ((pw281.ef 52 (Nat.ne_of_beq_eq_false rfl)).trans hg278)))).trans (by rw [eg278, (show xi (E 52) = g4 from hg4), ← (show y166.toNatClampNeg = (2 * a0.toInt + (xi (E 54) a0.toNatClampNeg).toInt).toNat by rw [(show xi (E 54) = g2 from hg2), ← ey164, tn_]; omega)]), (show xi (E292 53) = g282 from ((pw293.ef 53 (Nat.ne_of_beq_eq_false rfl)).trans ((pw288.ef 53 (Nat.ne_of_beq_eq_false rfl)).trans hg282))).trans (by rw [eg282, (show xi (E 53) = g5 from hg5), ← (show y166.toNatClampNeg = (2 * a0.toInt + (xi (E 54) a0.toNatClampNeg).toInt).toNat by rw [(show xi (E 54) = g2 from hg2), ← ey164, tn_]; omega)])⟩, by rw [(show xi (E292 55) = g294 from hg294), (show xi (E292 54) = g290 from ((pw293.ef 54 (Nat.ne_of_beq_eq_false rfl)).trans hg290))]; rw [eg294, eg290]; exact DIr_upd hDI⟩⟩, by show va_P (dC, dI) vwCl (WX 72 ad E292) t.heap; rw [ht]; exact hP⟩, hS.F ht⟩) hS.2.2 dX13_decide_139
      · --25 not
        have t297 : ¬ y18.toInt = 0 := ti_ne c20
        have i298 : 1 ≤ y18.toInt ∧ y18.toInt ≤ 1 := iv_ne_l t297 iy18 (il_ 0)
        refine lv_iconst (v := -1) hx hb dX13_decide_28 (by decide) ?_
        rw [hQ]
        exact W.iret (v := (-1)) hx hb hr (fun t ht hW => ⟨⟨(-1), E6, rfl, ⟨hI, hKp, Or.inr (⟨rfl, by rw [(show xi (E 55) = g1 from hg1)]; have gy18 := congrArg Int32.toInt ey18; all_goals omega, ⟨(show xi (E6 55) = g1 from ((pw7.ef 55 (Nat.ne_of_beq_eq_false rfl)).trans hg1)).trans (show xi (E 55) = g1 from hg1).symm, (show xi (E6 54) = g2 from ((pw7.ef 54 (Nat.ne_of_beq_eq_false rfl)).trans hg2)).trans (show xi (E 54) = g2 from hg2).symm, (show xi (E6 51) = g3 from ((pw7.ef 51 (Nat.ne_of_beq_eq_false rfl)).trans hg3)).trans (show xi (E 51) = g3 from hg3).symm, (show xi (E6 52) = g4 from ((pw7.ef 52 (Nat.ne_of_beq_eq_false rfl)).trans hg4)).trans (show xi (E 52) = g4 from hg4).symm, (show xi (E6 53) = g5 from ((pw7.ef 53 (Nat.ne_of_beq_eq_false rfl)).trans hg5)).trans (show xi (E 53) = g5 from hg5).symm⟩, by rw [(show xi (E6 55) = g1 from ((pw7.ef 55 (Nat.ne_of_beq_eq_false rfl)).trans hg1)), (show xi (E6 54) = g2 from ((pw7.ef 54 (Nat.ne_of_beq_eq_false rfl)).trans hg2))]; exact hDI⟩)⟩, by show va_P (dC, dI) vwCl (WX 72 ad E6) t.heap; rw [ht]; exact hP⟩, hS.F ht⟩) hS.2.2 dX13_decide_29
  · -- isIn, case 1
    obtain ⟨rfl, f299⟩ := hw
    have t300 : ¬ ((0 : Int) ≤ a0.toInt ∧ a0.toInt ≤ y9.toInt) := f299
    refine lv_if_eq (tgt := 28) hx hb dX13_decide_16 (by decide) (fun c301 => ?_) (fun c301 => ?_)
    · --16 taken
      refine lv_iconst (v := -1) hx hb dX13_decide_28 (by decide) ?_
      rw [hQ]
      exact W.iret (v := (-1)) hx hb hr (fun t ht hW => ⟨⟨(-1), E6, rfl, ⟨hI, hKp, Or.inr (⟨rfl, by rw [(show xi (E 55) = g1 from hg1)]; all_goals omega, ⟨(show xi (E6 55) = g1 from ((pw7.ef 55 (Nat.ne_of_beq_eq_false rfl)).trans hg1)).trans (show xi (E 55) = g1 from hg1).symm, (show xi (E6 54) = g2 from ((pw7.ef 54 (Nat.ne_of_beq_eq_false rfl)).trans hg2)).trans (show xi (E 54) = g2 from hg2).symm, (show xi (E6 51) = g3 from ((pw7.ef 51 (Nat.ne_of_beq_eq_false rfl)).trans hg3)).trans (show xi (E 51) = g3 from hg3).symm, (show xi (E6 52) = g4 from ((pw7.ef 52 (Nat.ne_of_beq_eq_false rfl)).trans hg4)).trans (show xi (E 52) = g4 from hg4).symm, (show xi (E6 53) = g5 from ((pw7.ef 53 (Nat.ne_of_beq_eq_false rfl)).trans hg5)).trans (show xi (E 53) = g5 from hg5).symm⟩, by rw [(show xi (E6 55) = g1 from ((pw7.ef 55 (Nat.ne_of_beq_eq_false rfl)).trans hg1)), (show xi (E6 54) = g2 from ((pw7.ef 54 (Nat.ne_of_beq_eq_false rfl)).trans hg2))]; exact hDI⟩)⟩, by show va_P (dC, dI) vwCl (WX 72 ad E6) t.heap; rw [ht]; exact hP⟩, hS.F ht⟩) hS.2.2 dX13_decide_29
    · --16 not
      exact absurd c301 (by decide)
def v_reopenX : List Cond := .code yX13_reopen cX13_reopen 2 (some .boolean) :: vA
abbrev rm_reopenX : Room := { frames := 1, cells := 0, slots := 0, locals := 40 }
def w_reopenX : Nat → Nat → Bool := wl [53, 55] [(0, 0)]
set_option maxHeartbeats 4000000 in
set_option maxRecDepth 100000 in
theorem q_reopenX (l : Launch) (dC : Nat → ClassId) (dI : Nat → Nat → Nat) (cT : Nat → ClassId) (ad : Nat → Nat) (E : Nat → va_E) (sz : Nat) (a0 : Int32) (hI0 : IX cT shM spM 72 ad E) (hh0 : DIr (xi (E 55)) (xi (E 54))) : Met l yX13_reopen v_reopenX rm_reopenX (va_Pc [.ref (ad 0), .int a0] (HW dC dI (TYM cT) 72 ad E sz)) (va_Qi (S := Nat → va_E) (fun r u => IX cT shM spM 72 ad u ∧ Kp w_reopenX E u ∧ ((r = 1 ∧ ((0 ≤ a0.toInt ∧ a0.toInt < (xi (E 0) 75).toInt) ∧ ¬ (xi (E 55) a0.toNatClampNeg).toInt = 0 ∧ ¬ (xi (E 54) a0.toNatClampNeg).toInt = 2) ∧ (xi (u 55) = upd (xi (E 55)) a0.toNatClampNeg 0 ∧ xi (u 54) = xi (E 54) ∧ xi (u 51) = xi (E 51) ∧ xi (u 52) = xi (E 52) ∧ xi (u 53) = upd (xi (E 53)) (2 * a0.toInt).toNat (xi (E 0) 1)) ∧ (DIr (xi (u 55)) (xi (u 54)))) ∨ (r = 0 ∧ (¬ ((0 ≤ a0.toInt ∧ a0.toInt < (xi (E 0) 75).toInt) ∧ ¬ (xi (E 55) a0.toNatClampNeg).toInt = 0 ∧ ¬ (xi (E 54) a0.toNatClampNeg).toInt = 2)) ∧ (xi (u 55) = xi (E 55) ∧ xi (u 54) = xi (E 54) ∧ xi (u 51) = xi (E 51) ∧ xi (u 52) = xi (E 52) ∧ xi (u 53) = xi (E 53)) ∧ (DIr (xi (u 55)) (xi (u 54)))))) (HB dC dI 72 ad) (va_A (WX 72 ad E) sz)) 0 0 (va_A (WX 72 ad E) sz) := by
  refine Met.ofW (cc := cX13_reopen) (maxL := 2) (ret := (some .boolean)) (by decide) rfl ?_
  intro p e s m args below meth c s₁ B hml hv
  obtain ⟨hargs, hsz, hP, hK, hD0, hEV⟩ := hv
  subst hsz
  have hx := B.exec
  have hb := B.bytes
  have hr := B.returns
  have hts := atoms_spec (ws := v_reopenX) B.pre
  have hown : s.vm.findClass RX13 = some m.cls := findClass_of_methodNamed B.named
  have hlocks := B.notSynchronized
  have hinX13 : ∀ w ∈ u_ws RX13 TX13 97, w ∈ v_reopenX := fun w h => vA_in _ w (in_X13 w h)
  generalize hAe : va_A (WX 72 ad E) s.heap.size = A at hEV ⊢
  have hA : ∀ q : Nat, s.heap.size ≤ q → A q := fun q h => by rw [← hAe]; exact Or.inr h
  have hD : va_D A (WX 72 ad E) := by rw [← hAe]; exact hD0.self
  have hS : va_S A s.heap s.heap [] := va_S.rf
  have hI := hI0
  have hKp : Kp w_reopenX E E := Kp.rf
  have hl := lv_entry ([.ref (ad 0), .int a0]) (n := 2) (Nat.le_of_ble_eq_true rfl)
  obtain ⟨Q, hQ⟩ : ∃ Q, Q = MQ below (va_Qi (S := Nat → va_E) (fun r u => IX cT shM spM 72 ad u ∧ Kp w_reopenX E u ∧ ((r = 1 ∧ ((0 ≤ a0.toInt ∧ a0.toInt < (xi (E 0) 75).toInt) ∧ ¬ (xi (E 55) a0.toNatClampNeg).toInt = 0 ∧ ¬ (xi (E 54) a0.toNatClampNeg).toInt = 2) ∧ (xi (u 55) = upd (xi (E 55)) a0.toNatClampNeg 0 ∧ xi (u 54) = xi (E 54) ∧ xi (u 51) = xi (E 51) ∧ xi (u 52) = xi (E 52) ∧ xi (u 53) = upd (xi (E 53)) (2 * a0.toInt).toNat (xi (E 0) 1)) ∧ (DIr (xi (u 55)) (xi (u 54)))) ∨ (r = 0 ∧ (¬ ((0 ≤ a0.toInt ∧ a0.toInt < (xi (E 0) 75).toInt) ∧ ¬ (xi (E 55) a0.toNatClampNeg).toInt = 0 ∧ ¬ (xi (E 54) a0.toNatClampNeg).toInt = 2)) ∧ (xi (u 55) = xi (E 55) ∧ xi (u 54) = xi (E 54) ∧ xi (u 51) = xi (E 51) ∧ xi (u 52) = xi (E 52) ∧ xi (u 53) = xi (E 53)) ∧ (DIr (xi (u 55)) (xi (u 54)))))) (HB dC dI 72 ad) (A)) args s 0 0 (A) := ⟨_, rfl⟩
  rw [← hQ, show entryFrame m args 2 = _ from (congrArg (fun z => entryFrame m z 2) hargs).trans (lg_entry_eq _ _ _)]
  generalize (lg_sl ([.ref (ad 0), .int a0]) ++ List.replicate (2 - (lg_sl ([.ref (ad 0), .int a0])).length) Slot.unset).toArray = ls at hl ⊢
  have hl : lv_has ls 2 [(0, .ref (ad 0)), (1, .int a0)] := hl
  obtain ⟨g1, hg1⟩ : ∃ g, xi (E 55) = g := ⟨_, rfl⟩
  obtain ⟨g2, hg2⟩ : ∃ g, xi (E 53) = g := ⟨_, rfl⟩
  have hDI : DIr g1 (xi (E 54)) := by rw [← hg1, ← (hKp.ef 54 (fun _ => rfl))]; exact hh0
  refine lv_aload_n hx hb dX13_reopen_0 rfl (lv_at hl 0 rfl) ?_
  refine lv_iconst (v := 0) hx hb dX13_reopen_1 (by decide) ?_
  refine th_put (ci := 14) (C := RX13) (T := TX13) (N := 97) (v := .int 0) (ty := .int) hx hb hts hinX13 tyX13 tyX13_ok nmX13 hown hK hP (WX_D hD) hS hI 0 (Nat.le_of_ble_eq_true rfl) rfl rfl 0 (Nat.le_of_ble_eq_true rfl) (hts _ (vA_in _ _ (in_24 _ (List.mem_of_getElem? (i := 10) rfl)))) (fun _ h9 => h9) rfl (by decide +kernel) rfl rfl (okI rfl (iv_w ln_0 (by decide))) dX13_reopen_2 (fun H locs E3 pw4 hI hP hS => ?_)
  have hKp := hKp.pw pw4 rfl
  refine lv_iload_n hx hb dX13_reopen_5 rfl (lv_at hl 1 rfl) ?_
  refine lv_iconst (v := 0) hx hb dX13_reopen_6 (by decide) ?_
  refine lv_aload_n hx hb dX13_reopen_7 rfl (lv_at hl 0 rfl) ?_
  have i5 : 0 ≤ (xi (E 0) 75).toInt ∧ (xi (E 0) 75).toInt ≤ 30 := hI0.iv 0 (Nat.le_of_ble_eq_true rfl) rfl (Nat.le_of_ble_eq_true rfl) rfl
  refine th_get (ci := 14) (C := RX13) (T := TX13) (N := 97) (v := .int (xi (E 0) 75)) hx hb hts hinX13 hown hK hP hI 0 (Nat.le_of_ble_eq_true rfl) rfl rfl 75 (Nat.le_of_ble_eq_true rfl) (hts _ (vA_in _ _ (in_25 _ (List.mem_of_getElem? (i := 1) rfl)))) (fun _ h9 => h9) (th_v0 hKp hI0 0 (Nat.le_of_ble_eq_true rfl) rfl (Nat.le_of_ble_eq_true rfl) rfl rfl) dX13_reopen_8 ?_
  refine lv_iconst (v := 1) hx hb dX13_reopen_11 (by decide) ?_
  refine lv_isub hx hb dX13_reopen_12 ?_
  refine lv_topi (fun y6 ey6 => ?_)
  obtain ⟨ty6, iy6⟩ := ti_sub (e := (-1)) (f := 29) i5 ln_1 ey6 (by decide)
  have ty6 : y6.toInt = (xi (E 0) 75).toInt - 1 := ty6
  have iy6 : -1 ≤ y6.toInt ∧ y6.toInt ≤ 29 := iy6
  refine th_pi (va_runS (As := [.int a0, .int 0, .int y6]) (rest := []) ⟨hx, hb, hml, hown, hts⟩ (q_isIn l a0 (0 : Int32) y6) (va_cwS 3 hts (gi_S (in_24 _ (List.mem_of_getElem? (i := 28) rfl)) (in_24 _ (List.mem_of_getElem? (i := 29) rfl)) (in_24 _ (List.mem_of_getElem? (i := 15) rfl)) (in_24 _ (List.mem_of_getElem? (i := 30) rfl))) rfl rfl rfl (by decide +kernel) ⟨Nat.le_of_ble_eq_true rfl, Nat.le_of_ble_eq_true rfl⟩) ⟨fun _ _ _ _ q => q, fun _ _ _ => ⟨rfl, trivial⟩⟩ rfl rfl hl.1 rfl (lv_room (Nat.le_of_ble_eq_true rfl)) dX13_reopen_13 ⟨Nat.le_of_ble_eq_true rfl, Nat.le_of_ble_eq_true rfl⟩) hS (fun r7 H1 locs1 hw hk1 hS => ?_)
  have hP := ub_keep hP hk1
  generalize H1 = H at hP hS ⊢
  generalize locs1 = locs at hS ⊢
  rcases hw with hw | hw
  · -- isIn, case 0
    obtain ⟨rfl, f8⟩ := hw
    have t9 : (0 : Int) ≤ a0.toInt := f8.1
    have t10 : a0.toInt ≤ y6.toInt := f8.2
    have i11 : 0 ≤ a0.toInt ∧ a0.toInt ≤ 2147483647 := iv_le_r t9 (il_ 0) (iv_all _) (by decide)
    have i12 : 0 ≤ a0.toInt ∧ a0.toInt ≤ 29 := iv_le_l t10 i11 iy6 (by decide)
    have i13 : 0 ≤ y6.toInt ∧ y6.toInt ≤ 29 := iv_le_r t10 i11 iy6 (by decide)
    refine lv_if_eq (tgt := 38) hx hb dX13_reopen_16 (by decide) (fun c14 => ?_) (fun c14 => ?_)
    · --16 taken
      exact absurd c14 (by decide)
    · --16 not
      refine lv_aload_n hx hb dX13_reopen_19 rfl (lv_at hl 0 rfl) ?_
      refine th_get (ci := 14) (C := RX13) (T := TX13) (N := 97) (v := .ref (ad 55)) hx hb hts hinX13 hown hK hP hI 0 (Nat.le_of_ble_eq_true rfl) rfl rfl 73 (Nat.le_of_ble_eq_true rfl) (hts _ (vA_in _ _ (in_30 _ (List.mem_of_getElem? (i := 24) rfl)))) (fun _ h9 => h9) (hI.fr 0 (Nat.le_of_ble_eq_true rfl) rfl (Nat.le_of_ble_eq_true rfl) 55 rfl) dX13_reopen_20 ?_
      refine lv_iload_n hx hb dX13_reopen_23 rfl (lv_at hl 1 rfl) ?_
      have n16 : vp_in a0 30 := (iv_in (n := 30) i12 (by decide))
      refine th_zald hx hb hK hP hI 55 (Nat.le_of_ble_eq_true rfl) rfl rfl n16 dX13_reopen_24 (fun y15 ey15 => ?_)
      have iy15 : 0 ≤ y15.toInt ∧ y15.toInt ≤ 1 := hI.el 55 (Nat.le_of_ble_eq_true rfl) rfl n16 (fun _ => rfl) ey15
      have ey15 := ey15.trans (congrFun ((pw4.ef 55 (Nat.ne_of_beq_eq_false rfl)).trans hg1) _)
      refine lv_if_eq (tgt := 38) hx hb dX13_reopen_25 (by decide) (fun c17 => ?_) (fun c17 => ?_)
      · --25 taken
        have t18 : y15.toInt = 0 := ti_eq c17
        have i19 : 0 ≤ y15.toInt ∧ y15.toInt ≤ 0 := iv_eqi t18 iy15 (il_ 0) (by decide)
        refine lv_iconst (v := 0) hx hb dX13_reopen_38 (by decide) ?_
        rw [hQ]
        exact W.zret (v := 0) hx hb hr rfl (fun t ht hW => ⟨⟨0, E3, rfl, ⟨hI, hKp, Or.inr (⟨rfl, by rw [(show xi (E 55) = g1 from hg1), (show xi (E 54) = xi (E 54) from rfl)]; have gy15 := congrArg Int32.toInt ey15; all_goals omega, ⟨(show xi (E3 55) = g1 from ((pw4.ef 55 (Nat.ne_of_beq_eq_false rfl)).trans hg1)).trans (show xi (E 55) = g1 from hg1).symm, (show xi (E3 54) = xi (E 54) from (hKp.ef 54 (fun _ => rfl))).trans (show xi (E 54) = xi (E 54) from rfl).symm, (show xi (E3 51) = xi (E 51) from (hKp.ef 51 (fun _ => rfl))).trans (show xi (E 51) = xi (E 51) from rfl).symm, (show xi (E3 52) = xi (E 52) from (hKp.ef 52 (fun _ => rfl))).trans (show xi (E 52) = xi (E 52) from rfl).symm, (show xi (E3 53) = g2 from ((pw4.ef 53 (Nat.ne_of_beq_eq_false rfl)).trans hg2)).trans (show xi (E 53) = g2 from hg2).symm⟩, by rw [(show xi (E3 55) = g1 from ((pw4.ef 55 (Nat.ne_of_beq_eq_false rfl)).trans hg1)), (show xi (E3 54) = xi (E 54) from (hKp.ef 54 (fun _ => rfl)))]; exact hDI⟩)⟩, by show va_P (dC, dI) vwCl (WX 72 ad E3) t.heap; rw [ht]; exact hP⟩, hS.F ht⟩) hS.2.2 dX13_reopen_39
      · --25 not
        have t20 : ¬ y15.toInt = 0 := ti_ne c17
        have i21 : 1 ≤ y15.toInt ∧ y15.toInt ≤ 1 := iv_ne_l t20 iy15 (il_ 0)
        refine lv_aload_n hx hb dX13_reopen_28 rfl (lv_at hl 0 rfl) ?_
        refine th_get (ci := 14) (C := RX13) (T := TX13) (N := 97) (v := .ref (ad 54)) hx hb hts hinX13 hown hK hP hI 0 (Nat.le_of_ble_eq_true rfl) rfl rfl 72 (Nat.le_of_ble_eq_true rfl) (hts _ (vA_in _ _ (in_28 _ (List.mem_of_getElem? (i := 5) rfl)))) (fun _ h9 => h9) (hI.fr 0 (Nat.le_of_ble_eq_true rfl) rfl (Nat.le_of_ble_eq_true rfl) 54 rfl) dX13_reopen_29 ?_
        refine lv_iload_n hx hb dX13_reopen_32 rfl (lv_at hl 1 rfl) ?_
        have n23 : vp_in a0 30 := (iv_in (n := 30) i12 (by decide))
        refine th_iald hx hb hK hP hI 54 (Nat.le_of_ble_eq_true rfl) rfl rfl n23 dX13_reopen_33 (fun y22 ey22 => ?_)
        have iy22 : 0 ≤ y22.toInt ∧ y22.toInt ≤ 2 := hI.el 54 (Nat.le_of_ble_eq_true rfl) rfl n23 (fun _ => rfl) ey22
        have ey22 := ey22.trans (congrFun (hKp.ef 54 (fun _ => rfl)) _)
        refine lv_iconst (v := 2) hx hb dX13_reopen_34 (by decide) ?_
        refine lv_icmp_ne (tgt := 40) hx hb dX13_reopen_35 (by decide) (fun c24 => ?_) (fun c24 => ?_)
        · --35 taken
          have t25 : ¬ y22.toInt = 2 := ti_ne c24
          have i26 : 0 ≤ y22.toInt ∧ y22.toInt ≤ 1 := iv_ne_r t25 iy22 (il_ 2)
          refine lv_aload_n hx hb dX13_reopen_40 rfl (lv_at hl 0 rfl) ?_
          refine th_get (ci := 14) (C := RX13) (T := TX13) (N := 97) (v := .ref (ad 55)) hx hb hts hinX13 hown hK hP hI 0 (Nat.le_of_ble_eq_true rfl) rfl rfl 73 (Nat.le_of_ble_eq_true rfl) (hts _ (vA_in _ _ (in_30 _ (List.mem_of_getElem? (i := 24) rfl)))) (fun _ h9 => h9) (hI.fr 0 (Nat.le_of_ble_eq_true rfl) rfl (Nat.le_of_ble_eq_true rfl) 55 rfl) dX13_reopen_41 ?_
          refine lv_iload_n hx hb dX13_reopen_44 rfl (lv_at hl 1 rfl) ?_
          refine lv_iconst (v := 0) hx hb dX13_reopen_45 (by decide) ?_
          have n27 : vp_in a0 30 := (iv_in (n := 30) i12 (by decide))
          refine th_zast hx hb hK hP (WX_D hD) hS hI 55 (Nat.le_of_ble_eq_true rfl) rfl rfl n27 (iv_w ln_0 (by decide)) (okI rfl (iv_w ln_0 (by decide))) dX13_reopen_46 (fun H locs E28 pw29 hI hP hS => ?_)
          have hKp := hKp.pw pw29 rfl
          obtain ⟨g30, eg30⟩ : ∃ z : Nat → Int32, z = upd g1 a0.toNatClampNeg (0 : Int32) := ⟨_, rfl⟩
          have hg30 : xi (E28 55) = g30 := by rw [pw29.eu, ((pw4.ef 55 (Nat.ne_of_beq_eq_false rfl)).trans hg1), eg30]
          refine lv_aload_n hx hb dX13_reopen_47 rfl (lv_at hl 0 rfl) ?_
          refine th_get (ci := 14) (C := RX13) (T := TX13) (N := 97) (v := .ref (ad 53)) hx hb hts hinX13 hown hK hP hI 0 (Nat.le_of_ble_eq_true rfl) rfl rfl 71 (Nat.le_of_ble_eq_true rfl) (hts _ (vA_in _ _ (in_28 _ (List.mem_of_getElem? (i := 8) rfl)))) (fun _ h9 => h9) (hI.fr 0 (Nat.le_of_ble_eq_true rfl) rfl (Nat.le_of_ble_eq_true rfl) 53 rfl) dX13_reopen_48 ?_
          refine lv_iconst (v := 2) hx hb dX13_reopen_51 (by decide) ?_
          refine lv_iload_n hx hb dX13_reopen_52 rfl (lv_at hl 1 rfl) ?_
          refine lv_imul hx hb dX13_reopen_53 ?_
          refine lv_topi (fun y31 ey31 => ?_)
          obtain ⟨ty31, iy31⟩ := ti_mul (e := 0) (f := 58) ln_2 i12 ey31 (by decide)
          have ty31 : y31.toInt = 2 * a0.toInt := ty31
          have iy31 : 0 ≤ y31.toInt ∧ y31.toInt ≤ 58 := iy31
          refine lv_aload_n hx hb dX13_reopen_54 rfl (lv_at hl 0 rfl) ?_
          have i32 : 0 ≤ (xi (E 0) 1).toInt ∧ (xi (E 0) 1).toInt ≤ 400 := hI0.iv 0 (Nat.le_of_ble_eq_true rfl) rfl (Nat.le_of_ble_eq_true rfl) rfl
          refine th_get (ci := 14) (C := RX13) (T := TX13) (N := 97) (v := .int (xi (E 0) 1)) hx hb hts hinX13 hown hK hP hI 0 (Nat.le_of_ble_eq_true rfl) rfl rfl 1 (Nat.le_of_ble_eq_true rfl) (hts _ (vA_in _ _ (in_24 _ (List.mem_of_getElem? (i := 27) rfl)))) (fun _ h9 => h9) (th_v0 hKp hI0 0 (Nat.le_of_ble_eq_true rfl) rfl (Nat.le_of_ble_eq_true rfl) rfl rfl) dX13_reopen_55 ?_
          have n33 : vp_in y31 60 := (iv_in (n := 60) iy31 (by decide))
          refine th_iast hx hb hK hP (WX_D hD) hS hI 53 (Nat.le_of_ble_eq_true rfl) rfl rfl n33 (okI rfl (iv_w i32 (by decide))) dX13_reopen_58 (fun H locs E34 pw35 hI hP hS => ?_)
          have hKp := hKp.pw pw35 rfl
          obtain ⟨g36, eg36⟩ : ∃ z : Nat → Int32, z = upd g2 y31.toNatClampNeg (xi (E 0) 1) := ⟨_, rfl⟩
          have hg36 : xi (E34 53) = g36 := by rw [pw35.eu, ((pw29.ef 53 (Nat.ne_of_beq_eq_false rfl)).trans ((pw4.ef 53 (Nat.ne_of_beq_eq_false rfl)).trans hg2)), eg36]
          refine lv_iconst (v := 1) hx hb dX13_reopen_59 (by decide) ?_
          rw [hQ]
          exact W.zret (v := 1) hx hb hr rfl (fun t ht hW => ⟨⟨1, E34, rfl, ⟨hI, hKp, Or.inl ⟨rfl, by rw [(show xi (E 55) = g1 from hg1), (show xi (E 54) = xi (E 54) from rfl)]; have gy15 := congrArg Int32.toInt ey15; have gy22 := congrArg Int32.toInt ey22; all_goals omega, ⟨(show xi (E34 55) = g30 from ((pw35.ef 55 (Nat.ne_of_beq_eq_false rfl)).trans hg30)).trans (by rw [eg30, (show xi (E 55) = g1 from hg1)]), (show xi (E34 54) = xi (E 54) from (hKp.ef 54 (fun _ => rfl))).trans (show xi (E 54) = xi (E 54) from rfl).symm, (show xi (E34 51) = xi (E 51) from (hKp.ef 51 (fun _ => rfl))).trans (show xi (E 51) = xi (E 51) from rfl).symm, (show xi (E34 52) = xi (E 52) from (hKp.ef 52 (fun _ => rfl))).trans (show xi (E 52) = xi (E 52) from rfl).symm, (show xi (E34 53) = g36 from hg36).trans (by rw [eg36, (show xi (E 53) = g2 from hg2)]; congr 1; rw [tn_]; omega)⟩, by rw [(show xi (E34 55) = g30 from ((pw35.ef 55 (Nat.ne_of_beq_eq_false rfl)).trans hg30)), (show xi (E34 54) = xi (E 54) from (hKp.ef 54 (fun _ => rfl)))]; rw [eg30]; exact DIr_re hDI (by rw [← ey22]; omega)⟩⟩, by show va_P (dC, dI) vwCl (WX 72 ad E34) t.heap; rw [ht]; exact hP⟩, hS.F ht⟩) hS.2.2 dX13_reopen_60
        · --35 not
          have t37 : y22.toInt = 2 := ti_eq c24
          have i38 : 2 ≤ y22.toInt ∧ y22.toInt ≤ 2 := iv_eqi t37 iy22 (il_ 2) (by decide)
          refine lv_iconst (v := 0) hx hb dX13_reopen_38 (by decide) ?_
          rw [hQ]
          exact W.zret (v := 0) hx hb hr rfl (fun t ht hW => ⟨⟨0, E3, rfl, ⟨hI, hKp, Or.inr (⟨rfl, by rw [(show xi (E 55) = g1 from hg1), (show xi (E 54) = xi (E 54) from rfl)]; have gy15 := congrArg Int32.toInt ey15; have gy22 := congrArg Int32.toInt ey22; all_goals omega, ⟨(show xi (E3 55) = g1 from ((pw4.ef 55 (Nat.ne_of_beq_eq_false rfl)).trans hg1)).trans (show xi (E 55) = g1 from hg1).symm, (show xi (E3 54) = xi (E 54) from (hKp.ef 54 (fun _ => rfl))).trans (show xi (E 54) = xi (E 54) from rfl).symm, (show xi (E3 51) = xi (E 51) from (hKp.ef 51 (fun _ => rfl))).trans (show xi (E 51) = xi (E 51) from rfl).symm, (show xi (E3 52) = xi (E 52) from (hKp.ef 52 (fun _ => rfl))).trans (show xi (E 52) = xi (E 52) from rfl).symm, (show xi (E3 53) = g2 from ((pw4.ef 53 (Nat.ne_of_beq_eq_false rfl)).trans hg2)).trans (show xi (E 53) = g2 from hg2).symm⟩, by rw [(show xi (E3 55) = g1 from ((pw4.ef 55 (Nat.ne_of_beq_eq_false rfl)).trans hg1)), (show xi (E3 54) = xi (E 54) from (hKp.ef 54 (fun _ => rfl)))]; exact hDI⟩)⟩, by show va_P (dC, dI) vwCl (WX 72 ad E3) t.heap; rw [ht]; exact hP⟩, hS.F ht⟩) hS.2.2 dX13_reopen_39
  · -- isIn, case 1
    obtain ⟨rfl, f39⟩ := hw
    have t40 : ¬ ((0 : Int) ≤ a0.toInt ∧ a0.toInt ≤ y6.toInt) := f39
    refine lv_if_eq (tgt := 38) hx hb dX13_reopen_16 (by decide) (fun c41 => ?_) (fun c41 => ?_)
    · --16 taken
      refine lv_iconst (v := 0) hx hb dX13_reopen_38 (by decide) ?_
      rw [hQ]
      exact W.zret (v := 0) hx hb hr rfl (fun t ht hW => ⟨⟨0, E3, rfl, ⟨hI, hKp, Or.inr (⟨rfl, by rw [(show xi (E 55) = g1 from hg1), (show xi (E 54) = xi (E 54) from rfl)]; all_goals omega, ⟨(show xi (E3 55) = g1 from ((pw4.ef 55 (Nat.ne_of_beq_eq_false rfl)).trans hg1)).trans (show xi (E 55) = g1 from hg1).symm, (show xi (E3 54) = xi (E 54) from (hKp.ef 54 (fun _ => rfl))).trans (show xi (E 54) = xi (E 54) from rfl).symm, (show xi (E3 51) = xi (E 51) from (hKp.ef 51 (fun _ => rfl))).trans (show xi (E 51) = xi (E 51) from rfl).symm, (show xi (E3 52) = xi (E 52) from (hKp.ef 52 (fun _ => rfl))).trans (show xi (E 52) = xi (E 52) from rfl).symm, (show xi (E3 53) = g2 from ((pw4.ef 53 (Nat.ne_of_beq_eq_false rfl)).trans hg2)).trans (show xi (E 53) = g2 from hg2).symm⟩, by rw [(show xi (E3 55) = g1 from ((pw4.ef 55 (Nat.ne_of_beq_eq_false rfl)).trans hg1)), (show xi (E3 54) = xi (E 54) from (hKp.ef 54 (fun _ => rfl)))]; exact hDI⟩)⟩, by show va_P (dC, dI) vwCl (WX 72 ad E3) t.heap; rw [ht]; exact hP⟩, hS.F ht⟩) hS.2.2 dX13_reopen_39
    · --16 not
      exact absurd c41 (by decide)
def v_toldX : List Cond := .code yX13_told cX13_told 5 (some .int) :: vA
abbrev rm_toldX : Room := { frames := 1, cells := 0, slots := 0, locals := 40 }
def w_toldX : Nat → Nat → Bool := wl [] [(0, 0)]
set_option maxHeartbeats 4000000 in
set_option maxRecDepth 100000 in
theorem q_toldX (l : Launch) (dC : Nat → ClassId) (dI : Nat → Nat → Nat) (cT : Nat → ClassId) (ad : Nat → Nat) (E : Nat → va_E) (sz : Nat) (a0 : Int32) (a1 : Int32) (hI0 : IX cT shM spM 72 ad E)  : Met l yX13_told v_toldX rm_toldX (va_Pc [.ref (ad 0), .int a0, .int a1] (HW dC dI (TYM cT) 72 ad E sz)) (va_Qi (S := Nat → va_E) (fun r u => IX cT shM spM 72 ad u ∧ Kp w_toldX E u ∧ ((((((0 ≤ a0.toInt ∧ a0.toInt < (xi (E 0) 46).toInt) ∧ (0 ≤ a1.toInt ∧ a1.toInt ≤ 8)) → ((xi (u 0) 0).toInt = 0 ∧ (a1.toInt = 0 → r.toInt = (xi (E 13) a0.toNatClampNeg).toInt) ∧ (a1.toInt = 1 → r.toInt = (xi (E 14) a0.toNatClampNeg).toInt) ∧ (a1.toInt = 2 → r.toInt = (xi (E 15) a0.toNatClampNeg).toInt) ∧ (a1.toInt = 3 → r.toInt = (xi (E 16) a0.toNatClampNeg).toInt) ∧ (a1.toInt = 4 → r.toInt = (xi (E 17) a0.toNatClampNeg).toInt) ∧ (a1.toInt = 5 → r.toInt = (xi (E 18) a0.toNatClampNeg).toInt) ∧ (a1.toInt = 6 → r.toInt = (entM (xi (E 21)) (xi (E 0) 1).toInt (16 * a0.toInt).toNat (xi (E 0) 8).toNatClampNeg : Int)) ∧ (a1.toInt = 7 → r.toInt = (xi (E 19) a0.toNatClampNeg).toInt) ∧ (a1.toInt = 8 → r.toInt = (xi (E 20) a0.toNatClampNeg).toInt))) ∧ (¬ ((0 ≤ a0.toInt ∧ a0.toInt < (xi (E 0) 46).toInt) ∧ (0 ≤ a1.toInt ∧ a1.toInt ≤ 8)) → ((xi (u 0) 0).toInt = 1 ∧ r.toInt = 0)))))) (HB dC dI 72 ad) (va_A (WX 72 ad E) sz)) 0 0 (va_A (WX 72 ad E) sz) := by
  refine Met.ofW (cc := cX13_told) (maxL := 5) (ret := (some .int)) (by decide) rfl ?_
  intro p e s m args below meth c s₁ B hml hv
  obtain ⟨hargs, hsz, hP, hK, hD0, hEV⟩ := hv
  subst hsz
  have hx := B.exec
  have hb := B.bytes
  have hr := B.returns
  have hts := atoms_spec (ws := v_toldX) B.pre
  have hown : s.vm.findClass RX13 = some m.cls := findClass_of_methodNamed B.named
  have hlocks := B.notSynchronized
  have hinX13 : ∀ w ∈ u_ws RX13 TX13 97, w ∈ v_toldX := fun w h => vA_in _ w (in_X13 w h)
  generalize hAe : va_A (WX 72 ad E) s.heap.size = A at hEV ⊢
  have hA : ∀ q : Nat, s.heap.size ≤ q → A q := fun q h => by rw [← hAe]; exact Or.inr h
  have hD : va_D A (WX 72 ad E) := by rw [← hAe]; exact hD0.self
  have hS : va_S A s.heap s.heap [] := va_S.rf
  have hI := hI0
  have hKp : Kp w_toldX E E := Kp.rf
  have hl := lv_entry ([.ref (ad 0), .int a0, .int a1]) (n := 5) (Nat.le_of_ble_eq_true rfl)
  obtain ⟨Q, hQ⟩ : ∃ Q, Q = MQ below (va_Qi (S := Nat → va_E) (fun r u => IX cT shM spM 72 ad u ∧ Kp w_toldX E u ∧ ((((((0 ≤ a0.toInt ∧ a0.toInt < (xi (E 0) 46).toInt) ∧ (0 ≤ a1.toInt ∧ a1.toInt ≤ 8)) → ((xi (u 0) 0).toInt = 0 ∧ (a1.toInt = 0 → r.toInt = (xi (E 13) a0.toNatClampNeg).toInt) ∧ (a1.toInt = 1 → r.toInt = (xi (E 14) a0.toNatClampNeg).toInt) ∧ (a1.toInt = 2 → r.toInt = (xi (E 15) a0.toNatClampNeg).toInt) ∧ (a1.toInt = 3 → r.toInt = (xi (E 16) a0.toNatClampNeg).toInt) ∧ (a1.toInt = 4 → r.toInt = (xi (E 17) a0.toNatClampNeg).toInt) ∧ (a1.toInt = 5 → r.toInt = (xi (E 18) a0.toNatClampNeg).toInt) ∧ (a1.toInt = 6 → r.toInt = (entM (xi (E 21)) (xi (E 0) 1).toInt (16 * a0.toInt).toNat (xi (E 0) 8).toNatClampNeg : Int)) ∧ (a1.toInt = 7 → r.toInt = (xi (E 19) a0.toNatClampNeg).toInt) ∧ (a1.toInt = 8 → r.toInt = (xi (E 20) a0.toNatClampNeg).toInt))) ∧ (¬ ((0 ≤ a0.toInt ∧ a0.toInt < (xi (E 0) 46).toInt) ∧ (0 ≤ a1.toInt ∧ a1.toInt ≤ 8)) → ((xi (u 0) 0).toInt = 1 ∧ r.toInt = 0)))))) (HB dC dI 72 ad) (A)) args s 0 0 (A) := ⟨_, rfl⟩
  rw [← hQ, show entryFrame m args 5 = _ from (congrArg (fun z => entryFrame m z 5) hargs).trans (lg_entry_eq _ _ _)]
  generalize (lg_sl ([.ref (ad 0), .int a0, .int a1]) ++ List.replicate (5 - (lg_sl ([.ref (ad 0), .int a0, .int a1])).length) Slot.unset).toArray = ls at hl ⊢
  have hl : lv_has ls 5 [(0, .ref (ad 0)), (1, .int a0), (2, .int a1)] := hl
  refine lv_aload_n hx hb dX13_told_0 rfl (lv_at hl 0 rfl) ?_
  refine lv_aload_n hx hb dX13_told_1 rfl (lv_at hl 0 rfl) ?_
  refine lv_iload_n hx hb dX13_told_2 rfl (lv_at hl 1 rfl) ?_
  refine th_ri (va_runV (As := [.int a0]) (rest := [.ref (ad 0)]) ⟨hx, hb, hml, hown, hts⟩ (q_isRace l dC dI cT ad E s.heap.size a0 hI) (cwV 1 hts (gi_V (in_24 _ (List.mem_of_getElem? (i := 12) rfl)) (in_24 _ (List.mem_of_getElem? (i := 13) rfl)) (in_24 _ (List.mem_of_getElem? (i := 14) rfl)) (in_24 _ (List.mem_of_getElem? (i := 15) rfl)) (in_24 _ (List.mem_of_getElem? (i := 16) rfl))) rfl rfl rfl (by decide +kernel) ⟨Nat.le_of_ble_eq_true rfl, Nat.le_of_ble_eq_true rfl⟩) ⟨HW_bl, va_recv hK hP (ci := 14) (q0 := 0) rfl (hI.ob 0 (Nat.le_of_ble_eq_true rfl) rfl), (HW_wi hP hK (WX_D hD) hS hA hEV)⟩ rfl rfl hl.1 rfl (lv_room (Nat.le_of_ble_eq_true rfl)) dX13_told_3 ⟨Nat.le_of_ble_eq_true rfl, Nat.le_of_ble_eq_true rfl⟩) hS hP (fun r1 H locs hw hP hS => ?_)
  rcases hw with hw | hw
  · -- isRace, case 0
    obtain ⟨rfl, f2, f3⟩ := hw
    have i4 : 0 ≤ (xi (E 0) 46).toInt ∧ (xi (E 0) 46).toInt ≤ 20 := (show 0 ≤ (xi (E 0) 46).toInt ∧ (xi (E 0) 46).toInt ≤ 20 from hI0.iv 0 (Nat.le_of_ble_eq_true rfl) rfl (Nat.le_of_ble_eq_true rfl) rfl)
    refine lv_if_eq (tgt := 23) hx hb dX13_told_6 (by decide) (fun c5 => ?_) (fun c5 => ?_)
    · --6 taken
      exact absurd c5 (by decide)
    · --6 not
      refine lv_iload_n hx hb dX13_told_9 rfl (lv_at hl 2 rfl) ?_
      refine lv_iconst (v := 0) hx hb dX13_told_10 (by decide) ?_
      refine lv_bipush (v := 8) hx hb dX13_told_11 (by decide) ?_
      refine th_pi (va_runS (As := [.int a1, .int 0, .int 8]) (rest := [.ref (ad 0)]) ⟨hx, hb, hml, hown, hts⟩ (q_isIn l a1 (0 : Int32) (8 : Int32)) (va_cwS 3 hts (gi_S (in_24 _ (List.mem_of_getElem? (i := 28) rfl)) (in_24 _ (List.mem_of_getElem? (i := 29) rfl)) (in_24 _ (List.mem_of_getElem? (i := 15) rfl)) (in_24 _ (List.mem_of_getElem? (i := 30) rfl))) rfl rfl rfl (by decide +kernel) ⟨Nat.le_of_ble_eq_true rfl, Nat.le_of_ble_eq_true rfl⟩) ⟨fun _ _ _ _ q => q, fun _ _ _ => ⟨rfl, trivial⟩⟩ rfl rfl hl.1 rfl (lv_room (Nat.le_of_ble_eq_true rfl)) dX13_told_13 ⟨Nat.le_of_ble_eq_true rfl, Nat.le_of_ble_eq_true rfl⟩) hS (fun r6 H1 locs1 hw hk1 hS => ?_)
      have hP := ub_keep hP hk1
      generalize H1 = H at hP hS ⊢
      generalize locs1 = locs at hS ⊢
      rcases hw with hw | hw
      · -- isIn, case 0
        obtain ⟨rfl, f7⟩ := hw
        have t8 : (0 : Int) ≤ a1.toInt := f7.1
        have t9 : a1.toInt ≤ 8 := f7.2
        have i10 : 0 ≤ a1.toInt ∧ a1.toInt ≤ 2147483647 := iv_le_r t8 (il_ 0) (iv_all _) (by decide)
        have i11 : 0 ≤ a1.toInt ∧ a1.toInt ≤ 8 := iv_le_l t9 i10 (il_ 8) (by decide)
        refine lv_if_eq (tgt := 23) hx hb dX13_told_16 (by decide) (fun c12 => ?_) (fun c12 => ?_)
        · --16 taken
          exact absurd c12 (by decide)
        · --16 not
          refine lv_iconst (v := 0) hx hb dX13_told_19 (by decide) ?_
          refine lv_goto (tgt := 24) hx hb dX13_told_20 (by decide) ?_
          refine th_put (ci := 14) (C := RX13) (T := TX13) (N := 97) (v := .int 0) (ty := .int) hx hb hts hinX13 tyX13 tyX13_ok nmX13 hown hK hP (WX_D hD) hS hI 0 (Nat.le_of_ble_eq_true rfl) rfl rfl 0 (Nat.le_of_ble_eq_true rfl) (hts _ (vA_in _ _ (in_24 _ (List.mem_of_getElem? (i := 10) rfl)))) (fun _ h9 => h9) rfl (by decide +kernel) rfl rfl (okI rfl (iv_w ln_0 (by decide))) dX13_told_24 (fun H locs E13 pw14 hI hP hS => ?_)
          have hKp := hKp.pw pw14 rfl
          refine lv_aload_n hx hb dX13_told_27 rfl (lv_at hl 0 rfl) ?_
          refine th_get (ci := 14) (C := RX13) (T := TX13) (N := 97) (v := .int 0) hx hb hts hinX13 hown hK hP hI 0 (Nat.le_of_ble_eq_true rfl) rfl rfl 0 (Nat.le_of_ble_eq_true rfl) (hts _ (vA_in _ _ (in_24 _ (List.mem_of_getElem? (i := 10) rfl)))) (fun _ h9 => h9) pw14.1 dX13_told_28 ?_
          refine lv_if_le (tgt := 36) hx hb dX13_told_31 (by decide) (fun c15 => ?_) (fun c15 => ?_)
          · --31 taken
            refine lv_iload_n hx hb dX13_told_36 rfl (lv_at hl 2 rfl) ?_
            rcases (show (a1.toInt < 0 ∨ 7 < a1.toInt) ∨ a1.toInt = 0 ∨ a1.toInt = 1 ∨ a1.toInt = 2 ∨ a1.toInt = 3 ∨ a1.toInt = 4 ∨ a1.toInt = 5 ∨ a1.toInt = 6 ∨ a1.toInt = 7 by omega) with c16 | c16 | c16 | c16 | c16 | c16 | c16 | c16 | c16
            · --None
              refine lv_tableOut (tgt := 177) hx hb dX13_told_37 c16 (by decide) ?_
              refine lv_aload_n hx hb dX13_told_177 rfl (lv_at hl 0 rfl) ?_
              refine th_get (ci := 14) (C := RX13) (T := TX13) (N := 97) (v := .ref (ad 20)) hx hb hts hinX13 hown hK hP hI 0 (Nat.le_of_ble_eq_true rfl) rfl rfl 34 (Nat.le_of_ble_eq_true rfl) (hts _ (vA_in _ _ (in_24 _ (List.mem_of_getElem? (i := 11) rfl)))) (fun _ h9 => h9) (hI.fr 0 (Nat.le_of_ble_eq_true rfl) rfl (Nat.le_of_ble_eq_true rfl) 20 rfl) dX13_told_178 ?_
              refine lv_iload_n hx hb dX13_told_181 rfl (lv_at hl 1 rfl) ?_
              have n18 : vp_in a0 20 := (iv_in (n := 20) f3 (by decide))
              refine th_iald hx hb hK hP hI 20 (Nat.le_of_ble_eq_true rfl) rfl rfl n18 dX13_told_182 (fun y17 ey17 => ?_)
              have iy17 : 0 ≤ y17.toInt ∧ y17.toInt ≤ 400 := hI.el 20 (Nat.le_of_ble_eq_true rfl) rfl n18 (fun _ => rfl) ey17
              have ey17 := ey17.trans (hKp.ei 20 _ rfl)
              rw [hQ]
              exact W.iret (v := y17) hx hb hr (fun t ht hW => ⟨⟨y17, E13, rfl, ⟨hI, hKp, (by have gy17 := congrArg Int32.toInt ey17; (try rw [(show xi (E13 0) 0 = (0 : Int32) from vi_e pw14.1)]); have z90 : (0 : Int32).toInt = 0 := rfl; have z91 : (1 : Int32).toInt = 1 := rfl; have z98 : (8 : Int32).toInt = 8 := rfl; all_goals omega)⟩, by show va_P (dC, dI) vwCl (WX 72 ad E13) t.heap; rw [ht]; exact hP⟩, hS.F ht⟩) hS.2.2 dX13_told_183
            · --0
              refine lv_tableIn (off := 47) (tgt := 84) hx hb dX13_told_37 (by omega) (by omega) (by rw [c16]; rfl) (by decide) ?_
              refine lv_aload_n hx hb dX13_told_84 rfl (lv_at hl 0 rfl) ?_
              refine th_get (ci := 14) (C := RX13) (T := TX13) (N := 97) (v := .ref (ad 13)) hx hb hts hinX13 hown hK hP hI 0 (Nat.le_of_ble_eq_true rfl) rfl rfl 27 (Nat.le_of_ble_eq_true rfl) (hts _ (vA_in _ _ (in_27 _ (List.mem_of_getElem? (i := 32) rfl)))) (fun _ h9 => h9) (hI.fr 0 (Nat.le_of_ble_eq_true rfl) rfl (Nat.le_of_ble_eq_true rfl) 13 rfl) dX13_told_85 ?_
              refine lv_iload_n hx hb dX13_told_88 rfl (lv_at hl 1 rfl) ?_
              have n20 : vp_in a0 20 := (iv_in (n := 20) f3 (by decide))
              refine th_iald hx hb hK hP hI 13 (Nat.le_of_ble_eq_true rfl) rfl rfl n20 dX13_told_89 (fun y19 ey19 => ?_)
              have iy19 : 0 ≤ y19.toInt ∧ y19.toInt ≤ 400 := hI.el 13 (Nat.le_of_ble_eq_true rfl) rfl n20 (fun _ => rfl) ey19
              have ey19 := ey19.trans (hKp.ei 13 _ rfl)
              rw [hQ]
              exact W.iret (v := y19) hx hb hr (fun t ht hW => ⟨⟨y19, E13, rfl, ⟨hI, hKp, (by have gy19 := congrArg Int32.toInt ey19; (try rw [(show xi (E13 0) 0 = (0 : Int32) from vi_e pw14.1)]); have z90 : (0 : Int32).toInt = 0 := rfl; have z91 : (1 : Int32).toInt = 1 := rfl; have z98 : (8 : Int32).toInt = 8 := rfl; all_goals omega)⟩, by show va_P (dC, dI) vwCl (WX 72 ad E13) t.heap; rw [ht]; exact hP⟩, hS.F ht⟩) hS.2.2 dX13_told_90
            · --1
              refine lv_tableIn (off := 54) (tgt := 91) hx hb dX13_told_37 (by omega) (by omega) (by rw [c16]; rfl) (by decide) ?_
              refine lv_aload_n hx hb dX13_told_91 rfl (lv_at hl 0 rfl) ?_
              refine th_get (ci := 14) (C := RX13) (T := TX13) (N := 97) (v := .ref (ad 14)) hx hb hts hinX13 hown hK hP hI 0 (Nat.le_of_ble_eq_true rfl) rfl rfl 28 (Nat.le_of_ble_eq_true rfl) (hts _ (vA_in _ _ (in_30 _ (List.mem_of_getElem? (i := 10) rfl)))) (fun _ h9 => h9) (hI.fr 0 (Nat.le_of_ble_eq_true rfl) rfl (Nat.le_of_ble_eq_true rfl) 14 rfl) dX13_told_92 ?_
              refine lv_iload_n hx hb dX13_told_95 rfl (lv_at hl 1 rfl) ?_
              have n22 : vp_in a0 20 := (iv_in (n := 20) f3 (by decide))
              refine th_iald hx hb hK hP hI 14 (Nat.le_of_ble_eq_true rfl) rfl rfl n22 dX13_told_96 (fun y21 ey21 => ?_)
              have iy21 : 0 ≤ y21.toInt ∧ y21.toInt ≤ 1000 := hI.el 14 (Nat.le_of_ble_eq_true rfl) rfl n22 (fun _ => rfl) ey21
              have ey21 := ey21.trans (hKp.ei 14 _ rfl)
              rw [hQ]
              exact W.iret (v := y21) hx hb hr (fun t ht hW => ⟨⟨y21, E13, rfl, ⟨hI, hKp, (by have gy21 := congrArg Int32.toInt ey21; (try rw [(show xi (E13 0) 0 = (0 : Int32) from vi_e pw14.1)]); have z90 : (0 : Int32).toInt = 0 := rfl; have z91 : (1 : Int32).toInt = 1 := rfl; have z98 : (8 : Int32).toInt = 8 := rfl; all_goals omega)⟩, by show va_P (dC, dI) vwCl (WX 72 ad E13) t.heap; rw [ht]; exact hP⟩, hS.F ht⟩) hS.2.2 dX13_told_97
            · --2
              refine lv_tableIn (off := 61) (tgt := 98) hx hb dX13_told_37 (by omega) (by omega) (by rw [c16]; rfl) (by decide) ?_
              refine lv_aload_n hx hb dX13_told_98 rfl (lv_at hl 0 rfl) ?_
              refine th_get (ci := 14) (C := RX13) (T := TX13) (N := 97) (v := .ref (ad 15)) hx hb hts hinX13 hown hK hP hI 0 (Nat.le_of_ble_eq_true rfl) rfl rfl 29 (Nat.le_of_ble_eq_true rfl) (hts _ (vA_in _ _ (in_27 _ (List.mem_of_getElem? (i := 33) rfl)))) (fun _ h9 => h9) (hI.fr 0 (Nat.le_of_ble_eq_true rfl) rfl (Nat.le_of_ble_eq_true rfl) 15 rfl) dX13_told_99 ?_
              refine lv_iload_n hx hb dX13_told_102 rfl (lv_at hl 1 rfl) ?_
              have n24 : vp_in a0 20 := (iv_in (n := 20) f3 (by decide))
              refine th_iald hx hb hK hP hI 15 (Nat.le_of_ble_eq_true rfl) rfl rfl n24 dX13_told_103 (fun y23 ey23 => ?_)
              have iy23 : 0 ≤ y23.toInt ∧ y23.toInt ≤ 1 := hI.el 15 (Nat.le_of_ble_eq_true rfl) rfl n24 (fun _ => rfl) ey23
              have ey23 := ey23.trans (hKp.ei 15 _ rfl)
              rw [hQ]
              exact W.iret (v := y23) hx hb hr (fun t ht hW => ⟨⟨y23, E13, rfl, ⟨hI, hKp, (by have gy23 := congrArg Int32.toInt ey23; (try rw [(show xi (E13 0) 0 = (0 : Int32) from vi_e pw14.1)]); have z90 : (0 : Int32).toInt = 0 := rfl; have z91 : (1 : Int32).toInt = 1 := rfl; have z98 : (8 : Int32).toInt = 8 := rfl; all_goals omega)⟩, by show va_P (dC, dI) vwCl (WX 72 ad E13) t.heap; rw [ht]; exact hP⟩, hS.F ht⟩) hS.2.2 dX13_told_104
            · --3
              refine lv_tableIn (off := 68) (tgt := 105) hx hb dX13_told_37 (by omega) (by omega) (by rw [c16]; rfl) (by decide) ?_
              refine lv_aload_n hx hb dX13_told_105 rfl (lv_at hl 0 rfl) ?_
              refine th_get (ci := 14) (C := RX13) (T := TX13) (N := 97) (v := .ref (ad 16)) hx hb hts hinX13 hown hK hP hI 0 (Nat.le_of_ble_eq_true rfl) rfl rfl 30 (Nat.le_of_ble_eq_true rfl) (hts _ (vA_in _ _ (in_30 _ (List.mem_of_getElem? (i := 32) rfl)))) (fun _ h9 => h9) (hI.fr 0 (Nat.le_of_ble_eq_true rfl) rfl (Nat.le_of_ble_eq_true rfl) 16 rfl) dX13_told_106 ?_
              refine lv_iload_n hx hb dX13_told_109 rfl (lv_at hl 1 rfl) ?_
              have n26 : vp_in a0 20 := (iv_in (n := 20) f3 (by decide))
              refine th_iald hx hb hK hP hI 16 (Nat.le_of_ble_eq_true rfl) rfl rfl n26 dX13_told_110 (fun y25 ey25 => ?_)
              have iy25 : 0 ≤ y25.toInt ∧ y25.toInt ≤ 7 := hI.el 16 (Nat.le_of_ble_eq_true rfl) rfl n26 (fun _ => rfl) ey25
              have ey25 := ey25.trans (hKp.ei 16 _ rfl)
              rw [hQ]
              exact W.iret (v := y25) hx hb hr (fun t ht hW => ⟨⟨y25, E13, rfl, ⟨hI, hKp, (by have gy25 := congrArg Int32.toInt ey25; (try rw [(show xi (E13 0) 0 = (0 : Int32) from vi_e pw14.1)]); have z90 : (0 : Int32).toInt = 0 := rfl; have z91 : (1 : Int32).toInt = 1 := rfl; have z98 : (8 : Int32).toInt = 8 := rfl; all_goals omega)⟩, by show va_P (dC, dI) vwCl (WX 72 ad E13) t.heap; rw [ht]; exact hP⟩, hS.F ht⟩) hS.2.2 dX13_told_111
            · --4
              refine lv_tableIn (off := 75) (tgt := 112) hx hb dX13_told_37 (by omega) (by omega) (by rw [c16]; rfl) (by decide) ?_
              refine lv_aload_n hx hb dX13_told_112 rfl (lv_at hl 0 rfl) ?_
              refine th_get (ci := 14) (C := RX13) (T := TX13) (N := 97) (v := .ref (ad 17)) hx hb hts hinX13 hown hK hP hI 0 (Nat.le_of_ble_eq_true rfl) rfl rfl 31 (Nat.le_of_ble_eq_true rfl) (hts _ (vA_in _ _ (in_30 _ (List.mem_of_getElem? (i := 33) rfl)))) (fun _ h9 => h9) (hI.fr 0 (Nat.le_of_ble_eq_true rfl) rfl (Nat.le_of_ble_eq_true rfl) 17 rfl) dX13_told_113 ?_
              refine lv_iload_n hx hb dX13_told_116 rfl (lv_at hl 1 rfl) ?_
              have n28 : vp_in a0 20 := (iv_in (n := 20) f3 (by decide))
              refine th_iald hx hb hK hP hI 17 (Nat.le_of_ble_eq_true rfl) rfl rfl n28 dX13_told_117 (fun y27 ey27 => ?_)
              have iy27 : 0 ≤ y27.toInt ∧ y27.toInt ≤ 99 := hI.el 17 (Nat.le_of_ble_eq_true rfl) rfl n28 (fun _ => rfl) ey27
              have ey27 := ey27.trans (hKp.ei 17 _ rfl)
              rw [hQ]
              exact W.iret (v := y27) hx hb hr (fun t ht hW => ⟨⟨y27, E13, rfl, ⟨hI, hKp, (by have gy27 := congrArg Int32.toInt ey27; (try rw [(show xi (E13 0) 0 = (0 : Int32) from vi_e pw14.1)]); have z90 : (0 : Int32).toInt = 0 := rfl; have z91 : (1 : Int32).toInt = 1 := rfl; have z98 : (8 : Int32).toInt = 8 := rfl; all_goals omega)⟩, by show va_P (dC, dI) vwCl (WX 72 ad E13) t.heap; rw [ht]; exact hP⟩, hS.F ht⟩) hS.2.2 dX13_told_118
            · --5
              refine lv_tableIn (off := 82) (tgt := 119) hx hb dX13_told_37 (by omega) (by omega) (by rw [c16]; rfl) (by decide) ?_
              refine lv_aload_n hx hb dX13_told_119 rfl (lv_at hl 0 rfl) ?_
              refine th_get (ci := 14) (C := RX13) (T := TX13) (N := 97) (v := .ref (ad 18)) hx hb hts hinX13 hown hK hP hI 0 (Nat.le_of_ble_eq_true rfl) rfl rfl 32 (Nat.le_of_ble_eq_true rfl) (hts _ (vA_in _ _ (in_30 _ (List.mem_of_getElem? (i := 34) rfl)))) (fun _ h9 => h9) (hI.fr 0 (Nat.le_of_ble_eq_true rfl) rfl (Nat.le_of_ble_eq_true rfl) 18 rfl) dX13_told_120 ?_
              refine lv_iload_n hx hb dX13_told_123 rfl (lv_at hl 1 rfl) ?_
              have n30 : vp_in a0 20 := (iv_in (n := 20) f3 (by decide))
              refine th_iald hx hb hK hP hI 18 (Nat.le_of_ble_eq_true rfl) rfl rfl n30 dX13_told_124 (fun y29 ey29 => ?_)
              have iy29 : 0 ≤ y29.toInt ∧ y29.toInt ≤ 99 := hI.el 18 (Nat.le_of_ble_eq_true rfl) rfl n30 (fun _ => rfl) ey29
              have ey29 := ey29.trans (hKp.ei 18 _ rfl)
              rw [hQ]
              exact W.iret (v := y29) hx hb hr (fun t ht hW => ⟨⟨y29, E13, rfl, ⟨hI, hKp, (by have gy29 := congrArg Int32.toInt ey29; (try rw [(show xi (E13 0) 0 = (0 : Int32) from vi_e pw14.1)]); have z90 : (0 : Int32).toInt = 0 := rfl; have z91 : (1 : Int32).toInt = 1 := rfl; have z98 : (8 : Int32).toInt = 8 := rfl; all_goals omega)⟩, by show va_P (dC, dI) vwCl (WX 72 ad E13) t.heap; rw [ht]; exact hP⟩, hS.F ht⟩) hS.2.2 dX13_told_125
            · --6
              refine lv_tableIn (off := 89) (tgt := 126) hx hb dX13_told_37 (by omega) (by omega) (by rw [c16]; rfl) (by decide) ?_
              refine lv_iconst (v := 0) hx hb dX13_told_126 (by decide) ?_
              refine lv_istore_n (lv' := [(3, .int 0), (0, .ref (ad 0)), (1, .int a0), (2, .int a1)]) hx hb dX13_told_127 rfl hl (by decide) rfl (fun ls hl => ?_)
              refine lv_iconst (v := 0) hx hb dX13_told_128 (by decide) ?_
              refine lv_istore (lv' := [(4, .int 0), (3, .int 0), (0, .ref (ad 0)), (1, .int a0), (2, .int a1)]) hx hb dX13_told_129 hl (by decide) rfl (fun ls hl => ?_)
              have hL131 : ∀ d : Nat, ∀ (v131_4 : Int32) (v131_3 : Int32) (H : Heap) (locs : List Loc) (ls : Array Slot), 0 ≤ v131_4.toInt ∧ v131_4.toInt ≤ 16 → 0 ≤ v131_3.toInt ∧ v131_3.toInt ≤ 16 → v131_3.toInt = (entM (xi (E 21)) (xi (E 0) 1).toInt (16 * a0.toInt).toNat v131_4.toNatClampNeg : Int) → v131_3.toInt ≤ v131_4.toInt → v131_4.toInt ≤ (xi (E 0) 8).toInt → 16 - v131_4.toInt < (d : Int) → va_P (dC, dI) vwCl (WX 72 ad E13) H → va_S A s.heap H locs → lv_has ls 5 [(4, .int v131_4), (3, .int v131_3), (0, .ref (ad 0)), (1, .int a0), (2, .int a1)] → W p l e (headSpec v_toldX rm_toldX).room s m args below meth c H locs 0 0 Q (F0 m 131 ls []) := by
                intro d
                induction d with
                | zero =>
                  intro v131_4 v131_3 H locs ls hv131_4 hv131_3 hx131_0 hx131_1 hx131_2 hx131_3 hP hS hl
                  exact absurd hx131_3 (by omega)
                | succ d ih131 =>
                  intro v131_4 v131_3 H locs ls hv131_4 hv131_3 hx131_0 hx131_1 hx131_2 hx131_3 hP hS hl
                  refine lv_iload hx hb dX13_told_131 (lv_at hl 0 rfl) ?_
                  refine lv_aload_n hx hb dX13_told_133 rfl (lv_at hl 2 rfl) ?_
                  have i31 : 0 ≤ (xi (E 0) 8).toInt ∧ (xi (E 0) 8).toInt ≤ 16 := hI0.iv 0 (Nat.le_of_ble_eq_true rfl) rfl (Nat.le_of_ble_eq_true rfl) rfl
                  refine th_get (ci := 14) (C := RX13) (T := TX13) (N := 97) (v := .int (xi (E 0) 8)) hx hb hts hinX13 hown hK hP hI 0 (Nat.le_of_ble_eq_true rfl) rfl rfl 8 (Nat.le_of_ble_eq_true rfl) (hts _ (vA_in _ _ (in_24 _ (List.mem_of_getElem? (i := 22) rfl)))) (fun _ h9 => h9) (th_v0 hKp hI0 0 (Nat.le_of_ble_eq_true rfl) rfl (Nat.le_of_ble_eq_true rfl) rfl rfl) dX13_told_134 ?_
                  refine lv_icmp_ge (tgt := 168) hx hb dX13_told_137 (by decide) (fun c32 => ?_) (fun c32 => ?_)
                  · --137 taken
                    have t33 : (xi (E 0) 8).toInt ≤ v131_4.toInt := ti_le c32
                    refine lv_iload_n hx hb dX13_told_168 rfl (lv_at hl 1 rfl) ?_
                    rw [hQ]
                    exact W.iret (v := v131_3) hx hb hr (fun t ht hW => ⟨⟨v131_3, E13, rfl, ⟨hI, hKp, (by have h9 := hx131_0; rw [show v131_4.toNatClampNeg = (xi (E 0) 8).toNatClampNeg by rw [tn_, tn_]; omega] at h9; (try rw [(show xi (E13 0) 0 = (0 : Int32) from vi_e pw14.1)]); have z90 : (0 : Int32).toInt = 0 := rfl; have z91 : (1 : Int32).toInt = 1 := rfl; have z98 : (8 : Int32).toInt = 8 := rfl; all_goals omega)⟩, by show va_P (dC, dI) vwCl (WX 72 ad E13) t.heap; rw [ht]; exact hP⟩, hS.F ht⟩) hS.2.2 dX13_told_169
                  · --137 not
                    have t34 : v131_4.toInt < (xi (E 0) 8).toInt := ti_nle c32
                    have i35 : 0 ≤ v131_4.toInt ∧ v131_4.toInt ≤ 15 := iv_lt_l t34 hv131_4 i31 (by decide)
                    have i36 : 1 ≤ (xi (E 0) 8).toInt ∧ (xi (E 0) 8).toInt ≤ 16 := iv_lt_r t34 hv131_4 i31 (by decide)
                    have i37 : 0 ≤ v131_3.toInt ∧ v131_3.toInt ≤ 15 := by omega
                    refine lv_iload_n hx hb dX13_told_140 rfl (lv_at hl 1 rfl) ?_
                    refine lv_aload_n hx hb dX13_told_141 rfl (lv_at hl 2 rfl) ?_
                    refine lv_iload_n hx hb dX13_told_142 rfl (lv_at hl 3 rfl) ?_
                    refine lv_iload hx hb dX13_told_143 (lv_at hl 0 rfl) ?_
                    refine lv_aload_n hx hb dX13_told_145 rfl (lv_at hl 2 rfl) ?_
                    have i38 : 0 ≤ (xi (E 0) 1).toInt ∧ (xi (E 0) 1).toInt ≤ 400 := hI0.iv 0 (Nat.le_of_ble_eq_true rfl) rfl (Nat.le_of_ble_eq_true rfl) rfl
                    refine th_get (ci := 14) (C := RX13) (T := TX13) (N := 97) (v := .int (xi (E 0) 1)) hx hb hts hinX13 hown hK hP hI 0 (Nat.le_of_ble_eq_true rfl) rfl rfl 1 (Nat.le_of_ble_eq_true rfl) (hts _ (vA_in _ _ (in_24 _ (List.mem_of_getElem? (i := 27) rfl)))) (fun _ h9 => h9) (th_v0 hKp hI0 0 (Nat.le_of_ble_eq_true rfl) rfl (Nat.le_of_ble_eq_true rfl) rfl rfl) dX13_told_146 ?_
                    refine th_ri (va_runV (As := [.int a0, .int v131_4, .int (xi (E 0) 1)]) (rest := [.int v131_3]) ⟨hx, hb, hml, hown, hts⟩ (q_isEntered l dC dI cT ad E13 H.size a0 v131_4 (xi (E 0) 1) hI f3 i35) (cwV 3 hts (gi_V (in_24 _ (List.mem_of_getElem? (i := 35) rfl)) (in_24 _ (List.mem_of_getElem? (i := 36) rfl)) (in_24 _ (List.mem_of_getElem? (i := 37) rfl)) (in_24 _ (List.mem_of_getElem? (i := 15) rfl)) (in_24 _ (List.mem_of_getElem? (i := 38) rfl))) rfl rfl rfl (by decide +kernel) ⟨Nat.le_of_ble_eq_true rfl, Nat.le_of_ble_eq_true rfl⟩) ⟨HW_bl, va_recv hK hP (ci := 14) (q0 := 0) rfl (hI.ob 0 (Nat.le_of_ble_eq_true rfl) rfl), (HW_wi hP hK (WX_D hD) hS hA hEV)⟩ rfl rfl hl.1 rfl (lv_room (Nat.le_of_ble_eq_true rfl)) dX13_told_149 ⟨Nat.le_of_ble_eq_true rfl, Nat.le_of_ble_eq_true rfl⟩) hS hP (fun r39 H locs hw hP hS => ?_)
                    rcases hw with hw | hw
                    · -- isEntered, case 0
                      obtain ⟨rfl, f40⟩ := hw
                      try rw [hKp.ef 21 (fun _ => rfl)] at f40
                      refine lv_if_eq (tgt := 159) hx hb dX13_told_152 (by decide) (fun c41 => ?_) (fun c41 => ?_)
                      · --152 taken
                        exact absurd c41 (by decide)
                      · --152 not
                        refine lv_iconst (v := 1) hx hb dX13_told_155 (by decide) ?_
                        refine lv_goto (tgt := 160) hx hb dX13_told_156 (by decide) ?_
                        refine lv_iadd hx hb dX13_told_160 ?_
                        refine lv_topi (fun y42 ey42 => ?_)
                        obtain ⟨ty42, iy42⟩ := ti_add (e := 1) (f := 16) i37 ln_1 ey42 (by decide)
                        have ty42 : y42.toInt = v131_3.toInt + 1 := ty42
                        have iy42 : 1 ≤ y42.toInt ∧ y42.toInt ≤ 16 := iy42
                        refine lv_istore_n (lv' := [(3, .int y42), (4, .int v131_4), (0, .ref (ad 0)), (1, .int a0), (2, .int a1)]) hx hb dX13_told_161 rfl hl (by decide) rfl (fun ls hl => ?_)
                        obtain ⟨y43, ey43⟩ : ∃ y : Int32, y = v131_4 + (1 : Int32) := ⟨_, rfl⟩
                        obtain ⟨ty43, iy43⟩ := ti_add (e := 1) (f := 16) i35 ln_1 ey43 (by decide)
                        have ty43 : y43.toInt = v131_4.toInt + 1 := ty43
                        have iy43 : 1 ≤ y43.toInt ∧ y43.toInt ≤ 16 := iy43
                        refine lv_iinc (v := y43) (lv' := [(4, .int y43), (3, .int y42), (0, .ref (ad 0)), (1, .int a0), (2, .int a1)]) hx hb dX13_told_162 hl (k := 1) rfl (by rw [ey43]; rfl) (by decide) rfl (fun ls hl => ?_)
                        refine lv_goto (tgt := 131) hx hb dX13_told_165 (by decide) ?_
                        exact ih131 y43 y42 _ _ _ (iv_w iy43 (by decide)) (iv_w iy42 (by decide)) (by rw [tn_s ty43 hv131_4 (by decide), entM_1 (c := (16 * a0.toInt + v131_4.toInt).toNat) (by rw [tn_]; omega) f40]; omega) (by omega) (by omega) (by omega) hP hS (lv_sub hl [0, 1, 2, 3, 4] rfl)
                    · -- isEntered, case 1
                      obtain ⟨rfl, f44⟩ := hw
                      try rw [hKp.ef 21 (fun _ => rfl)] at f44
                      refine lv_if_eq (tgt := 159) hx hb dX13_told_152 (by decide) (fun c45 => ?_) (fun c45 => ?_)
                      · --152 taken
                        refine lv_iconst (v := 0) hx hb dX13_told_159 (by decide) ?_
                        refine lv_iadd hx hb dX13_told_160 ?_
                        refine lv_topi (fun y46 ey46 => ?_)
                        obtain ⟨ty46, iy46⟩ := ti_add (e := 0) (f := 15) i37 ln_0 ey46 (by decide)
                        have ty46 : y46.toInt = v131_3.toInt + 0 := ty46
                        have iy46 : 0 ≤ y46.toInt ∧ y46.toInt ≤ 15 := iy46
                        refine lv_istore_n (lv' := [(3, .int y46), (4, .int v131_4), (0, .ref (ad 0)), (1, .int a0), (2, .int a1)]) hx hb dX13_told_161 rfl hl (by decide) rfl (fun ls hl => ?_)
                        obtain ⟨y47, ey47⟩ : ∃ y : Int32, y = v131_4 + (1 : Int32) := ⟨_, rfl⟩
                        obtain ⟨ty47, iy47⟩ := ti_add (e := 1) (f := 16) i35 ln_1 ey47 (by decide)
                        have ty47 : y47.toInt = v131_4.toInt + 1 := ty47
                        have iy47 : 1 ≤ y47.toInt ∧ y47.toInt ≤ 16 := iy47
                        refine lv_iinc (v := y47) (lv' := [(4, .int y47), (3, .int y46), (0, .ref (ad 0)), (1, .int a0), (2, .int a1)]) hx hb dX13_told_162 hl (k := 1) rfl (by rw [ey47]; rfl) (by decide) rfl (fun ls hl => ?_)
                        refine lv_goto (tgt := 131) hx hb dX13_told_165 (by decide) ?_
                        exact ih131 y47 y46 _ _ _ (iv_w iy47 (by decide)) (iv_w iy46 (by decide)) (by rw [tn_s ty47 hv131_4 (by decide), entM_0 (c := (16 * a0.toInt + v131_4.toInt).toNat) (by rw [tn_]; omega) f44]; omega) (by omega) (by omega) (by omega) hP hS (lv_sub hl [0, 1, 2, 3, 4] rfl)
                      · --152 not
                        exact absurd c45 (by decide)
              exact hL131 (17) (0 : Int32) (0 : Int32) _ _ _ (iv_w ln_0 (by decide)) (iv_w ln_0 (by decide)) rfl (by have z0 := ln_0; omega) (by have b9 : (0 : Int) ≤ (xi (E 0) 8).toInt ∧ (xi (E 0) 8).toInt ≤ 16 := hI0.iv 0 (Nat.le_of_ble_eq_true rfl) rfl (Nat.le_of_ble_eq_true rfl) rfl; have z0 := ln_0; omega) (by have h9 := ln_0; omega) hP hS (lv_sub hl [0, 1, 2, 3, 4] rfl)
            · --7
              refine lv_tableIn (off := 133) (tgt := 170) hx hb dX13_told_37 (by omega) (by omega) (by rw [c16]; rfl) (by decide) ?_
              refine lv_aload_n hx hb dX13_told_170 rfl (lv_at hl 0 rfl) ?_
              refine th_get (ci := 14) (C := RX13) (T := TX13) (N := 97) (v := .ref (ad 19)) hx hb hts hinX13 hown hK hP hI 0 (Nat.le_of_ble_eq_true rfl) rfl rfl 33 (Nat.le_of_ble_eq_true rfl) (hts _ (vA_in _ _ (in_25 _ (List.mem_of_getElem? (i := 33) rfl)))) (fun _ h9 => h9) (hI.fr 0 (Nat.le_of_ble_eq_true rfl) rfl (Nat.le_of_ble_eq_true rfl) 19 rfl) dX13_told_171 ?_
              refine lv_iload_n hx hb dX13_told_174 rfl (lv_at hl 1 rfl) ?_
              have n49 : vp_in a0 20 := (iv_in (n := 20) f3 (by decide))
              refine th_iald hx hb hK hP hI 19 (Nat.le_of_ble_eq_true rfl) rfl rfl n49 dX13_told_175 (fun y48 ey48 => ?_)
              have iy48 : 0 ≤ y48.toInt ∧ y48.toInt ≤ 9 := hI.el 19 (Nat.le_of_ble_eq_true rfl) rfl n49 (fun _ => rfl) ey48
              have ey48 := ey48.trans (hKp.ei 19 _ rfl)
              rw [hQ]
              exact W.iret (v := y48) hx hb hr (fun t ht hW => ⟨⟨y48, E13, rfl, ⟨hI, hKp, (by have gy48 := congrArg Int32.toInt ey48; (try rw [(show xi (E13 0) 0 = (0 : Int32) from vi_e pw14.1)]); have z90 : (0 : Int32).toInt = 0 := rfl; have z91 : (1 : Int32).toInt = 1 := rfl; have z98 : (8 : Int32).toInt = 8 := rfl; all_goals omega)⟩, by show va_P (dC, dI) vwCl (WX 72 ad E13) t.heap; rw [ht]; exact hP⟩, hS.F ht⟩) hS.2.2 dX13_told_176
          · --31 not
            exact absurd c15 (by decide)
      · -- isIn, case 1
        obtain ⟨rfl, f50⟩ := hw
        have t51 : ¬ ((0 : Int) ≤ a1.toInt ∧ a1.toInt ≤ 8) := f50
        refine lv_if_eq (tgt := 23) hx hb dX13_told_16 (by decide) (fun c52 => ?_) (fun c52 => ?_)
        · --16 taken
          refine lv_iconst (v := 1) hx hb dX13_told_23 (by decide) ?_
          refine th_put (ci := 14) (C := RX13) (T := TX13) (N := 97) (v := .int 1) (ty := .int) hx hb hts hinX13 tyX13 tyX13_ok nmX13 hown hK hP (WX_D hD) hS hI 0 (Nat.le_of_ble_eq_true rfl) rfl rfl 0 (Nat.le_of_ble_eq_true rfl) (hts _ (vA_in _ _ (in_24 _ (List.mem_of_getElem? (i := 10) rfl)))) (fun _ h9 => h9) rfl (by decide +kernel) rfl rfl (okI rfl (iv_w ln_1 (by decide))) dX13_told_24 (fun H locs E53 pw54 hI hP hS => ?_)
          have hKp := hKp.pw pw54 rfl
          refine lv_aload_n hx hb dX13_told_27 rfl (lv_at hl 0 rfl) ?_
          refine th_get (ci := 14) (C := RX13) (T := TX13) (N := 97) (v := .int 1) hx hb hts hinX13 hown hK hP hI 0 (Nat.le_of_ble_eq_true rfl) rfl rfl 0 (Nat.le_of_ble_eq_true rfl) (hts _ (vA_in _ _ (in_24 _ (List.mem_of_getElem? (i := 10) rfl)))) (fun _ h9 => h9) pw54.1 dX13_told_28 ?_
          refine lv_if_le (tgt := 36) hx hb dX13_told_31 (by decide) (fun c55 => ?_) (fun c55 => ?_)
          · --31 taken
            exact absurd c55 (by decide)
          · --31 not
            refine lv_iconst (v := 0) hx hb dX13_told_34 (by decide) ?_
            rw [hQ]
            exact W.iret (v := 0) hx hb hr (fun t ht hW => ⟨⟨0, E53, rfl, ⟨hI, hKp, (by have z8 := ln_0; (try rw [(show xi (E53 0) 0 = (1 : Int32) from vi_e pw54.1)]); have z90 : (0 : Int32).toInt = 0 := rfl; have z91 : (1 : Int32).toInt = 1 := rfl; have z98 : (8 : Int32).toInt = 8 := rfl; all_goals omega)⟩, by show va_P (dC, dI) vwCl (WX 72 ad E53) t.heap; rw [ht]; exact hP⟩, hS.F ht⟩) hS.2.2 dX13_told_35
        · --16 not
          exact absurd c52 (by decide)
  · -- isRace, case 1
    obtain ⟨rfl, f56⟩ := hw
    have i57 : 0 ≤ (xi (E 0) 46).toInt ∧ (xi (E 0) 46).toInt ≤ 20 := (show 0 ≤ (xi (E 0) 46).toInt ∧ (xi (E 0) 46).toInt ≤ 20 from hI0.iv 0 (Nat.le_of_ble_eq_true rfl) rfl (Nat.le_of_ble_eq_true rfl) rfl)
    refine lv_if_eq (tgt := 23) hx hb dX13_told_6 (by decide) (fun c58 => ?_) (fun c58 => ?_)
    · --6 taken
      refine lv_iconst (v := 1) hx hb dX13_told_23 (by decide) ?_
      refine th_put (ci := 14) (C := RX13) (T := TX13) (N := 97) (v := .int 1) (ty := .int) hx hb hts hinX13 tyX13 tyX13_ok nmX13 hown hK hP (WX_D hD) hS hI 0 (Nat.le_of_ble_eq_true rfl) rfl rfl 0 (Nat.le_of_ble_eq_true rfl) (hts _ (vA_in _ _ (in_24 _ (List.mem_of_getElem? (i := 10) rfl)))) (fun _ h9 => h9) rfl (by decide +kernel) rfl rfl (okI rfl (iv_w ln_1 (by decide))) dX13_told_24 (fun H locs E59 pw60 hI hP hS => ?_)
      have hKp := hKp.pw pw60 rfl
      refine lv_aload_n hx hb dX13_told_27 rfl (lv_at hl 0 rfl) ?_
      refine th_get (ci := 14) (C := RX13) (T := TX13) (N := 97) (v := .int 1) hx hb hts hinX13 hown hK hP hI 0 (Nat.le_of_ble_eq_true rfl) rfl rfl 0 (Nat.le_of_ble_eq_true rfl) (hts _ (vA_in _ _ (in_24 _ (List.mem_of_getElem? (i := 10) rfl)))) (fun _ h9 => h9) pw60.1 dX13_told_28 ?_
      refine lv_if_le (tgt := 36) hx hb dX13_told_31 (by decide) (fun c61 => ?_) (fun c61 => ?_)
      · --31 taken
        exact absurd c61 (by decide)
      · --31 not
        refine lv_iconst (v := 0) hx hb dX13_told_34 (by decide) ?_
        rw [hQ]
        exact W.iret (v := 0) hx hb hr (fun t ht hW => ⟨⟨0, E59, rfl, ⟨hI, hKp, (by have z8 := ln_0; (try rw [(show xi (E59 0) 0 = (1 : Int32) from vi_e pw60.1)]); have z90 : (0 : Int32).toInt = 0 := rfl; have z91 : (1 : Int32).toInt = 1 := rfl; have z98 : (8 : Int32).toInt = 8 := rfl; all_goals omega)⟩, by show va_P (dC, dI) vwCl (WX 72 ad E59) t.heap; rw [ht]; exact hP⟩, hS.F ht⟩) hS.2.2 dX13_told_35
    · --6 not
      exact absurd c58 (by decide)
