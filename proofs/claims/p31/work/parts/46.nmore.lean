set_option maxRecDepth 100000 in
theorem zh_dX4_isDecided_0_0 : zc cX4_isDecided 0 [42, 180, 0, 15, 2, 160, 0, 19, 42, 180, 0, 9, 2, 159, 0, 7] = true := by decide +kernel
set_option maxRecDepth 100000 in
theorem zh_dX4_isDecided_16_16 : zc cX4_isDecided 16 [4, 167, 0, 20, 3, 167, 0, 16, 42, 180, 0, 18, 2, 159, 0, 7] = true := by decide +kernel
set_option maxRecDepth 100000 in
theorem zh_dX4_isDecided_32_32 : zc cX4_isDecided 32 [4, 167, 0, 4, 3, 172] = true := by decide +kernel
set_option maxRecDepth 100000 in
theorem zh_dX4_settle_0_0 : zc cX4_settle 0 [42, 180, 0, 15, 2, 160, 0, 16, 42, 28, 181, 0, 9, 42, 27, 181] = true := by decide +kernel
set_option maxRecDepth 100000 in
theorem zh_dX4_settle_15_16 : zc cX4_settle 16 [0, 36, 167, 0, 13, 42, 28, 181, 0, 18, 42, 27, 181, 0, 39, 177] = true := by decide +kernel
set_option maxRecDepth 100000 in
theorem zh_dX12_reopen_0_0 : zc cX12_reopen 0 [42, 180, 0, 10, 27, 42, 180, 0, 10, 180, 0, 55, 182, 0, 226, 154] = true := by decide +kernel
set_option maxRecDepth 100000 in
theorem zh_dX12_reopen_15_16 : zc cX12_reopen 16 [0, 5, 3, 172, 42, 180, 0, 10, 180, 0, 220, 27, 182, 0, 138, 192] = true := by decide +kernel
set_option maxRecDepth 100000 in
theorem zh_dX12_reopen_31_32 : zc cX12_reopen 32 [0, 223, 77, 44, 182, 0, 236, 153, 0, 11, 44, 180, 0, 243, 2, 159] = true := by decide +kernel
set_option maxRecDepth 100000 in
theorem zh_dX12_reopen_47_48 : zc cX12_reopen 48 [0, 5, 3, 172, 44, 42, 180, 0, 10, 180, 0, 55, 181, 0, 243, 4] = true := by decide +kernel
set_option maxRecDepth 100000 in
theorem zh_dX12_reopen_64_64 : zc cX12_reopen 64 [172] = true := by decide +kernel
set_option maxRecDepth 100000 in
theorem zh_dX13_reopen_0_0 : zc cX13_reopen 0 [42, 3, 181, 0, 228, 27, 3, 42, 180, 1, 208, 4, 100, 184, 0, 235] = true := by decide +kernel
set_option maxRecDepth 100000 in
theorem zh_dX13_reopen_16_16 : zc cX13_reopen 16 [153, 0, 22, 42, 180, 0, 177, 27, 51, 153, 0, 13, 42, 180, 0, 174] = true := by decide +kernel
set_option maxRecDepth 100000 in
theorem zh_dX13_reopen_32_32 : zc cX13_reopen 32 [27, 46, 5, 160, 0, 5, 3, 172, 42, 180, 0, 177, 27, 3, 84, 42] = true := by decide +kernel
set_option maxRecDepth 100000 in
theorem zh_dX13_reopen_48_48 : zc cX13_reopen 48 [180, 0, 171, 5, 27, 104, 42, 180, 0, 232, 79, 4, 172] = true := by decide +kernel
set_option maxRecDepth 100000 in
theorem zh_dX13_told_0_0 : zc cX13_told 0 [42, 42, 27, 182, 1, 137, 153, 0, 17, 28, 3, 16, 8, 184, 0, 235] = true := by decide +kernel
set_option maxRecDepth 100000 in
theorem zh_dX13_told_16_16 : zc cX13_told 16 [153, 0, 7, 3, 167, 0, 4, 4, 181, 0, 228, 42, 180, 0, 228, 158] = true := by decide +kernel
set_option maxRecDepth 100000 in
theorem zh_dX13_told_31_32 : zc cX13_told 32 [0, 5, 3, 172, 28, 170, 0, 0, 0, 0, 0, 140, 0, 0, 0, 0] = true := by decide +kernel
set_option maxRecDepth 100000 in
theorem zh_dX13_told_84_80 : zc cX13_told 80 [0, 0, 0, 133, 42, 180, 0, 50, 27, 46, 172, 42, 180, 0, 53, 27] = true := by decide +kernel
set_option maxRecDepth 100000 in
theorem zh_dX13_told_96_96 : zc cX13_told 96 [46, 172, 42, 180, 0, 56, 27, 46, 172, 42, 180, 0, 59, 27, 46, 172] = true := by decide +kernel
set_option maxRecDepth 100000 in
theorem zh_dX13_told_112_112 : zc cX13_told 112 [42, 180, 0, 62, 27, 46, 172, 42, 180, 0, 65, 27, 46, 172, 3, 62] = true := by decide +kernel
set_option maxRecDepth 100000 in
theorem zh_dX13_told_128_128 : zc cX13_told 128 [3, 54, 4, 21, 4, 42, 180, 0, 239, 162, 0, 31, 29, 42, 27, 21] = true := by decide +kernel
set_option maxRecDepth 100000 in
theorem zh_dX13_told_143_144 : zc cX13_told 144 [4, 42, 180, 0, 232, 182, 1, 140, 153, 0, 7, 4, 167, 0, 4, 3] = true := by decide +kernel
set_option maxRecDepth 100000 in
theorem zh_dX13_told_160_160 : zc cX13_told 160 [96, 62, 132, 4, 1, 167, 255, 222, 29, 172, 42, 180, 0, 68, 27, 46] = true := by decide +kernel
set_option maxRecDepth 100000 in
theorem zh_dX13_told_176_176 : zc cX13_told 176 [172, 42, 180, 0, 71, 27, 46, 172] = true := by decide +kernel
theorem dX4_isDecided_0 : decode cX4_isDecided 0 = .ok (.aload_n 0, 1) := zo_42 (zi_at zh_dX4_isDecided_0_0 0 rfl)
theorem dX4_isDecided_1 : decode cX4_isDecided 1 = .ok (.getfield 15, 3) := zo_180 (zi_at zh_dX4_isDecided_0_0 1 rfl) (zi_at zh_dX4_isDecided_0_0 2 rfl) (zi_at zh_dX4_isDecided_0_0 3 rfl) rfl
theorem dX4_isDecided_4 : decode cX4_isDecided 4 = .ok (.iconst (-1), 1) := zo_2 (zi_at zh_dX4_isDecided_0_0 4 rfl)
theorem dX4_isDecided_5 : decode cX4_isDecided 5 = .ok (.if_icmp .ne 19, 3) := zo_160 (zi_at zh_dX4_isDecided_0_0 5 rfl) (zi_at zh_dX4_isDecided_0_0 6 rfl) (zi_at zh_dX4_isDecided_0_0 7 rfl) rfl
theorem dX4_isDecided_8 : decode cX4_isDecided 8 = .ok (.aload_n 0, 1) := zo_42 (zi_at zh_dX4_isDecided_0_0 8 rfl)
theorem dX4_isDecided_9 : decode cX4_isDecided 9 = .ok (.getfield 9, 3) := zo_180 (zi_at zh_dX4_isDecided_0_0 9 rfl) (zi_at zh_dX4_isDecided_0_0 10 rfl) (zi_at zh_dX4_isDecided_0_0 11 rfl) rfl
theorem dX4_isDecided_12 : decode cX4_isDecided 12 = .ok (.iconst (-1), 1) := zo_2 (zi_at zh_dX4_isDecided_0_0 12 rfl)
theorem dX4_isDecided_13 : decode cX4_isDecided 13 = .ok (.if_icmp .eq 7, 3) := zo_159 (zi_at zh_dX4_isDecided_0_0 13 rfl) (zi_at zh_dX4_isDecided_0_0 14 rfl) (zi_at zh_dX4_isDecided_0_0 15 rfl) rfl
theorem dX4_isDecided_16 : decode cX4_isDecided 16 = .ok (.iconst 1, 1) := zo_4 (zi_at zh_dX4_isDecided_16_16 0 rfl)
theorem dX4_isDecided_17 : decode cX4_isDecided 17 = .ok (.goto 20, 3) := zo_167 (zi_at zh_dX4_isDecided_16_16 1 rfl) (zi_at zh_dX4_isDecided_16_16 2 rfl) (zi_at zh_dX4_isDecided_16_16 3 rfl) rfl
theorem dX4_isDecided_20 : decode cX4_isDecided 20 = .ok (.iconst 0, 1) := zo_3 (zi_at zh_dX4_isDecided_16_16 4 rfl)
theorem dX4_isDecided_21 : decode cX4_isDecided 21 = .ok (.goto 16, 3) := zo_167 (zi_at zh_dX4_isDecided_16_16 5 rfl) (zi_at zh_dX4_isDecided_16_16 6 rfl) (zi_at zh_dX4_isDecided_16_16 7 rfl) rfl
theorem dX4_isDecided_24 : decode cX4_isDecided 24 = .ok (.aload_n 0, 1) := zo_42 (zi_at zh_dX4_isDecided_16_16 8 rfl)
theorem dX4_isDecided_25 : decode cX4_isDecided 25 = .ok (.getfield 18, 3) := zo_180 (zi_at zh_dX4_isDecided_16_16 9 rfl) (zi_at zh_dX4_isDecided_16_16 10 rfl) (zi_at zh_dX4_isDecided_16_16 11 rfl) rfl
theorem dX4_isDecided_28 : decode cX4_isDecided 28 = .ok (.iconst (-1), 1) := zo_2 (zi_at zh_dX4_isDecided_16_16 12 rfl)
theorem dX4_isDecided_29 : decode cX4_isDecided 29 = .ok (.if_icmp .eq 7, 3) := zo_159 (zi_at zh_dX4_isDecided_16_16 13 rfl) (zi_at zh_dX4_isDecided_16_16 14 rfl) (zi_at zh_dX4_isDecided_16_16 15 rfl) rfl
theorem dX4_isDecided_32 : decode cX4_isDecided 32 = .ok (.iconst 1, 1) := zo_4 (zi_at zh_dX4_isDecided_32_32 0 rfl)
theorem dX4_isDecided_33 : decode cX4_isDecided 33 = .ok (.goto 4, 3) := zo_167 (zi_at zh_dX4_isDecided_32_32 1 rfl) (zi_at zh_dX4_isDecided_32_32 2 rfl) (zi_at zh_dX4_isDecided_32_32 3 rfl) rfl
theorem dX4_isDecided_36 : decode cX4_isDecided 36 = .ok (.iconst 0, 1) := zo_3 (zi_at zh_dX4_isDecided_32_32 4 rfl)
theorem dX4_isDecided_37 : decode cX4_isDecided 37 = .ok (.ireturn, 1) := zo_172 (zi_at zh_dX4_isDecided_32_32 5 rfl)
theorem dX4_settle_0 : decode cX4_settle 0 = .ok (.aload_n 0, 1) := zo_42 (zi_at zh_dX4_settle_0_0 0 rfl)
theorem dX4_settle_1 : decode cX4_settle 1 = .ok (.getfield 15, 3) := zo_180 (zi_at zh_dX4_settle_0_0 1 rfl) (zi_at zh_dX4_settle_0_0 2 rfl) (zi_at zh_dX4_settle_0_0 3 rfl) rfl
theorem dX4_settle_4 : decode cX4_settle 4 = .ok (.iconst (-1), 1) := zo_2 (zi_at zh_dX4_settle_0_0 4 rfl)
theorem dX4_settle_5 : decode cX4_settle 5 = .ok (.if_icmp .ne 16, 3) := zo_160 (zi_at zh_dX4_settle_0_0 5 rfl) (zi_at zh_dX4_settle_0_0 6 rfl) (zi_at zh_dX4_settle_0_0 7 rfl) rfl
theorem dX4_settle_8 : decode cX4_settle 8 = .ok (.aload_n 0, 1) := zo_42 (zi_at zh_dX4_settle_0_0 8 rfl)
theorem dX4_settle_9 : decode cX4_settle 9 = .ok (.iload_n 2, 1) := zo_28 (zi_at zh_dX4_settle_0_0 9 rfl)
theorem dX4_settle_10 : decode cX4_settle 10 = .ok (.putfield 9, 3) := zo_181 (zi_at zh_dX4_settle_0_0 10 rfl) (zi_at zh_dX4_settle_0_0 11 rfl) (zi_at zh_dX4_settle_0_0 12 rfl) rfl
theorem dX4_settle_13 : decode cX4_settle 13 = .ok (.aload_n 0, 1) := zo_42 (zi_at zh_dX4_settle_0_0 13 rfl)
theorem dX4_settle_14 : decode cX4_settle 14 = .ok (.iload_n 1, 1) := zo_27 (zi_at zh_dX4_settle_0_0 14 rfl)
theorem dX4_settle_15 : decode cX4_settle 15 = .ok (.putfield 36, 3) := zo_181 (zi_at zh_dX4_settle_0_0 15 rfl) (zi_at zh_dX4_settle_15_16 0 rfl) (zi_at zh_dX4_settle_15_16 1 rfl) rfl
theorem dX4_settle_18 : decode cX4_settle 18 = .ok (.goto 13, 3) := zo_167 (zi_at zh_dX4_settle_15_16 2 rfl) (zi_at zh_dX4_settle_15_16 3 rfl) (zi_at zh_dX4_settle_15_16 4 rfl) rfl
theorem dX4_settle_21 : decode cX4_settle 21 = .ok (.aload_n 0, 1) := zo_42 (zi_at zh_dX4_settle_15_16 5 rfl)
theorem dX4_settle_22 : decode cX4_settle 22 = .ok (.iload_n 2, 1) := zo_28 (zi_at zh_dX4_settle_15_16 6 rfl)
theorem dX4_settle_23 : decode cX4_settle 23 = .ok (.putfield 18, 3) := zo_181 (zi_at zh_dX4_settle_15_16 7 rfl) (zi_at zh_dX4_settle_15_16 8 rfl) (zi_at zh_dX4_settle_15_16 9 rfl) rfl
theorem dX4_settle_26 : decode cX4_settle 26 = .ok (.aload_n 0, 1) := zo_42 (zi_at zh_dX4_settle_15_16 10 rfl)
theorem dX4_settle_27 : decode cX4_settle 27 = .ok (.iload_n 1, 1) := zo_27 (zi_at zh_dX4_settle_15_16 11 rfl)
theorem dX4_settle_28 : decode cX4_settle 28 = .ok (.putfield 39, 3) := zo_181 (zi_at zh_dX4_settle_15_16 12 rfl) (zi_at zh_dX4_settle_15_16 13 rfl) (zi_at zh_dX4_settle_15_16 14 rfl) rfl
theorem dX4_settle_31 : decode cX4_settle 31 = .ok (.return_, 1) := zo_177 (zi_at zh_dX4_settle_15_16 15 rfl)
theorem dX12_reopen_0 : decode cX12_reopen 0 = .ok (.aload_n 0, 1) := zo_42 (zi_at zh_dX12_reopen_0_0 0 rfl)
theorem dX12_reopen_1 : decode cX12_reopen 1 = .ok (.getfield 10, 3) := zo_180 (zi_at zh_dX12_reopen_0_0 1 rfl) (zi_at zh_dX12_reopen_0_0 2 rfl) (zi_at zh_dX12_reopen_0_0 3 rfl) rfl
theorem dX12_reopen_4 : decode cX12_reopen 4 = .ok (.iload_n 1, 1) := zo_27 (zi_at zh_dX12_reopen_0_0 4 rfl)
theorem dX12_reopen_5 : decode cX12_reopen 5 = .ok (.aload_n 0, 1) := zo_42 (zi_at zh_dX12_reopen_0_0 5 rfl)
theorem dX12_reopen_6 : decode cX12_reopen 6 = .ok (.getfield 10, 3) := zo_180 (zi_at zh_dX12_reopen_0_0 6 rfl) (zi_at zh_dX12_reopen_0_0 7 rfl) (zi_at zh_dX12_reopen_0_0 8 rfl) rfl
theorem dX12_reopen_9 : decode cX12_reopen 9 = .ok (.getfield 55, 3) := zo_180 (zi_at zh_dX12_reopen_0_0 9 rfl) (zi_at zh_dX12_reopen_0_0 10 rfl) (zi_at zh_dX12_reopen_0_0 11 rfl) rfl
theorem dX12_reopen_12 : decode cX12_reopen 12 = .ok (.invokevirtual 226, 3) := zo_182 (zi_at zh_dX12_reopen_0_0 12 rfl) (zi_at zh_dX12_reopen_0_0 13 rfl) (zi_at zh_dX12_reopen_0_0 14 rfl) rfl
theorem dX12_reopen_15 : decode cX12_reopen 15 = .ok (.ifCond .ne 5, 3) := zo_154 (zi_at zh_dX12_reopen_0_0 15 rfl) (zi_at zh_dX12_reopen_15_16 0 rfl) (zi_at zh_dX12_reopen_15_16 1 rfl) rfl
theorem dX12_reopen_18 : decode cX12_reopen 18 = .ok (.iconst 0, 1) := zo_3 (zi_at zh_dX12_reopen_15_16 2 rfl)
theorem dX12_reopen_19 : decode cX12_reopen 19 = .ok (.ireturn, 1) := zo_172 (zi_at zh_dX12_reopen_15_16 3 rfl)
theorem dX12_reopen_20 : decode cX12_reopen 20 = .ok (.aload_n 0, 1) := zo_42 (zi_at zh_dX12_reopen_15_16 4 rfl)
theorem dX12_reopen_21 : decode cX12_reopen 21 = .ok (.getfield 10, 3) := zo_180 (zi_at zh_dX12_reopen_15_16 5 rfl) (zi_at zh_dX12_reopen_15_16 6 rfl) (zi_at zh_dX12_reopen_15_16 7 rfl) rfl
theorem dX12_reopen_24 : decode cX12_reopen 24 = .ok (.getfield 220, 3) := zo_180 (zi_at zh_dX12_reopen_15_16 8 rfl) (zi_at zh_dX12_reopen_15_16 9 rfl) (zi_at zh_dX12_reopen_15_16 10 rfl) rfl
theorem dX12_reopen_27 : decode cX12_reopen 27 = .ok (.iload_n 1, 1) := zo_27 (zi_at zh_dX12_reopen_15_16 11 rfl)
theorem dX12_reopen_28 : decode cX12_reopen 28 = .ok (.invokevirtual 138, 3) := zo_182 (zi_at zh_dX12_reopen_15_16 12 rfl) (zi_at zh_dX12_reopen_15_16 13 rfl) (zi_at zh_dX12_reopen_15_16 14 rfl) rfl
theorem dX12_reopen_31 : decode cX12_reopen 31 = .ok (.checkcast 223, 3) := zo_192 (zi_at zh_dX12_reopen_15_16 15 rfl) (zi_at zh_dX12_reopen_31_32 0 rfl) (zi_at zh_dX12_reopen_31_32 1 rfl) rfl
theorem dX12_reopen_34 : decode cX12_reopen 34 = .ok (.astore_n 2, 1) := zo_77 (zi_at zh_dX12_reopen_31_32 2 rfl)
theorem dX12_reopen_35 : decode cX12_reopen 35 = .ok (.aload_n 2, 1) := zo_44 (zi_at zh_dX12_reopen_31_32 3 rfl)
theorem dX12_reopen_36 : decode cX12_reopen 36 = .ok (.invokevirtual 236, 3) := zo_182 (zi_at zh_dX12_reopen_31_32 4 rfl) (zi_at zh_dX12_reopen_31_32 5 rfl) (zi_at zh_dX12_reopen_31_32 6 rfl) rfl
theorem dX12_reopen_39 : decode cX12_reopen 39 = .ok (.ifCond .eq 11, 3) := zo_153 (zi_at zh_dX12_reopen_31_32 7 rfl) (zi_at zh_dX12_reopen_31_32 8 rfl) (zi_at zh_dX12_reopen_31_32 9 rfl) rfl
theorem dX12_reopen_42 : decode cX12_reopen 42 = .ok (.aload_n 2, 1) := zo_44 (zi_at zh_dX12_reopen_31_32 10 rfl)
theorem dX12_reopen_43 : decode cX12_reopen 43 = .ok (.getfield 243, 3) := zo_180 (zi_at zh_dX12_reopen_31_32 11 rfl) (zi_at zh_dX12_reopen_31_32 12 rfl) (zi_at zh_dX12_reopen_31_32 13 rfl) rfl
theorem dX12_reopen_46 : decode cX12_reopen 46 = .ok (.iconst (-1), 1) := zo_2 (zi_at zh_dX12_reopen_31_32 14 rfl)
theorem dX12_reopen_47 : decode cX12_reopen 47 = .ok (.if_icmp .eq 5, 3) := zo_159 (zi_at zh_dX12_reopen_31_32 15 rfl) (zi_at zh_dX12_reopen_47_48 0 rfl) (zi_at zh_dX12_reopen_47_48 1 rfl) rfl
theorem dX12_reopen_50 : decode cX12_reopen 50 = .ok (.iconst 0, 1) := zo_3 (zi_at zh_dX12_reopen_47_48 2 rfl)
theorem dX12_reopen_51 : decode cX12_reopen 51 = .ok (.ireturn, 1) := zo_172 (zi_at zh_dX12_reopen_47_48 3 rfl)
theorem dX12_reopen_52 : decode cX12_reopen 52 = .ok (.aload_n 2, 1) := zo_44 (zi_at zh_dX12_reopen_47_48 4 rfl)
theorem dX12_reopen_53 : decode cX12_reopen 53 = .ok (.aload_n 0, 1) := zo_42 (zi_at zh_dX12_reopen_47_48 5 rfl)
theorem dX12_reopen_54 : decode cX12_reopen 54 = .ok (.getfield 10, 3) := zo_180 (zi_at zh_dX12_reopen_47_48 6 rfl) (zi_at zh_dX12_reopen_47_48 7 rfl) (zi_at zh_dX12_reopen_47_48 8 rfl) rfl
theorem dX12_reopen_57 : decode cX12_reopen 57 = .ok (.getfield 55, 3) := zo_180 (zi_at zh_dX12_reopen_47_48 9 rfl) (zi_at zh_dX12_reopen_47_48 10 rfl) (zi_at zh_dX12_reopen_47_48 11 rfl) rfl
theorem dX12_reopen_60 : decode cX12_reopen 60 = .ok (.putfield 243, 3) := zo_181 (zi_at zh_dX12_reopen_47_48 12 rfl) (zi_at zh_dX12_reopen_47_48 13 rfl) (zi_at zh_dX12_reopen_47_48 14 rfl) rfl
theorem dX12_reopen_63 : decode cX12_reopen 63 = .ok (.iconst 1, 1) := zo_4 (zi_at zh_dX12_reopen_47_48 15 rfl)
theorem dX12_reopen_64 : decode cX12_reopen 64 = .ok (.ireturn, 1) := zo_172 (zi_at zh_dX12_reopen_64_64 0 rfl)
theorem dX13_reopen_0 : decode cX13_reopen 0 = .ok (.aload_n 0, 1) := zo_42 (zi_at zh_dX13_reopen_0_0 0 rfl)
theorem dX13_reopen_1 : decode cX13_reopen 1 = .ok (.iconst 0, 1) := zo_3 (zi_at zh_dX13_reopen_0_0 1 rfl)
theorem dX13_reopen_2 : decode cX13_reopen 2 = .ok (.putfield 228, 3) := zo_181 (zi_at zh_dX13_reopen_0_0 2 rfl) (zi_at zh_dX13_reopen_0_0 3 rfl) (zi_at zh_dX13_reopen_0_0 4 rfl) rfl
theorem dX13_reopen_5 : decode cX13_reopen 5 = .ok (.iload_n 1, 1) := zo_27 (zi_at zh_dX13_reopen_0_0 5 rfl)
theorem dX13_reopen_6 : decode cX13_reopen 6 = .ok (.iconst 0, 1) := zo_3 (zi_at zh_dX13_reopen_0_0 6 rfl)
theorem dX13_reopen_7 : decode cX13_reopen 7 = .ok (.aload_n 0, 1) := zo_42 (zi_at zh_dX13_reopen_0_0 7 rfl)
theorem dX13_reopen_8 : decode cX13_reopen 8 = .ok (.getfield 464, 3) := zo_180 (zi_at zh_dX13_reopen_0_0 8 rfl) (zi_at zh_dX13_reopen_0_0 9 rfl) (zi_at zh_dX13_reopen_0_0 10 rfl) rfl
theorem dX13_reopen_11 : decode cX13_reopen 11 = .ok (.iconst 1, 1) := zo_4 (zi_at zh_dX13_reopen_0_0 11 rfl)
theorem dX13_reopen_12 : decode cX13_reopen 12 = .ok (.isub, 1) := zo_100 (zi_at zh_dX13_reopen_0_0 12 rfl)
theorem dX13_reopen_13 : decode cX13_reopen 13 = .ok (.invokestatic 235, 3) := zo_184 (zi_at zh_dX13_reopen_0_0 13 rfl) (zi_at zh_dX13_reopen_0_0 14 rfl) (zi_at zh_dX13_reopen_0_0 15 rfl) rfl
theorem dX13_reopen_16 : decode cX13_reopen 16 = .ok (.ifCond .eq 22, 3) := zo_153 (zi_at zh_dX13_reopen_16_16 0 rfl) (zi_at zh_dX13_reopen_16_16 1 rfl) (zi_at zh_dX13_reopen_16_16 2 rfl) rfl
theorem dX13_reopen_19 : decode cX13_reopen 19 = .ok (.aload_n 0, 1) := zo_42 (zi_at zh_dX13_reopen_16_16 3 rfl)
theorem dX13_reopen_20 : decode cX13_reopen 20 = .ok (.getfield 177, 3) := zo_180 (zi_at zh_dX13_reopen_16_16 4 rfl) (zi_at zh_dX13_reopen_16_16 5 rfl) (zi_at zh_dX13_reopen_16_16 6 rfl) rfl
theorem dX13_reopen_23 : decode cX13_reopen 23 = .ok (.iload_n 1, 1) := zo_27 (zi_at zh_dX13_reopen_16_16 7 rfl)
theorem dX13_reopen_24 : decode cX13_reopen 24 = .ok (.baload, 1) := zo_51 (zi_at zh_dX13_reopen_16_16 8 rfl)
theorem dX13_reopen_25 : decode cX13_reopen 25 = .ok (.ifCond .eq 13, 3) := zo_153 (zi_at zh_dX13_reopen_16_16 9 rfl) (zi_at zh_dX13_reopen_16_16 10 rfl) (zi_at zh_dX13_reopen_16_16 11 rfl) rfl
theorem dX13_reopen_28 : decode cX13_reopen 28 = .ok (.aload_n 0, 1) := zo_42 (zi_at zh_dX13_reopen_16_16 12 rfl)
theorem dX13_reopen_29 : decode cX13_reopen 29 = .ok (.getfield 174, 3) := zo_180 (zi_at zh_dX13_reopen_16_16 13 rfl) (zi_at zh_dX13_reopen_16_16 14 rfl) (zi_at zh_dX13_reopen_16_16 15 rfl) rfl
theorem dX13_reopen_32 : decode cX13_reopen 32 = .ok (.iload_n 1, 1) := zo_27 (zi_at zh_dX13_reopen_32_32 0 rfl)
theorem dX13_reopen_33 : decode cX13_reopen 33 = .ok (.iaload, 1) := zo_46 (zi_at zh_dX13_reopen_32_32 1 rfl)
theorem dX13_reopen_34 : decode cX13_reopen 34 = .ok (.iconst 2, 1) := zo_5 (zi_at zh_dX13_reopen_32_32 2 rfl)
theorem dX13_reopen_35 : decode cX13_reopen 35 = .ok (.if_icmp .ne 5, 3) := zo_160 (zi_at zh_dX13_reopen_32_32 3 rfl) (zi_at zh_dX13_reopen_32_32 4 rfl) (zi_at zh_dX13_reopen_32_32 5 rfl) rfl
theorem dX13_reopen_38 : decode cX13_reopen 38 = .ok (.iconst 0, 1) := zo_3 (zi_at zh_dX13_reopen_32_32 6 rfl)
theorem dX13_reopen_39 : decode cX13_reopen 39 = .ok (.ireturn, 1) := zo_172 (zi_at zh_dX13_reopen_32_32 7 rfl)
theorem dX13_reopen_40 : decode cX13_reopen 40 = .ok (.aload_n 0, 1) := zo_42 (zi_at zh_dX13_reopen_32_32 8 rfl)
theorem dX13_reopen_41 : decode cX13_reopen 41 = .ok (.getfield 177, 3) := zo_180 (zi_at zh_dX13_reopen_32_32 9 rfl) (zi_at zh_dX13_reopen_32_32 10 rfl) (zi_at zh_dX13_reopen_32_32 11 rfl) rfl
theorem dX13_reopen_44 : decode cX13_reopen 44 = .ok (.iload_n 1, 1) := zo_27 (zi_at zh_dX13_reopen_32_32 12 rfl)
theorem dX13_reopen_45 : decode cX13_reopen 45 = .ok (.iconst 0, 1) := zo_3 (zi_at zh_dX13_reopen_32_32 13 rfl)
theorem dX13_reopen_46 : decode cX13_reopen 46 = .ok (.bastore, 1) := zo_84 (zi_at zh_dX13_reopen_32_32 14 rfl)
theorem dX13_reopen_47 : decode cX13_reopen 47 = .ok (.aload_n 0, 1) := zo_42 (zi_at zh_dX13_reopen_32_32 15 rfl)
theorem dX13_reopen_48 : decode cX13_reopen 48 = .ok (.getfield 171, 3) := zo_180 (zi_at zh_dX13_reopen_48_48 0 rfl) (zi_at zh_dX13_reopen_48_48 1 rfl) (zi_at zh_dX13_reopen_48_48 2 rfl) rfl
theorem dX13_reopen_51 : decode cX13_reopen 51 = .ok (.iconst 2, 1) := zo_5 (zi_at zh_dX13_reopen_48_48 3 rfl)
theorem dX13_reopen_52 : decode cX13_reopen 52 = .ok (.iload_n 1, 1) := zo_27 (zi_at zh_dX13_reopen_48_48 4 rfl)
theorem dX13_reopen_53 : decode cX13_reopen 53 = .ok (.imul, 1) := zo_104 (zi_at zh_dX13_reopen_48_48 5 rfl)
theorem dX13_reopen_54 : decode cX13_reopen 54 = .ok (.aload_n 0, 1) := zo_42 (zi_at zh_dX13_reopen_48_48 6 rfl)
theorem dX13_reopen_55 : decode cX13_reopen 55 = .ok (.getfield 232, 3) := zo_180 (zi_at zh_dX13_reopen_48_48 7 rfl) (zi_at zh_dX13_reopen_48_48 8 rfl) (zi_at zh_dX13_reopen_48_48 9 rfl) rfl
theorem dX13_reopen_58 : decode cX13_reopen 58 = .ok (.iastore, 1) := zo_79 (zi_at zh_dX13_reopen_48_48 10 rfl)
theorem dX13_reopen_59 : decode cX13_reopen 59 = .ok (.iconst 1, 1) := zo_4 (zi_at zh_dX13_reopen_48_48 11 rfl)
theorem dX13_reopen_60 : decode cX13_reopen 60 = .ok (.ireturn, 1) := zo_172 (zi_at zh_dX13_reopen_48_48 12 rfl)
theorem dX13_told_0 : decode cX13_told 0 = .ok (.aload_n 0, 1) := zo_42 (zi_at zh_dX13_told_0_0 0 rfl)
theorem dX13_told_1 : decode cX13_told 1 = .ok (.aload_n 0, 1) := zo_42 (zi_at zh_dX13_told_0_0 1 rfl)
theorem dX13_told_2 : decode cX13_told 2 = .ok (.iload_n 1, 1) := zo_27 (zi_at zh_dX13_told_0_0 2 rfl)
theorem dX13_told_3 : decode cX13_told 3 = .ok (.invokevirtual 393, 3) := zo_182 (zi_at zh_dX13_told_0_0 3 rfl) (zi_at zh_dX13_told_0_0 4 rfl) (zi_at zh_dX13_told_0_0 5 rfl) rfl
theorem dX13_told_6 : decode cX13_told 6 = .ok (.ifCond .eq 17, 3) := zo_153 (zi_at zh_dX13_told_0_0 6 rfl) (zi_at zh_dX13_told_0_0 7 rfl) (zi_at zh_dX13_told_0_0 8 rfl) rfl
theorem dX13_told_9 : decode cX13_told 9 = .ok (.iload_n 2, 1) := zo_28 (zi_at zh_dX13_told_0_0 9 rfl)
theorem dX13_told_10 : decode cX13_told 10 = .ok (.iconst 0, 1) := zo_3 (zi_at zh_dX13_told_0_0 10 rfl)
theorem dX13_told_11 : decode cX13_told 11 = .ok (.bipush 8, 2) := zo_16 (zi_at zh_dX13_told_0_0 11 rfl) (zi_at zh_dX13_told_0_0 12 rfl) rfl
theorem dX13_told_13 : decode cX13_told 13 = .ok (.invokestatic 235, 3) := zo_184 (zi_at zh_dX13_told_0_0 13 rfl) (zi_at zh_dX13_told_0_0 14 rfl) (zi_at zh_dX13_told_0_0 15 rfl) rfl
theorem dX13_told_16 : decode cX13_told 16 = .ok (.ifCond .eq 7, 3) := zo_153 (zi_at zh_dX13_told_16_16 0 rfl) (zi_at zh_dX13_told_16_16 1 rfl) (zi_at zh_dX13_told_16_16 2 rfl) rfl
theorem dX13_told_19 : decode cX13_told 19 = .ok (.iconst 0, 1) := zo_3 (zi_at zh_dX13_told_16_16 3 rfl)
theorem dX13_told_20 : decode cX13_told 20 = .ok (.goto 4, 3) := zo_167 (zi_at zh_dX13_told_16_16 4 rfl) (zi_at zh_dX13_told_16_16 5 rfl) (zi_at zh_dX13_told_16_16 6 rfl) rfl
theorem dX13_told_23 : decode cX13_told 23 = .ok (.iconst 1, 1) := zo_4 (zi_at zh_dX13_told_16_16 7 rfl)
theorem dX13_told_24 : decode cX13_told 24 = .ok (.putfield 228, 3) := zo_181 (zi_at zh_dX13_told_16_16 8 rfl) (zi_at zh_dX13_told_16_16 9 rfl) (zi_at zh_dX13_told_16_16 10 rfl) rfl
theorem dX13_told_27 : decode cX13_told 27 = .ok (.aload_n 0, 1) := zo_42 (zi_at zh_dX13_told_16_16 11 rfl)
theorem dX13_told_28 : decode cX13_told 28 = .ok (.getfield 228, 3) := zo_180 (zi_at zh_dX13_told_16_16 12 rfl) (zi_at zh_dX13_told_16_16 13 rfl) (zi_at zh_dX13_told_16_16 14 rfl) rfl
theorem dX13_told_31 : decode cX13_told 31 = .ok (.ifCond .le 5, 3) := zo_158 (zi_at zh_dX13_told_16_16 15 rfl) (zi_at zh_dX13_told_31_32 0 rfl) (zi_at zh_dX13_told_31_32 1 rfl) rfl
theorem dX13_told_34 : decode cX13_told 34 = .ok (.iconst 0, 1) := zo_3 (zi_at zh_dX13_told_31_32 2 rfl)
theorem dX13_told_35 : decode cX13_told 35 = .ok (.ireturn, 1) := zo_172 (zi_at zh_dX13_told_31_32 3 rfl)
theorem dX13_told_36 : decode cX13_told 36 = .ok (.iload_n 2, 1) := zo_28 (zi_at zh_dX13_told_31_32 4 rfl)
theorem dX13_told_37 : decode cX13_told 37 = .ok (.tableswitch 140 0 7 #[47, 54, 61, 68, 75, 82, 89, 133], 47) := by decide +kernel
theorem dX13_told_84 : decode cX13_told 84 = .ok (.aload_n 0, 1) := zo_42 (zi_at zh_dX13_told_84_80 4 rfl)
theorem dX13_told_85 : decode cX13_told 85 = .ok (.getfield 50, 3) := zo_180 (zi_at zh_dX13_told_84_80 5 rfl) (zi_at zh_dX13_told_84_80 6 rfl) (zi_at zh_dX13_told_84_80 7 rfl) rfl
theorem dX13_told_88 : decode cX13_told 88 = .ok (.iload_n 1, 1) := zo_27 (zi_at zh_dX13_told_84_80 8 rfl)
theorem dX13_told_89 : decode cX13_told 89 = .ok (.iaload, 1) := zo_46 (zi_at zh_dX13_told_84_80 9 rfl)
theorem dX13_told_90 : decode cX13_told 90 = .ok (.ireturn, 1) := zo_172 (zi_at zh_dX13_told_84_80 10 rfl)
theorem dX13_told_91 : decode cX13_told 91 = .ok (.aload_n 0, 1) := zo_42 (zi_at zh_dX13_told_84_80 11 rfl)
theorem dX13_told_92 : decode cX13_told 92 = .ok (.getfield 53, 3) := zo_180 (zi_at zh_dX13_told_84_80 12 rfl) (zi_at zh_dX13_told_84_80 13 rfl) (zi_at zh_dX13_told_84_80 14 rfl) rfl
theorem dX13_told_95 : decode cX13_told 95 = .ok (.iload_n 1, 1) := zo_27 (zi_at zh_dX13_told_84_80 15 rfl)
theorem dX13_told_96 : decode cX13_told 96 = .ok (.iaload, 1) := zo_46 (zi_at zh_dX13_told_96_96 0 rfl)
theorem dX13_told_97 : decode cX13_told 97 = .ok (.ireturn, 1) := zo_172 (zi_at zh_dX13_told_96_96 1 rfl)
theorem dX13_told_98 : decode cX13_told 98 = .ok (.aload_n 0, 1) := zo_42 (zi_at zh_dX13_told_96_96 2 rfl)
theorem dX13_told_99 : decode cX13_told 99 = .ok (.getfield 56, 3) := zo_180 (zi_at zh_dX13_told_96_96 3 rfl) (zi_at zh_dX13_told_96_96 4 rfl) (zi_at zh_dX13_told_96_96 5 rfl) rfl
theorem dX13_told_102 : decode cX13_told 102 = .ok (.iload_n 1, 1) := zo_27 (zi_at zh_dX13_told_96_96 6 rfl)
theorem dX13_told_103 : decode cX13_told 103 = .ok (.iaload, 1) := zo_46 (zi_at zh_dX13_told_96_96 7 rfl)
theorem dX13_told_104 : decode cX13_told 104 = .ok (.ireturn, 1) := zo_172 (zi_at zh_dX13_told_96_96 8 rfl)
theorem dX13_told_105 : decode cX13_told 105 = .ok (.aload_n 0, 1) := zo_42 (zi_at zh_dX13_told_96_96 9 rfl)
theorem dX13_told_106 : decode cX13_told 106 = .ok (.getfield 59, 3) := zo_180 (zi_at zh_dX13_told_96_96 10 rfl) (zi_at zh_dX13_told_96_96 11 rfl) (zi_at zh_dX13_told_96_96 12 rfl) rfl
theorem dX13_told_109 : decode cX13_told 109 = .ok (.iload_n 1, 1) := zo_27 (zi_at zh_dX13_told_96_96 13 rfl)
theorem dX13_told_110 : decode cX13_told 110 = .ok (.iaload, 1) := zo_46 (zi_at zh_dX13_told_96_96 14 rfl)
theorem dX13_told_111 : decode cX13_told 111 = .ok (.ireturn, 1) := zo_172 (zi_at zh_dX13_told_96_96 15 rfl)
theorem dX13_told_112 : decode cX13_told 112 = .ok (.aload_n 0, 1) := zo_42 (zi_at zh_dX13_told_112_112 0 rfl)
theorem dX13_told_113 : decode cX13_told 113 = .ok (.getfield 62, 3) := zo_180 (zi_at zh_dX13_told_112_112 1 rfl) (zi_at zh_dX13_told_112_112 2 rfl) (zi_at zh_dX13_told_112_112 3 rfl) rfl
theorem dX13_told_116 : decode cX13_told 116 = .ok (.iload_n 1, 1) := zo_27 (zi_at zh_dX13_told_112_112 4 rfl)
theorem dX13_told_117 : decode cX13_told 117 = .ok (.iaload, 1) := zo_46 (zi_at zh_dX13_told_112_112 5 rfl)
theorem dX13_told_118 : decode cX13_told 118 = .ok (.ireturn, 1) := zo_172 (zi_at zh_dX13_told_112_112 6 rfl)
theorem dX13_told_119 : decode cX13_told 119 = .ok (.aload_n 0, 1) := zo_42 (zi_at zh_dX13_told_112_112 7 rfl)
theorem dX13_told_120 : decode cX13_told 120 = .ok (.getfield 65, 3) := zo_180 (zi_at zh_dX13_told_112_112 8 rfl) (zi_at zh_dX13_told_112_112 9 rfl) (zi_at zh_dX13_told_112_112 10 rfl) rfl
theorem dX13_told_123 : decode cX13_told 123 = .ok (.iload_n 1, 1) := zo_27 (zi_at zh_dX13_told_112_112 11 rfl)
theorem dX13_told_124 : decode cX13_told 124 = .ok (.iaload, 1) := zo_46 (zi_at zh_dX13_told_112_112 12 rfl)
theorem dX13_told_125 : decode cX13_told 125 = .ok (.ireturn, 1) := zo_172 (zi_at zh_dX13_told_112_112 13 rfl)
theorem dX13_told_126 : decode cX13_told 126 = .ok (.iconst 0, 1) := zo_3 (zi_at zh_dX13_told_112_112 14 rfl)
theorem dX13_told_127 : decode cX13_told 127 = .ok (.istore_n 3, 1) := zo_62 (zi_at zh_dX13_told_112_112 15 rfl)
theorem dX13_told_128 : decode cX13_told 128 = .ok (.iconst 0, 1) := zo_3 (zi_at zh_dX13_told_128_128 0 rfl)
theorem dX13_told_129 : decode cX13_told 129 = .ok (.istore 4, 2) := zo_54 (zi_at zh_dX13_told_128_128 1 rfl) (zi_at zh_dX13_told_128_128 2 rfl)
theorem dX13_told_131 : decode cX13_told 131 = .ok (.iload 4, 2) := zo_21 (zi_at zh_dX13_told_128_128 3 rfl) (zi_at zh_dX13_told_128_128 4 rfl)
theorem dX13_told_133 : decode cX13_told 133 = .ok (.aload_n 0, 1) := zo_42 (zi_at zh_dX13_told_128_128 5 rfl)
theorem dX13_told_134 : decode cX13_told 134 = .ok (.getfield 239, 3) := zo_180 (zi_at zh_dX13_told_128_128 6 rfl) (zi_at zh_dX13_told_128_128 7 rfl) (zi_at zh_dX13_told_128_128 8 rfl) rfl
theorem dX13_told_137 : decode cX13_told 137 = .ok (.if_icmp .ge 31, 3) := zo_162 (zi_at zh_dX13_told_128_128 9 rfl) (zi_at zh_dX13_told_128_128 10 rfl) (zi_at zh_dX13_told_128_128 11 rfl) rfl
theorem dX13_told_140 : decode cX13_told 140 = .ok (.iload_n 3, 1) := zo_29 (zi_at zh_dX13_told_128_128 12 rfl)
theorem dX13_told_141 : decode cX13_told 141 = .ok (.aload_n 0, 1) := zo_42 (zi_at zh_dX13_told_128_128 13 rfl)
theorem dX13_told_142 : decode cX13_told 142 = .ok (.iload_n 1, 1) := zo_27 (zi_at zh_dX13_told_128_128 14 rfl)
theorem dX13_told_143 : decode cX13_told 143 = .ok (.iload 4, 2) := zo_21 (zi_at zh_dX13_told_128_128 15 rfl) (zi_at zh_dX13_told_143_144 0 rfl)
theorem dX13_told_145 : decode cX13_told 145 = .ok (.aload_n 0, 1) := zo_42 (zi_at zh_dX13_told_143_144 1 rfl)
theorem dX13_told_146 : decode cX13_told 146 = .ok (.getfield 232, 3) := zo_180 (zi_at zh_dX13_told_143_144 2 rfl) (zi_at zh_dX13_told_143_144 3 rfl) (zi_at zh_dX13_told_143_144 4 rfl) rfl
theorem dX13_told_149 : decode cX13_told 149 = .ok (.invokevirtual 396, 3) := zo_182 (zi_at zh_dX13_told_143_144 5 rfl) (zi_at zh_dX13_told_143_144 6 rfl) (zi_at zh_dX13_told_143_144 7 rfl) rfl
theorem dX13_told_152 : decode cX13_told 152 = .ok (.ifCond .eq 7, 3) := zo_153 (zi_at zh_dX13_told_143_144 8 rfl) (zi_at zh_dX13_told_143_144 9 rfl) (zi_at zh_dX13_told_143_144 10 rfl) rfl
theorem dX13_told_155 : decode cX13_told 155 = .ok (.iconst 1, 1) := zo_4 (zi_at zh_dX13_told_143_144 11 rfl)
theorem dX13_told_156 : decode cX13_told 156 = .ok (.goto 4, 3) := zo_167 (zi_at zh_dX13_told_143_144 12 rfl) (zi_at zh_dX13_told_143_144 13 rfl) (zi_at zh_dX13_told_143_144 14 rfl) rfl
theorem dX13_told_159 : decode cX13_told 159 = .ok (.iconst 0, 1) := zo_3 (zi_at zh_dX13_told_143_144 15 rfl)
theorem dX13_told_160 : decode cX13_told 160 = .ok (.iadd, 1) := zo_96 (zi_at zh_dX13_told_160_160 0 rfl)
theorem dX13_told_161 : decode cX13_told 161 = .ok (.istore_n 3, 1) := zo_62 (zi_at zh_dX13_told_160_160 1 rfl)
theorem dX13_told_162 : decode cX13_told 162 = .ok (.iinc 4 1, 3) := zo_132 (zi_at zh_dX13_told_160_160 2 rfl) (zi_at zh_dX13_told_160_160 3 rfl) (zi_at zh_dX13_told_160_160 4 rfl) rfl
theorem dX13_told_165 : decode cX13_told 165 = .ok (.goto (-34), 3) := zo_167 (zi_at zh_dX13_told_160_160 5 rfl) (zi_at zh_dX13_told_160_160 6 rfl) (zi_at zh_dX13_told_160_160 7 rfl) rfl
theorem dX13_told_168 : decode cX13_told 168 = .ok (.iload_n 3, 1) := zo_29 (zi_at zh_dX13_told_160_160 8 rfl)
theorem dX13_told_169 : decode cX13_told 169 = .ok (.ireturn, 1) := zo_172 (zi_at zh_dX13_told_160_160 9 rfl)
theorem dX13_told_170 : decode cX13_told 170 = .ok (.aload_n 0, 1) := zo_42 (zi_at zh_dX13_told_160_160 10 rfl)
theorem dX13_told_171 : decode cX13_told 171 = .ok (.getfield 68, 3) := zo_180 (zi_at zh_dX13_told_160_160 11 rfl) (zi_at zh_dX13_told_160_160 12 rfl) (zi_at zh_dX13_told_160_160 13 rfl) rfl
theorem dX13_told_174 : decode cX13_told 174 = .ok (.iload_n 1, 1) := zo_27 (zi_at zh_dX13_told_160_160 14 rfl)
theorem dX13_told_175 : decode cX13_told 175 = .ok (.iaload, 1) := zo_46 (zi_at zh_dX13_told_160_160 15 rfl)
theorem dX13_told_176 : decode cX13_told 176 = .ok (.ireturn, 1) := zo_172 (zi_at zh_dX13_told_176_176 0 rfl)
theorem dX13_told_177 : decode cX13_told 177 = .ok (.aload_n 0, 1) := zo_42 (zi_at zh_dX13_told_176_176 1 rfl)
theorem dX13_told_178 : decode cX13_told 178 = .ok (.getfield 71, 3) := zo_180 (zi_at zh_dX13_told_176_176 2 rfl) (zi_at zh_dX13_told_176_176 3 rfl) (zi_at zh_dX13_told_176_176 4 rfl) rfl
theorem dX13_told_181 : decode cX13_told 181 = .ok (.iload_n 1, 1) := zo_27 (zi_at zh_dX13_told_176_176 5 rfl)
theorem dX13_told_182 : decode cX13_told 182 = .ok (.iaload, 1) := zo_46 (zi_at zh_dX13_told_176_176 6 rfl)
theorem dX13_told_183 : decode cX13_told 183 = .ok (.ireturn, 1) := zo_172 (zi_at zh_dX13_told_176_176 7 rfl)
theorem hz_yX4_isDecided_0 : yX4_isDecided.cls ≠ "java/lang/invoke/MethodHandle" ∧ yX4_isDecided.cls ≠ "java/lang/invoke/VarHandle" ∧ (parseMethodDescriptor yX4_isDecided.desc).map (fun d => d.parameters.length) = some 0 := by decide +kernel

def v_pisDecidedX : List Cond := .code yX4_isDecided cX4_isDecided 1 (some .boolean) :: vA
abbrev rm_pisDecidedX : Room := { frames := 0, cells := 0, slots := 0, locals := 0 }
set_option maxHeartbeats 4000000 in
set_option maxRecDepth 100000 in
theorem q_pisDecidedX (l : Launch) (dC : Nat → ClassId) (dI : Nat → Nat → Nat) (cT : Nat → ClassId) (cf : Nat → Nat) (hC : CF cf) (ad : Nat → Nat) (E : Nat → va_E) (sz : Nat) (i : Nat) (hI0 : IXL cT (shC cf) (spC cf) (LC cf) ad E) (hh0 : i < cf 5) : Met l yX4_isDecided v_pisDecidedX rm_pisDecidedX (va_Pc [.ref (ad (64 * (i + 1) + 14))] (HWL dC dI (TYC cT) cf ad E sz)) (va_Qi (S := Unit) (fun r _ => (r = 1 ∧ ((((xi (E (64 * (i + 1) + 14)) 7).toInt = -1 ∧ ¬ (xi (E (64 * (i + 1) + 14)) 5).toInt = -1) ∨ (¬ (xi (E (64 * (i + 1) + 14)) 7).toInt = -1 ∧ ¬ (xi (E (64 * (i + 1) + 14)) 8).toInt = -1)))) ∨ (r = 0 ∧ (¬ ((((xi (E (64 * (i + 1) + 14)) 7).toInt = -1 ∧ ¬ (xi (E (64 * (i + 1) + 14)) 5).toInt = -1) ∨ (¬ (xi (E (64 * (i + 1) + 14)) 7).toInt = -1 ∧ ¬ (xi (E (64 * (i + 1) + 14)) 8).toInt = -1)))))) (fun _ _ => True) (fun _ => False)) 0 0 (fun _ => False) := by
  obtain ⟨⟨hc0, hc1, hc2, hc3, hc4, hc5⟩, hcr⟩ := id hC
  refine Met.ofW (cc := cX4_isDecided) (maxL := 1) (ret := (some .boolean)) (by decide) rfl ?_
  intro p e s m args below meth c s₁ B hml hv
  obtain ⟨hargs, hsz, hP, hK, hD0, hEV⟩ := hv
  subst hsz
  have hx := B.exec
  have hb := B.bytes
  have hr := B.returns
  have hts := atoms_spec (ws := v_pisDecidedX) B.pre
  have hown : s.vm.findClass RX4 = some m.cls := findClass_of_methodNamed B.named
  have hlocks := B.notSynchronized
  have hinX4 : ∀ w ∈ u_ws RX4 TX4 10, w ∈ v_pisDecidedX := fun w h => vA_in _ w (in_X4 w h)
  have hS : va_S (fun _ : Nat => False) s.heap s.heap [] := va_S.rf
  have hD := hD0
  have hI := hI0
  have hKp : Kp (wl [] []) E E := Kp.rf
  have hl := lv_entry ([.ref (ad (64 * (i + 1) + 14))]) (n := 1) (Nat.le_of_ble_eq_true rfl)
  obtain ⟨Q, hQ⟩ : ∃ Q, Q = MQ below (va_Qi (S := Unit) (fun r _ => (r = 1 ∧ ((((xi (E (64 * (i + 1) + 14)) 7).toInt = -1 ∧ ¬ (xi (E (64 * (i + 1) + 14)) 5).toInt = -1) ∨ (¬ (xi (E (64 * (i + 1) + 14)) 7).toInt = -1 ∧ ¬ (xi (E (64 * (i + 1) + 14)) 8).toInt = -1)))) ∨ (r = 0 ∧ (¬ ((((xi (E (64 * (i + 1) + 14)) 7).toInt = -1 ∧ ¬ (xi (E (64 * (i + 1) + 14)) 5).toInt = -1) ∨ (¬ (xi (E (64 * (i + 1) + 14)) 7).toInt = -1 ∧ ¬ (xi (E (64 * (i + 1) + 14)) 8).toInt = -1)))))) (fun _ _ => True) (fun _ => False)) args s 0 0 (fun _ => False) := ⟨_, rfl⟩
  rw [← hQ, show entryFrame m args 1 = _ from (congrArg (fun z => entryFrame m z 1) hargs).trans (lg_entry_eq _ _ _)]
  generalize (lg_sl ([.ref (ad (64 * (i + 1) + 14))]) ++ List.replicate (1 - (lg_sl ([.ref (ad (64 * (i + 1) + 14))])).length) Slot.unset).toArray = ls at hl ⊢
  have hl : lv_has ls 1 [(0, .ref (ad (64 * (i + 1) + 14)))] := hl
  refine lv_aload_n hx hb dX4_isDecided_0 rfl (lv_at hl 0 rfl) ?_
  have i1 : -1 ≤ (xi (E (64 * (i + 1) + 14)) 7).toInt ∧ (xi (E (64 * (i + 1) + 14)) 7).toInt ≤ 400 := hI0.iv (64 * (i + 1) + 14) (mP 14 i (by decide) hh0 (kl_le hC 5 (by decide))) (shC_p 14 i (by decide)) (Nat.le_of_ble_eq_true rfl) (spC_p 14 i (by decide) 7)
  refine th_getL (ci := 5) (C := RX4) (T := TX4) (N := 10) (v := .int (xi (E (64 * (i + 1) + 14)) 7)) hx hb hts hinX4 hown hK hP hI (64 * (i + 1) + 14) (mP 14 i (by decide) hh0 (kl_le hC 5 (by decide))) (shC_p 14 i (by decide)) rfl 7 (Nat.le_of_ble_eq_true rfl) (hts _ (vA_in _ _ (in_5 _ (zs16 (zs4 (zs0)))))) (fun _ h9 => h9) (th_v0L hKp hI0 (64 * (i + 1) + 14) (mP 14 i (by decide) hh0 (kl_le hC 5 (by decide))) (shC_p 14 i (by decide)) (Nat.le_of_ble_eq_true rfl) (spC_p 14 i (by decide) 7) (wl_p rfl rfl (by omega))) dX4_isDecided_1 ?_
  refine lv_iconst (v := -1) hx hb dX4_isDecided_4 (by decide) ?_
  refine lv_icmp_ne (tgt := 24) hx hb dX4_isDecided_5 (by decide) (fun c2 => ?_) (fun c2 => ?_)
  · --5 taken
    have t3 : ¬ (xi (E (64 * (i + 1) + 14)) 7).toInt = -1 := ti_ne c2
    have i4 : 0 ≤ (xi (E (64 * (i + 1) + 14)) 7).toInt ∧ (xi (E (64 * (i + 1) + 14)) 7).toInt ≤ 400 := iv_ne_l t3 i1 (il_ (-1))
    refine lv_aload_n hx hb dX4_isDecided_24 rfl (lv_at hl 0 rfl) ?_
    have i5 : -1 ≤ (xi (E (64 * (i + 1) + 14)) 8).toInt ∧ (xi (E (64 * (i + 1) + 14)) 8).toInt ≤ 400 := hI0.iv (64 * (i + 1) + 14) (mP 14 i (by decide) hh0 (kl_le hC 5 (by decide))) (shC_p 14 i (by decide)) (Nat.le_of_ble_eq_true rfl) (spC_p 14 i (by decide) 8)
    refine th_getL (ci := 5) (C := RX4) (T := TX4) (N := 10) (v := .int (xi (E (64 * (i + 1) + 14)) 8)) hx hb hts hinX4 hown hK hP hI (64 * (i + 1) + 14) (mP 14 i (by decide) hh0 (kl_le hC 5 (by decide))) (shC_p 14 i (by decide)) rfl 8 (Nat.le_of_ble_eq_true rfl) (hts _ (vA_in _ _ (in_5 _ (zs16 (zs1 (zs1 (zs0))))))) (fun _ h9 => h9) (th_v0L hKp hI0 (64 * (i + 1) + 14) (mP 14 i (by decide) hh0 (kl_le hC 5 (by decide))) (shC_p 14 i (by decide)) (Nat.le_of_ble_eq_true rfl) (spC_p 14 i (by decide) 8) (wl_p rfl rfl (by omega))) dX4_isDecided_25 ?_
    refine lv_iconst (v := -1) hx hb dX4_isDecided_28 (by decide) ?_
    refine lv_icmp_eq (tgt := 36) hx hb dX4_isDecided_29 (by decide) (fun c6 => ?_) (fun c6 => ?_)
    · --29 taken
      have t7 : (xi (E (64 * (i + 1) + 14)) 8).toInt = -1 := ti_eq c6
      have i8 : -1 ≤ (xi (E (64 * (i + 1) + 14)) 8).toInt ∧ (xi (E (64 * (i + 1) + 14)) 8).toInt ≤ -1 := iv_eqi t7 i5 (il_ (-1)) (by decide)
      refine lv_iconst (v := 0) hx hb dX4_isDecided_36 (by decide) ?_
      rw [hQ]
      exact W.zret (v := 0) hx hb hr rfl (fun t ht hW => ⟨⟨0, (), rfl, Or.inr (⟨rfl, by have h8 := ln_0; omega⟩), trivial⟩, hS.F ht⟩) hS.2.2 dX4_isDecided_37
    · --29 not
      have t9 : ¬ (xi (E (64 * (i + 1) + 14)) 8).toInt = -1 := ti_ne c6
      have i10 : 0 ≤ (xi (E (64 * (i + 1) + 14)) 8).toInt ∧ (xi (E (64 * (i + 1) + 14)) 8).toInt ≤ 400 := iv_ne_l t9 i5 (il_ (-1))
      refine lv_iconst (v := 1) hx hb dX4_isDecided_32 (by decide) ?_
      refine lv_goto (tgt := 37) hx hb dX4_isDecided_33 (by decide) ?_
      rw [hQ]
      exact W.zret (v := 1) hx hb hr rfl (fun t ht hW => ⟨⟨1, (), rfl, Or.inl ⟨rfl, by have h8 := ln_1; omega⟩, trivial⟩, hS.F ht⟩) hS.2.2 dX4_isDecided_37
  · --5 not
    have t11 : (xi (E (64 * (i + 1) + 14)) 7).toInt = -1 := ti_eq c2
    have i12 : -1 ≤ (xi (E (64 * (i + 1) + 14)) 7).toInt ∧ (xi (E (64 * (i + 1) + 14)) 7).toInt ≤ -1 := iv_eqi t11 i1 (il_ (-1)) (by decide)
    refine lv_aload_n hx hb dX4_isDecided_8 rfl (lv_at hl 0 rfl) ?_
    have i13 : -1 ≤ (xi (E (64 * (i + 1) + 14)) 5).toInt ∧ (xi (E (64 * (i + 1) + 14)) 5).toInt ≤ 400 := hI0.iv (64 * (i + 1) + 14) (mP 14 i (by decide) hh0 (kl_le hC 5 (by decide))) (shC_p 14 i (by decide)) (Nat.le_of_ble_eq_true rfl) (spC_p 14 i (by decide) 5)
    refine th_getL (ci := 5) (C := RX4) (T := TX4) (N := 10) (v := .int (xi (E (64 * (i + 1) + 14)) 5)) hx hb hts hinX4 hown hK hP hI (64 * (i + 1) + 14) (mP 14 i (by decide) hh0 (kl_le hC 5 (by decide))) (shC_p 14 i (by decide)) rfl 5 (Nat.le_of_ble_eq_true rfl) (hts _ (vA_in _ _ (in_5 _ (zs16 (zs4 (zs1 (zs0))))))) (fun _ h9 => h9) (th_v0L hKp hI0 (64 * (i + 1) + 14) (mP 14 i (by decide) hh0 (kl_le hC 5 (by decide))) (shC_p 14 i (by decide)) (Nat.le_of_ble_eq_true rfl) (spC_p 14 i (by decide) 5) (wl_p rfl rfl (by omega))) dX4_isDecided_9 ?_
    refine lv_iconst (v := -1) hx hb dX4_isDecided_12 (by decide) ?_
    refine lv_icmp_eq (tgt := 20) hx hb dX4_isDecided_13 (by decide) (fun c14 => ?_) (fun c14 => ?_)
    · --13 taken
      have t15 : (xi (E (64 * (i + 1) + 14)) 5).toInt = -1 := ti_eq c14
      have i16 : -1 ≤ (xi (E (64 * (i + 1) + 14)) 5).toInt ∧ (xi (E (64 * (i + 1) + 14)) 5).toInt ≤ -1 := iv_eqi t15 i13 (il_ (-1)) (by decide)
      refine lv_iconst (v := 0) hx hb dX4_isDecided_20 (by decide) ?_
      refine lv_goto (tgt := 37) hx hb dX4_isDecided_21 (by decide) ?_
      rw [hQ]
      exact W.zret (v := 0) hx hb hr rfl (fun t ht hW => ⟨⟨0, (), rfl, Or.inr (⟨rfl, by have h8 := ln_0; omega⟩), trivial⟩, hS.F ht⟩) hS.2.2 dX4_isDecided_37
    · --13 not
      have t17 : ¬ (xi (E (64 * (i + 1) + 14)) 5).toInt = -1 := ti_ne c14
      have i18 : 0 ≤ (xi (E (64 * (i + 1) + 14)) 5).toInt ∧ (xi (E (64 * (i + 1) + 14)) 5).toInt ≤ 400 := iv_ne_l t17 i13 (il_ (-1))
      refine lv_iconst (v := 1) hx hb dX4_isDecided_16 (by decide) ?_
      refine lv_goto (tgt := 37) hx hb dX4_isDecided_17 (by decide) ?_
      rw [hQ]
      exact W.zret (v := 1) hx hb hr rfl (fun t ht hW => ⟨⟨1, (), rfl, Or.inl ⟨rfl, by have h8 := ln_1; omega⟩, trivial⟩, hS.F ht⟩) hS.2.2 dX4_isDecided_37
def v_settleX : List Cond := .code yX4_settle cX4_settle 3 none :: vA
abbrev rm_settleX : Room := { frames := 0, cells := 0, slots := 0, locals := 0 }
set_option maxHeartbeats 4000000 in
set_option maxRecDepth 100000 in
theorem q_settleX (l : Launch) (dC : Nat → ClassId) (dI : Nat → Nat → Nat) (cT : Nat → ClassId) (cf : Nat → Nat) (hC : CF cf) (ad : Nat → Nat) (E : Nat → va_E) (sz : Nat) (a0 : Int32) (a1 : Int32) (i : Nat) (hI0 : IXL cT (shC cf) (spC cf) (LC cf) ad E) (hh0 : i < cf 5) (hh1 : 0 ≤ a0.toInt ∧ a0.toInt ≤ 3) (hh2 : 0 ≤ a1.toInt ∧ a1.toInt ≤ 400) : Met l yX4_settle v_settleX rm_settleX (va_Pc [.ref (ad (64 * (i + 1) + 14)), .int a0, .int a1] (HWL dC dI (TYC cT) cf ad E sz)) (va_Qv (S := Nat → va_E) (fun u => IXL cT (shC cf) (spC cf) (LC cf) ad u ∧ Kp (wl [] [(64 * (i + 1) + 14, 5), (64 * (i + 1) + 14, 6), (64 * (i + 1) + 14, 8), (64 * (i + 1) + 14, 9)]) E u ∧ ((((xi (E (64 * (i + 1) + 14)) 7).toInt = -1 → (xi (u (64 * (i + 1) + 14)) 5).toInt = a1.toInt ∧ (xi (u (64 * (i + 1) + 14)) 6).toInt = a0.toInt ∧ (xi (u (64 * (i + 1) + 14)) 8).toInt = (xi (E (64 * (i + 1) + 14)) 8).toInt ∧ (xi (u (64 * (i + 1) + 14)) 9).toInt = (xi (E (64 * (i + 1) + 14)) 9).toInt) ∧ (¬ (xi (E (64 * (i + 1) + 14)) 7).toInt = -1 → (xi (u (64 * (i + 1) + 14)) 8).toInt = a1.toInt ∧ (xi (u (64 * (i + 1) + 14)) 9).toInt = a0.toInt ∧ (xi (u (64 * (i + 1) + 14)) 5).toInt = (xi (E (64 * (i + 1) + 14)) 5).toInt ∧ (xi (u (64 * (i + 1) + 14)) 6).toInt = (xi (E (64 * (i + 1) + 14)) 6).toInt)))) (HBL dC dI (LC cf) ad) (va_A (WL (LC cf) ad E) sz)) 0 0 (va_A (WL (LC cf) ad E) sz) := by
  obtain ⟨⟨hc0, hc1, hc2, hc3, hc4, hc5⟩, hcr⟩ := id hC
  refine Met.ofW (cc := cX4_settle) (maxL := 3) (ret := none) (by decide) rfl ?_
  intro p e s m args below meth c s₁ B hml hv
  obtain ⟨hargs, hsz, hP, hK, hD0, hEV⟩ := hv
  subst hsz
  have hx := B.exec
  have hb := B.bytes
  have hr := B.returns
  have hts := atoms_spec (ws := v_settleX) B.pre
  have hown : s.vm.findClass RX4 = some m.cls := findClass_of_methodNamed B.named
  have hlocks := B.notSynchronized
  have hinX4 : ∀ w ∈ u_ws RX4 TX4 10, w ∈ v_settleX := fun w h => vA_in _ w (in_X4 w h)
  generalize hAe : va_A (WL (LC cf) ad E) s.heap.size = A at hEV ⊢
  have hA : ∀ q : Nat, s.heap.size ≤ q → A q := fun q h => by rw [← hAe]; exact Or.inr h
  have hD : va_D A (WL (LC cf) ad E) := by rw [← hAe]; exact hD0.self
  have hS : va_S A s.heap s.heap [] := va_S.rf
  have hI := hI0
  have hKp : Kp (wl [] [(64 * (i + 1) + 14, 5), (64 * (i + 1) + 14, 6), (64 * (i + 1) + 14, 8), (64 * (i + 1) + 14, 9)]) E E := Kp.rf
  have hl := lv_entry ([.ref (ad (64 * (i + 1) + 14)), .int a0, .int a1]) (n := 3) (Nat.le_of_ble_eq_true rfl)
  obtain ⟨Q, hQ⟩ : ∃ Q, Q = MQ below (va_Qv (S := Nat → va_E) (fun u => IXL cT (shC cf) (spC cf) (LC cf) ad u ∧ Kp (wl [] [(64 * (i + 1) + 14, 5), (64 * (i + 1) + 14, 6), (64 * (i + 1) + 14, 8), (64 * (i + 1) + 14, 9)]) E u ∧ ((((xi (E (64 * (i + 1) + 14)) 7).toInt = -1 → (xi (u (64 * (i + 1) + 14)) 5).toInt = a1.toInt ∧ (xi (u (64 * (i + 1) + 14)) 6).toInt = a0.toInt ∧ (xi (u (64 * (i + 1) + 14)) 8).toInt = (xi (E (64 * (i + 1) + 14)) 8).toInt ∧ (xi (u (64 * (i + 1) + 14)) 9).toInt = (xi (E (64 * (i + 1) + 14)) 9).toInt) ∧ (¬ (xi (E (64 * (i + 1) + 14)) 7).toInt = -1 → (xi (u (64 * (i + 1) + 14)) 8).toInt = a1.toInt ∧ (xi (u (64 * (i + 1) + 14)) 9).toInt = a0.toInt ∧ (xi (u (64 * (i + 1) + 14)) 5).toInt = (xi (E (64 * (i + 1) + 14)) 5).toInt ∧ (xi (u (64 * (i + 1) + 14)) 6).toInt = (xi (E (64 * (i + 1) + 14)) 6).toInt)))) (HBL dC dI (LC cf) ad) (A)) args s 0 0 (A) := ⟨_, rfl⟩
  rw [← hQ, show entryFrame m args 3 = _ from (congrArg (fun z => entryFrame m z 3) hargs).trans (lg_entry_eq _ _ _)]
  generalize (lg_sl ([.ref (ad (64 * (i + 1) + 14)), .int a0, .int a1]) ++ List.replicate (3 - (lg_sl ([.ref (ad (64 * (i + 1) + 14)), .int a0, .int a1])).length) Slot.unset).toArray = ls at hl ⊢
  have hl : lv_has ls 3 [(0, .ref (ad (64 * (i + 1) + 14))), (1, .int a0), (2, .int a1)] := hl
  obtain ⟨y1, ey1⟩ : ∃ y, xi (E (64 * (i + 1) + 14)) 5 = y := ⟨_, rfl⟩
  have fy1 : xv (E (64 * (i + 1) + 14)) 5 = .int y1 := (hI.fi (64 * (i + 1) + 14) (mP 14 i (by decide) hh0 (kl_le hC 5 (by decide))) (shC_p 14 i (by decide)) (Nat.le_of_ble_eq_true rfl) (spC_p 14 i (by decide) 5)).trans (congrArg Value.int ey1)
  have i2 : -1 ≤ y1.toInt ∧ y1.toInt ≤ 400 := by rw [← ey1]; exact hI.iv (64 * (i + 1) + 14) (mP 14 i (by decide) hh0 (kl_le hC 5 (by decide))) (shC_p 14 i (by decide)) (Nat.le_of_ble_eq_true rfl) (spC_p 14 i (by decide) 5)
  obtain ⟨y3, ey3⟩ : ∃ y, xi (E (64 * (i + 1) + 14)) 6 = y := ⟨_, rfl⟩
  have fy3 : xv (E (64 * (i + 1) + 14)) 6 = .int y3 := (hI.fi (64 * (i + 1) + 14) (mP 14 i (by decide) hh0 (kl_le hC 5 (by decide))) (shC_p 14 i (by decide)) (Nat.le_of_ble_eq_true rfl) (spC_p 14 i (by decide) 6)).trans (congrArg Value.int ey3)
  have i4 : 0 ≤ y3.toInt ∧ y3.toInt ≤ 3 := by rw [← ey3]; exact hI.iv (64 * (i + 1) + 14) (mP 14 i (by decide) hh0 (kl_le hC 5 (by decide))) (shC_p 14 i (by decide)) (Nat.le_of_ble_eq_true rfl) (spC_p 14 i (by decide) 6)
  have i5 : -1 ≤ (xi (E (64 * (i + 1) + 14)) 7).toInt ∧ (xi (E (64 * (i + 1) + 14)) 7).toInt ≤ 400 := hI0.iv (64 * (i + 1) + 14) (mP 14 i (by decide) hh0 (kl_le hC 5 (by decide))) (shC_p 14 i (by decide)) (Nat.le_of_ble_eq_true rfl) (spC_p 14 i (by decide) 7)
  obtain ⟨y6, ey6⟩ : ∃ y, xi (E (64 * (i + 1) + 14)) 8 = y := ⟨_, rfl⟩
  have fy6 : xv (E (64 * (i + 1) + 14)) 8 = .int y6 := (hI.fi (64 * (i + 1) + 14) (mP 14 i (by decide) hh0 (kl_le hC 5 (by decide))) (shC_p 14 i (by decide)) (Nat.le_of_ble_eq_true rfl) (spC_p 14 i (by decide) 8)).trans (congrArg Value.int ey6)
  have i7 : -1 ≤ y6.toInt ∧ y6.toInt ≤ 400 := by rw [← ey6]; exact hI.iv (64 * (i + 1) + 14) (mP 14 i (by decide) hh0 (kl_le hC 5 (by decide))) (shC_p 14 i (by decide)) (Nat.le_of_ble_eq_true rfl) (spC_p 14 i (by decide) 8)
  obtain ⟨y8, ey8⟩ : ∃ y, xi (E (64 * (i + 1) + 14)) 9 = y := ⟨_, rfl⟩
  have fy8 : xv (E (64 * (i + 1) + 14)) 9 = .int y8 := (hI.fi (64 * (i + 1) + 14) (mP 14 i (by decide) hh0 (kl_le hC 5 (by decide))) (shC_p 14 i (by decide)) (Nat.le_of_ble_eq_true rfl) (spC_p 14 i (by decide) 9)).trans (congrArg Value.int ey8)
  have i9 : 0 ≤ y8.toInt ∧ y8.toInt ≤ 3 := by rw [← ey8]; exact hI.iv (64 * (i + 1) + 14) (mP 14 i (by decide) hh0 (kl_le hC 5 (by decide))) (shC_p 14 i (by decide)) (Nat.le_of_ble_eq_true rfl) (spC_p 14 i (by decide) 9)
  refine lv_aload_n hx hb dX4_settle_0 rfl (lv_at hl 0 rfl) ?_
  refine th_getL (ci := 5) (C := RX4) (T := TX4) (N := 10) (v := .int (xi (E (64 * (i + 1) + 14)) 7)) hx hb hts hinX4 hown hK hP hI (64 * (i + 1) + 14) (mP 14 i (by decide) hh0 (kl_le hC 5 (by decide))) (shC_p 14 i (by decide)) rfl 7 (Nat.le_of_ble_eq_true rfl) (hts _ (vA_in _ _ (in_5 _ (zs16 (zs4 (zs0)))))) (fun _ h9 => h9) (th_v0L hKp hI0 (64 * (i + 1) + 14) (mP 14 i (by decide) hh0 (kl_le hC 5 (by decide))) (shC_p 14 i (by decide)) (Nat.le_of_ble_eq_true rfl) (spC_p 14 i (by decide) 7) (by simp [wl] <;> omega)) dX4_settle_1 ?_
  refine lv_iconst (v := -1) hx hb dX4_settle_4 (by decide) ?_
  refine lv_icmp_ne (tgt := 21) hx hb dX4_settle_5 (by decide) (fun c10 => ?_) (fun c10 => ?_)
  · --5 taken
    have t11 : ¬ (xi (E (64 * (i + 1) + 14)) 7).toInt = -1 := ti_ne c10
    have i12 : 0 ≤ (xi (E (64 * (i + 1) + 14)) 7).toInt ∧ (xi (E (64 * (i + 1) + 14)) 7).toInt ≤ 400 := iv_ne_l t11 i5 (il_ (-1))
    refine lv_aload_n hx hb dX4_settle_21 rfl (lv_at hl 0 rfl) ?_
    refine lv_iload_n hx hb dX4_settle_22 rfl (lv_at hl 2 rfl) ?_
    refine th_putL (ci := 5) (C := RX4) (T := TX4) (N := 10) (v := .int a1) (ty := .int) hx hb hts hinX4 tyX4 tyX4_ok nmX4 hown hK hP (WL_D hD) hS hI (64 * (i + 1) + 14) (mP 14 i (by decide) hh0 (kl_le hC 5 (by decide))) (shC_p 14 i (by decide)) rfl 8 (Nat.le_of_ble_eq_true rfl) (hts _ (vA_in _ _ (in_5 _ (zs16 (zs1 (zs1 (zs0))))))) (fun _ h9 => h9) rfl (by decide +kernel) rfl rfl (okI (spC_p 14 i (by decide) 8) (iv_w hh2 (by decide))) dX4_settle_23 (fun H locs E13 pw14 hI hP hS => ?_)
    have hKp := hKp.pw pw14 (by simp [wl])
    refine lv_aload_n hx hb dX4_settle_26 rfl (lv_at hl 0 rfl) ?_
    refine lv_iload_n hx hb dX4_settle_27 rfl (lv_at hl 1 rfl) ?_
    refine th_putL (ci := 5) (C := RX4) (T := TX4) (N := 10) (v := .int a0) (ty := .int) hx hb hts hinX4 tyX4 tyX4_ok nmX4 hown hK hP (WL_D hD) hS hI (64 * (i + 1) + 14) (mP 14 i (by decide) hh0 (kl_le hC 5 (by decide))) (shC_p 14 i (by decide)) rfl 9 (Nat.le_of_ble_eq_true rfl) (hts _ (vA_in _ _ (in_5 _ (zs16 (zs1 (zs1 (zs1 (zs0)))))))) (fun _ h9 => h9) rfl (by decide +kernel) rfl rfl (okI (spC_p 14 i (by decide) 9) hh1) dX4_settle_28 (fun H locs E15 pw16 hI hP hS => ?_)
    have hKp := hKp.pw pw16 (by simp [wl])
    rw [hQ]
    exact W.vret hx hb hr (fun t ht hW => ⟨⟨E15, rfl, ⟨hI, hKp, (by (try rw [(show xi (E15 (64 * (i + 1) + 14)) 5 = y1 from vi_e ((pw16.2 (64 * (i + 1) + 14) 5 (fun q9 => absurd q9.2 (Nat.ne_of_beq_eq_false rfl))).trans ((pw14.2 (64 * (i + 1) + 14) 5 (fun q9 => absurd q9.2 (Nat.ne_of_beq_eq_false rfl))).trans fy1)))]); (try rw [(show xi (E15 (64 * (i + 1) + 14)) 6 = y3 from vi_e ((pw16.2 (64 * (i + 1) + 14) 6 (fun q9 => absurd q9.2 (Nat.ne_of_beq_eq_false rfl))).trans ((pw14.2 (64 * (i + 1) + 14) 6 (fun q9 => absurd q9.2 (Nat.ne_of_beq_eq_false rfl))).trans fy3)))]); (try rw [(show xi (E15 (64 * (i + 1) + 14)) 8 = a1 from vi_e ((pw16.2 (64 * (i + 1) + 14) 8 (fun q9 => absurd q9.2 (Nat.ne_of_beq_eq_false rfl))).trans pw14.1))]); (try rw [(show xi (E15 (64 * (i + 1) + 14)) 9 = a0 from vi_e pw16.1)]); (try rw [ey1]); (try rw [ey3]); (try rw [ey6]); (try rw [ey8]); all_goals omega)⟩, by show va_P (dC, dI) vwCl (WL (LC cf) ad E15) t.heap; rw [ht]; exact hP⟩, hS.F ht⟩) hS.2.2 dX4_settle_31
  · --5 not
    have t17 : (xi (E (64 * (i + 1) + 14)) 7).toInt = -1 := ti_eq c10
    have i18 : -1 ≤ (xi (E (64 * (i + 1) + 14)) 7).toInt ∧ (xi (E (64 * (i + 1) + 14)) 7).toInt ≤ -1 := iv_eqi t17 i5 (il_ (-1)) (by decide)
    refine lv_aload_n hx hb dX4_settle_8 rfl (lv_at hl 0 rfl) ?_
    refine lv_iload_n hx hb dX4_settle_9 rfl (lv_at hl 2 rfl) ?_
    refine th_putL (ci := 5) (C := RX4) (T := TX4) (N := 10) (v := .int a1) (ty := .int) hx hb hts hinX4 tyX4 tyX4_ok nmX4 hown hK hP (WL_D hD) hS hI (64 * (i + 1) + 14) (mP 14 i (by decide) hh0 (kl_le hC 5 (by decide))) (shC_p 14 i (by decide)) rfl 5 (Nat.le_of_ble_eq_true rfl) (hts _ (vA_in _ _ (in_5 _ (zs16 (zs4 (zs1 (zs0))))))) (fun _ h9 => h9) rfl (by decide +kernel) rfl rfl (okI (spC_p 14 i (by decide) 5) (iv_w hh2 (by decide))) dX4_settle_10 (fun H locs E19 pw20 hI hP hS => ?_)
    have hKp := hKp.pw pw20 (by simp [wl])
    refine lv_aload_n hx hb dX4_settle_13 rfl (lv_at hl 0 rfl) ?_
    refine lv_iload_n hx hb dX4_settle_14 rfl (lv_at hl 1 rfl) ?_
    refine th_putL (ci := 5) (C := RX4) (T := TX4) (N := 10) (v := .int a0) (ty := .int) hx hb hts hinX4 tyX4 tyX4_ok nmX4 hown hK hP (WL_D hD) hS hI (64 * (i + 1) + 14) (mP 14 i (by decide) hh0 (kl_le hC 5 (by decide))) (shC_p 14 i (by decide)) rfl 6 (Nat.le_of_ble_eq_true rfl) (hts _ (vA_in _ _ (in_5 _ (zs16 (zs4 (zs1 (zs1 (zs0)))))))) (fun _ h9 => h9) rfl (by decide +kernel) rfl rfl (okI (spC_p 14 i (by decide) 6) hh1) dX4_settle_15 (fun H locs E21 pw22 hI hP hS => ?_)
    have hKp := hKp.pw pw22 (by simp [wl])
    refine lv_goto (tgt := 31) hx hb dX4_settle_18 (by decide) ?_
    rw [hQ]
    exact W.vret hx hb hr (fun t ht hW => ⟨⟨E21, rfl, ⟨hI, hKp, (by (try rw [(show xi (E21 (64 * (i + 1) + 14)) 5 = a1 from vi_e ((pw22.2 (64 * (i + 1) + 14) 5 (fun q9 => absurd q9.2 (Nat.ne_of_beq_eq_false rfl))).trans pw20.1))]); (try rw [(show xi (E21 (64 * (i + 1) + 14)) 6 = a0 from vi_e pw22.1)]); (try rw [(show xi (E21 (64 * (i + 1) + 14)) 8 = y6 from vi_e ((pw22.2 (64 * (i + 1) + 14) 8 (fun q9 => absurd q9.2 (Nat.ne_of_beq_eq_false rfl))).trans ((pw20.2 (64 * (i + 1) + 14) 8 (fun q9 => absurd q9.2 (Nat.ne_of_beq_eq_false rfl))).trans fy6)))]); (try rw [(show xi (E21 (64 * (i + 1) + 14)) 9 = y8 from vi_e ((pw22.2 (64 * (i + 1) + 14) 9 (fun q9 => absurd q9.2 (Nat.ne_of_beq_eq_false rfl))).trans ((pw20.2 (64 * (i + 1) + 14) 9 (fun q9 => absurd q9.2 (Nat.ne_of_beq_eq_false rfl))).trans fy8)))]); (try rw [ey1]); (try rw [ey3]); (try rw [ey6]); (try rw [ey8]); all_goals omega)⟩, by show va_P (dC, dI) vwCl (WL (LC cf) ad E21) t.heap; rw [ht]; exact hP⟩, hS.F ht⟩) hS.2.2 dX4_settle_31
def v_u_reopenX : List Cond := .code yX12_reopen cX12_reopen 3 (some .boolean) :: vA
abbrev rm_u_reopenX : Room := { frames := 4, cells := 0, slots := 0, locals := 160 }
set_option maxHeartbeats 4000000 in
set_option maxRecDepth 100000 in
theorem q_u_reopenX (l : Launch) (dC : Nat → ClassId) (dI : Nat → Nat → Nat) (cT : Nat → ClassId) (cf : Nat → Nat) (hC : CF cf) (ad : Nat → Nat) (E : Nat → va_E) (sz : Nat) (a0 : Int32) (hI0 : IXL cT (shC cf) (spC cf) (LC cf) ad E)  : Met l yX12_reopen v_u_reopenX rm_u_reopenX (va_Pc [.ref (ad 0), .int a0] (HWL dC dI (TYC cT) cf ad E sz)) (va_Qi (S := Nat → va_E) (fun r u => IXL cT (shC cf) (spC cf) (LC cf) ad u ∧ Kp (wl [] [(64 * (a0.toNatClampNeg + 1) + 14, 7)]) E u ∧ ((r = 1 ∧ ((0 ≤ a0.toInt ∧ a0.toInt < ((cf 5 : Nat) : Int)) ∧ (xi (E (64 * (a0.toNatClampNeg + 1) + 14)) 4).toInt ≤ (xi (E 1) 0).toInt ∧ (((xi (E (64 * (a0.toNatClampNeg + 1) + 14)) 7).toInt = -1 ∧ ¬ (xi (E (64 * (a0.toNatClampNeg + 1) + 14)) 5).toInt = -1) ∨ (¬ (xi (E (64 * (a0.toNatClampNeg + 1) + 14)) 7).toInt = -1 ∧ ¬ (xi (E (64 * (a0.toNatClampNeg + 1) + 14)) 8).toInt = -1)) ∧ (xi (E (64 * (a0.toNatClampNeg + 1) + 14)) 7).toInt = -1) ∧ ((xi (u (64 * (a0.toNatClampNeg + 1) + 14)) 7).toInt = (xi (E 1) 0).toInt ∧ (xi (u (64 * (a0.toNatClampNeg + 1) + 14)) 5).toInt = (xi (E (64 * (a0.toNatClampNeg + 1) + 14)) 5).toInt ∧ (xi (u (64 * (a0.toNatClampNeg + 1) + 14)) 6).toInt = (xi (E (64 * (a0.toNatClampNeg + 1) + 14)) 6).toInt ∧ (xi (u (64 * (a0.toNatClampNeg + 1) + 14)) 8).toInt = (xi (E (64 * (a0.toNatClampNeg + 1) + 14)) 8).toInt ∧ (xi (u (64 * (a0.toNatClampNeg + 1) + 14)) 9).toInt = (xi (E (64 * (a0.toNatClampNeg + 1) + 14)) 9).toInt)) ∨ (r = 0 ∧ (¬ (((0 ≤ a0.toInt ∧ a0.toInt < ((cf 5 : Nat) : Int)) ∧ (xi (E (64 * (a0.toNatClampNeg + 1) + 14)) 4).toInt ≤ (xi (E 1) 0).toInt) ∧ (((xi (E (64 * (a0.toNatClampNeg + 1) + 14)) 7).toInt = -1 ∧ ¬ (xi (E (64 * (a0.toNatClampNeg + 1) + 14)) 5).toInt = -1) ∨ (¬ (xi (E (64 * (a0.toNatClampNeg + 1) + 14)) 7).toInt = -1 ∧ ¬ (xi (E (64 * (a0.toNatClampNeg + 1) + 14)) 8).toInt = -1)) ∧ (xi (E (64 * (a0.toNatClampNeg + 1) + 14)) 7).toInt = -1)) ∧ ((xi (u (64 * (a0.toNatClampNeg + 1) + 14)) 5).toInt = (xi (E (64 * (a0.toNatClampNeg + 1) + 14)) 5).toInt ∧ (xi (u (64 * (a0.toNatClampNeg + 1) + 14)) 6).toInt = (xi (E (64 * (a0.toNatClampNeg + 1) + 14)) 6).toInt ∧ (xi (u (64 * (a0.toNatClampNeg + 1) + 14)) 7).toInt = (xi (E (64 * (a0.toNatClampNeg + 1) + 14)) 7).toInt ∧ (xi (u (64 * (a0.toNatClampNeg + 1) + 14)) 8).toInt = (xi (E (64 * (a0.toNatClampNeg + 1) + 14)) 8).toInt ∧ (xi (u (64 * (a0.toNatClampNeg + 1) + 14)) 9).toInt = (xi (E (64 * (a0.toNatClampNeg + 1) + 14)) 9).toInt)))) (HBL dC dI (LC cf) ad) (va_A (WL (LC cf) ad E) sz)) 0 0 (va_A (WL (LC cf) ad E) sz) := by
  obtain ⟨⟨hc0, hc1, hc2, hc3, hc4, hc5⟩, hcr⟩ := id hC
  refine Met.ofW (cc := cX12_reopen) (maxL := 3) (ret := (some .boolean)) (by decide) rfl ?_
  intro p e s m args below meth c s₁ B hml hv
  obtain ⟨hargs, hsz, hP, hK, hD0, hEV⟩ := hv
  subst hsz
  have hx := B.exec
  have hb := B.bytes
  have hr := B.returns
  have hts := atoms_spec (ws := v_u_reopenX) B.pre
  have hown : s.vm.findClass RX12 = some m.cls := findClass_of_methodNamed B.named
  have hlocks := B.notSynchronized
  have hinX0 : ∀ w ∈ u_ws RX0 TX0 11, w ∈ v_u_reopenX := fun w h => vA_in _ w (in_X0 w h)
  have hinX12 : ∀ w ∈ u_ws RX12 TX12 6, w ∈ v_u_reopenX := fun w h => vA_in _ w (in_X12 w h)
  have hinX4 : ∀ w ∈ u_ws RX4 TX4 10, w ∈ v_u_reopenX := fun w h => vA_in _ w (in_X4 w h)
  generalize hAe : va_A (WL (LC cf) ad E) s.heap.size = A at hEV ⊢
  have hA : ∀ q : Nat, s.heap.size ≤ q → A q := fun q h => by rw [← hAe]; exact Or.inr h
  have hD : va_D A (WL (LC cf) ad E) := by rw [← hAe]; exact hD0.self
  have hS : va_S A s.heap s.heap [] := va_S.rf
  have hI := hI0
  have hKp : Kp (wl [] [(64 * (a0.toNatClampNeg + 1) + 14, 7)]) E E := Kp.rf
  have hl := lv_entry ([.ref (ad 0), .int a0]) (n := 3) (Nat.le_of_ble_eq_true rfl)
  obtain ⟨Q, hQ⟩ : ∃ Q, Q = MQ below (va_Qi (S := Nat → va_E) (fun r u => IXL cT (shC cf) (spC cf) (LC cf) ad u ∧ Kp (wl [] [(64 * (a0.toNatClampNeg + 1) + 14, 7)]) E u ∧ ((r = 1 ∧ ((0 ≤ a0.toInt ∧ a0.toInt < ((cf 5 : Nat) : Int)) ∧ (xi (E (64 * (a0.toNatClampNeg + 1) + 14)) 4).toInt ≤ (xi (E 1) 0).toInt ∧ (((xi (E (64 * (a0.toNatClampNeg + 1) + 14)) 7).toInt = -1 ∧ ¬ (xi (E (64 * (a0.toNatClampNeg + 1) + 14)) 5).toInt = -1) ∨ (¬ (xi (E (64 * (a0.toNatClampNeg + 1) + 14)) 7).toInt = -1 ∧ ¬ (xi (E (64 * (a0.toNatClampNeg + 1) + 14)) 8).toInt = -1)) ∧ (xi (E (64 * (a0.toNatClampNeg + 1) + 14)) 7).toInt = -1) ∧ ((xi (u (64 * (a0.toNatClampNeg + 1) + 14)) 7).toInt = (xi (E 1) 0).toInt ∧ (xi (u (64 * (a0.toNatClampNeg + 1) + 14)) 5).toInt = (xi (E (64 * (a0.toNatClampNeg + 1) + 14)) 5).toInt ∧ (xi (u (64 * (a0.toNatClampNeg + 1) + 14)) 6).toInt = (xi (E (64 * (a0.toNatClampNeg + 1) + 14)) 6).toInt ∧ (xi (u (64 * (a0.toNatClampNeg + 1) + 14)) 8).toInt = (xi (E (64 * (a0.toNatClampNeg + 1) + 14)) 8).toInt ∧ (xi (u (64 * (a0.toNatClampNeg + 1) + 14)) 9).toInt = (xi (E (64 * (a0.toNatClampNeg + 1) + 14)) 9).toInt)) ∨ (r = 0 ∧ (¬ (((0 ≤ a0.toInt ∧ a0.toInt < ((cf 5 : Nat) : Int)) ∧ (xi (E (64 * (a0.toNatClampNeg + 1) + 14)) 4).toInt ≤ (xi (E 1) 0).toInt) ∧ (((xi (E (64 * (a0.toNatClampNeg + 1) + 14)) 7).toInt = -1 ∧ ¬ (xi (E (64 * (a0.toNatClampNeg + 1) + 14)) 5).toInt = -1) ∨ (¬ (xi (E (64 * (a0.toNatClampNeg + 1) + 14)) 7).toInt = -1 ∧ ¬ (xi (E (64 * (a0.toNatClampNeg + 1) + 14)) 8).toInt = -1)) ∧ (xi (E (64 * (a0.toNatClampNeg + 1) + 14)) 7).toInt = -1)) ∧ ((xi (u (64 * (a0.toNatClampNeg + 1) + 14)) 5).toInt = (xi (E (64 * (a0.toNatClampNeg + 1) + 14)) 5).toInt ∧ (xi (u (64 * (a0.toNatClampNeg + 1) + 14)) 6).toInt = (xi (E (64 * (a0.toNatClampNeg + 1) + 14)) 6).toInt ∧ (xi (u (64 * (a0.toNatClampNeg + 1) + 14)) 7).toInt = (xi (E (64 * (a0.toNatClampNeg + 1) + 14)) 7).toInt ∧ (xi (u (64 * (a0.toNatClampNeg + 1) + 14)) 8).toInt = (xi (E (64 * (a0.toNatClampNeg + 1) + 14)) 8).toInt ∧ (xi (u (64 * (a0.toNatClampNeg + 1) + 14)) 9).toInt = (xi (E (64 * (a0.toNatClampNeg + 1) + 14)) 9).toInt)))) (HBL dC dI (LC cf) ad) (A)) args s 0 0 (A) := ⟨_, rfl⟩
  rw [← hQ, show entryFrame m args 3 = _ from (congrArg (fun z => entryFrame m z 3) hargs).trans (lg_entry_eq _ _ _)]
  generalize (lg_sl ([.ref (ad 0), .int a0]) ++ List.replicate (3 - (lg_sl ([.ref (ad 0), .int a0])).length) Slot.unset).toArray = ls at hl ⊢
  have hl : lv_has ls 3 [(0, .ref (ad 0)), (1, .int a0)] := hl
  refine lv_aload_n hx hb dX12_reopen_0 rfl (lv_at hl 0 rfl) ?_
  refine th_getL (ci := 13) (C := RX12) (T := TX12) (N := 6) (v := .ref (ad 1)) hx hb hts hinX12 hown hK hP hI 0 (mF 0 rfl) rfl rfl 0 (Nat.le_of_ble_eq_true rfl) (hts _ (vA_in _ _ (in_10 _ (zs16 (zs1 (zs0)))))) (fun _ h9 => h9) (hI.fr 0 (mF 0 rfl) rfl (Nat.le_of_ble_eq_true rfl) 1 rfl) dX12_reopen_1 ?_
  refine lv_iload_n hx hb dX12_reopen_4 rfl (lv_at hl 1 rfl) ?_
  refine lv_aload_n hx hb dX12_reopen_5 rfl (lv_at hl 0 rfl) ?_
  refine th_getL (ci := 13) (C := RX12) (T := TX12) (N := 6) (v := .ref (ad 1)) hx hb hts hinX12 hown hK hP hI 0 (mF 0 rfl) rfl rfl 0 (Nat.le_of_ble_eq_true rfl) (hts _ (vA_in _ _ (in_10 _ (zs16 (zs1 (zs0)))))) (fun _ h9 => h9) (hI.fr 0 (mF 0 rfl) rfl (Nat.le_of_ble_eq_true rfl) 1 rfl) dX12_reopen_6 ?_
  have i1 : 0 ≤ (xi (E 1) 0).toInt ∧ (xi (E 1) 0).toInt ≤ 400 := hI0.iv 1 (mF 1 rfl) rfl (Nat.le_of_ble_eq_true rfl) rfl
  refine th_getL (ci := 1) (C := RX0) (T := TX0) (N := 11) (v := .int (xi (E 1) 0)) hx hb hts hinX0 hown hK hP hI 1 (mF 1 rfl) rfl rfl 0 (Nat.le_of_ble_eq_true rfl) (hts _ (vA_in _ _ (in_10 _ (zs16 (zs4 (zs4 (zs1 (zs1 (zs0))))))))) (fun _ h9 => h9) (th_v0L hKp hI0 1 (mF 1 rfl) rfl (Nat.le_of_ble_eq_true rfl) rfl rfl) dX12_reopen_9 ?_
  refine th_riL (va_runV (As := [.int a0, .int (xi (E 1) 0)]) (rest := []) ⟨hx, hb, hml, hown, hts⟩ (q_isProtestedC l dC dI cT cf hC ad E s.heap.size a0 (xi (E 1) 0) hI) (cwV 2 hts (gi_V (in_14 _ (zs16 (zs4 (zs1 (zs0))))) (in_14 _ (zs16 (zs4 (zs1 (zs1 (zs0)))))) (in_14 _ (zs16 (zs4 (zs1 (zs1 (zs1 (zs0))))))) (in_5 _ (zs4 (zs1 (zs1 (zs0))))) (in_6 _ (zs16 (zs4 (zs0))))) rfl rfl rfl ⟨rfl, hz_yX0_isProtested_2⟩ ⟨Nat.le_of_ble_eq_true rfl, Nat.le_of_ble_eq_true rfl⟩) ⟨HWL_bl, va_recv hK hP (ci := 1) (q0 := posL 1 (LC cf)) rfl (hI.ob 1 (mF 1 rfl) rfl), (HWL_wi hP hK (WL_D hD) hS hA hEV)⟩ rfl rfl hl.1 rfl (lv_room (Nat.le_of_ble_eq_true rfl)) dX12_reopen_12 ⟨Nat.le_of_ble_eq_true rfl, Nat.le_of_ble_eq_true rfl⟩) hS hP (fun r2 H locs hw hP hS => ?_)
  rcases hw with hw | hw
  · -- isProtestedC, case 0
    obtain ⟨rfl, f3, f4, f5⟩ := hw
    refine lv_if_ne (tgt := 20) hx hb dX12_reopen_15 (by decide) (fun c6 => ?_) (fun c6 => ?_)
    · --15 taken
      refine lv_aload_n hx hb dX12_reopen_20 rfl (lv_at hl 0 rfl) ?_
      refine th_getL (ci := 13) (C := RX12) (T := TX12) (N := 6) (v := .ref (ad 1)) hx hb hts hinX12 hown hK hP hI 0 (mF 0 rfl) rfl rfl 0 (Nat.le_of_ble_eq_true rfl) (hts _ (vA_in _ _ (in_10 _ (zs16 (zs1 (zs0)))))) (fun _ h9 => h9) (hI.fr 0 (mF 0 rfl) rfl (Nat.le_of_ble_eq_true rfl) 1 rfl) dX12_reopen_21 ?_
      refine th_getL (ci := 1) (C := RX0) (T := TX0) (N := 11) (v := .ref (ad 12)) hx hb hts hinX0 hown hK hP hI 1 (mF 1 rfl) rfl rfl 8 (Nat.le_of_ble_eq_true rfl) (hts _ (vA_in _ _ (in_14 _ (zs4 (zs4 (zs1 (zs1 (zs0)))))))) (fun _ h9 => h9) (hI.fr 1 (mF 1 rfl) rfl (Nat.le_of_ble_eq_true rfl) 12 rfl) dX12_reopen_24 ?_
      refine lv_iload_n hx hb dX12_reopen_27 rfl (lv_at hl 1 rfl) ?_
      refine th_rrL (va_runV (As := [.int a0]) (rest := []) ⟨hx, hb, hml, hown, hts⟩ (q_get5 l dC dI cT cf hC ad E H.size a0 hI (by omega)) (cwV 1 hts (gi_V (in_14 _ (zs16 (zs4 (zs4 (zs0))))) (in_4 _ (zs16 (zs16 (zs4 (zs1 (zs1 (zs0))))))) (in_4 _ (zs16 (zs16 (zs4 (zs1 (zs1 (zs1 (zs0)))))))) (in_3 _ (zs16 (zs1 (zs1 (zs0))))) (in_3 _ (zs16 (zs16 (zs4 (zs1 (zs1 (zs1 (zs0))))))))) rfl rfl rfl ⟨rfl, hz_yJx4a65c_get_915e3_1⟩ ⟨Nat.le_of_ble_eq_true rfl, Nat.le_of_ble_eq_true rfl⟩) ⟨HWL_bl, va_recv hK hP (ci := 0) (q0 := posL 12 (LC cf)) rfl (hI.ob 12 (mF 12 rfl) rfl), (HWL_wi hP hK (WL_D hD) hS hA hEV)⟩ rfl rfl hl.1 rfl (lv_room (Nat.le_of_ble_eq_true rfl)) dX12_reopen_28 ⟨Nat.le_of_ble_eq_true rfl, Nat.le_of_ble_eq_true rfl⟩) hS hP (fun r7 H locs hw hP hS => ?_)
      obtain rfl := hw
      have lv8 : a0.toNatClampNeg < cf 5 := by rw [tn_]; omega
      refine va_castS (cC := dC 5) hx hb hown (hts _ (vA_in _ _ (in_14 _ (zs16 (zs1 (zs1 (zs1 (zs0)))))))) (hK.1 5 _ rfl).2 (va_recv hK hP (ci := 5) (q0 := posL (64 * (a0.toNatClampNeg + 1) + 14) (LC cf)) rfl (hI.ob (64 * (a0.toNatClampNeg + 1) + 14) (mP 14 a0.toNatClampNeg (by decide) lv8 (kl_le hC 5 (by decide))) (shC_p 14 a0.toNatClampNeg (by decide)))) dX12_reopen_31 ?_
      refine lv_astore_n (lv' := [(2, .ref (ad (64 * (a0.toNatClampNeg + 1) + 14))), (0, .ref (ad 0)), (1, .int a0)]) hx hb dX12_reopen_34 rfl hl (by decide) rfl (fun ls hl => ?_)
      have i9 : -1 ≤ (xi (E (64 * (a0.toNatClampNeg + 1) + 14)) 5).toInt ∧ (xi (E (64 * (a0.toNatClampNeg + 1) + 14)) 5).toInt ≤ 400 := hI0.iv (64 * (a0.toNatClampNeg + 1) + 14) (mP 14 a0.toNatClampNeg (by decide) lv8 (kl_le hC 5 (by decide))) (shC_p 14 a0.toNatClampNeg (by decide)) (Nat.le_of_ble_eq_true rfl) (spC_p 14 a0.toNatClampNeg (by decide) 5)
      have i10 : 0 ≤ (xi (E (64 * (a0.toNatClampNeg + 1) + 14)) 6).toInt ∧ (xi (E (64 * (a0.toNatClampNeg + 1) + 14)) 6).toInt ≤ 3 := hI0.iv (64 * (a0.toNatClampNeg + 1) + 14) (mP 14 a0.toNatClampNeg (by decide) lv8 (kl_le hC 5 (by decide))) (shC_p 14 a0.toNatClampNeg (by decide)) (Nat.le_of_ble_eq_true rfl) (spC_p 14 a0.toNatClampNeg (by decide) 6)
      obtain ⟨y11, ey11⟩ : ∃ y, xi (E (64 * (a0.toNatClampNeg + 1) + 14)) 7 = y := ⟨_, rfl⟩
      have fy11 : xv (E (64 * (a0.toNatClampNeg + 1) + 14)) 7 = .int y11 := (hI.fi (64 * (a0.toNatClampNeg + 1) + 14) (mP 14 a0.toNatClampNeg (by decide) lv8 (kl_le hC 5 (by decide))) (shC_p 14 a0.toNatClampNeg (by decide)) (Nat.le_of_ble_eq_true rfl) (spC_p 14 a0.toNatClampNeg (by decide) 7)).trans (congrArg Value.int ey11)
      have i12 : -1 ≤ y11.toInt ∧ y11.toInt ≤ 400 := by rw [← ey11]; exact hI.iv (64 * (a0.toNatClampNeg + 1) + 14) (mP 14 a0.toNatClampNeg (by decide) lv8 (kl_le hC 5 (by decide))) (shC_p 14 a0.toNatClampNeg (by decide)) (Nat.le_of_ble_eq_true rfl) (spC_p 14 a0.toNatClampNeg (by decide) 7)
      have i13 : -1 ≤ (xi (E (64 * (a0.toNatClampNeg + 1) + 14)) 8).toInt ∧ (xi (E (64 * (a0.toNatClampNeg + 1) + 14)) 8).toInt ≤ 400 := hI0.iv (64 * (a0.toNatClampNeg + 1) + 14) (mP 14 a0.toNatClampNeg (by decide) lv8 (kl_le hC 5 (by decide))) (shC_p 14 a0.toNatClampNeg (by decide)) (Nat.le_of_ble_eq_true rfl) (spC_p 14 a0.toNatClampNeg (by decide) 8)
      have i14 : 0 ≤ (xi (E (64 * (a0.toNatClampNeg + 1) + 14)) 9).toInt ∧ (xi (E (64 * (a0.toNatClampNeg + 1) + 14)) 9).toInt ≤ 3 := hI0.iv (64 * (a0.toNatClampNeg + 1) + 14) (mP 14 a0.toNatClampNeg (by decide) lv8 (kl_le hC 5 (by decide))) (shC_p 14 a0.toNatClampNeg (by decide)) (Nat.le_of_ble_eq_true rfl) (spC_p 14 a0.toNatClampNeg (by decide) 9)
      refine lv_aload_n hx hb dX12_reopen_35 rfl (lv_at hl 0 rfl) ?_
      refine th_riL (va_runV (As := []) (rest := []) ⟨hx, hb, hml, hown, hts⟩ (q_pisDecidedX l dC dI cT cf hC ad E H.size a0.toNatClampNeg hI (by omega)) (cwV 0 hts (gi_V (in_14 _ (zs16 (zs4 (zs4 (zs1 (zs0)))))) (in_14 _ (zs16 (zs4 (zs4 (zs1 (zs1 (zs0))))))) (in_14 _ (zs16 (zs4 (zs4 (zs1 (zs1 (zs1 (zs0)))))))) (in_5 _ (zs16 (zs0))) (in_14 _ (zs16 (zs4 (zs4 (zs4 (zs0))))))) rfl rfl rfl ⟨rfl, hz_yX4_isDecided_0⟩ ⟨Nat.le_of_ble_eq_true rfl, Nat.le_of_ble_eq_true rfl⟩) ⟨HWL_bl, va_recv hK hP (ci := 5) (q0 := posL (64 * (a0.toNatClampNeg + 1) + 14) (LC cf)) rfl (hI.ob (64 * (a0.toNatClampNeg + 1) + 14) (mP 14 a0.toNatClampNeg (by decide) lv8 (kl_le hC 5 (by decide))) (shC_p 14 a0.toNatClampNeg (by decide))), (HWL_wi hP hK (WL_D hD) hS hA hEV)⟩ rfl rfl hl.1 rfl (lv_room (Nat.le_of_ble_eq_true rfl)) dX12_reopen_36 ⟨Nat.le_of_ble_eq_true rfl, Nat.le_of_ble_eq_true rfl⟩) hS hP (fun r15 H locs hw hP hS => ?_)
      rcases hw with hw | hw
      · -- pisDecidedX, case 0
        obtain ⟨rfl, f16⟩ := hw
        try rw [(show xi (E (64 * (a0.toNatClampNeg + 1) + 14)) 5 = (xi (E (64 * (a0.toNatClampNeg + 1) + 14)) 5) from vi_e (th_v0L hKp hI0 (64 * (a0.toNatClampNeg + 1) + 14) (mP 14 a0.toNatClampNeg (by decide) lv8 (kl_le hC 5 (by decide))) (shC_p 14 a0.toNatClampNeg (by decide)) (Nat.le_of_ble_eq_true rfl) (spC_p 14 a0.toNatClampNeg (by decide) 5) (by simp [wl] <;> omega)))] at f16
        try rw [(show xi (E (64 * (a0.toNatClampNeg + 1) + 14)) 7 = y11 from vi_e fy11)] at f16
        try rw [(show xi (E (64 * (a0.toNatClampNeg + 1) + 14)) 8 = (xi (E (64 * (a0.toNatClampNeg + 1) + 14)) 8) from vi_e (th_v0L hKp hI0 (64 * (a0.toNatClampNeg + 1) + 14) (mP 14 a0.toNatClampNeg (by decide) lv8 (kl_le hC 5 (by decide))) (shC_p 14 a0.toNatClampNeg (by decide)) (Nat.le_of_ble_eq_true rfl) (spC_p 14 a0.toNatClampNeg (by decide) 8) (by simp [wl] <;> omega)))] at f16
        refine lv_if_eq (tgt := 50) hx hb dX12_reopen_39 (by decide) (fun c17 => ?_) (fun c17 => ?_)
        · --39 taken
          exact absurd c17 (by decide)
        · --39 not
          refine lv_aload_n hx hb dX12_reopen_42 rfl (lv_at hl 0 rfl) ?_
          refine th_getL (ci := 5) (C := RX4) (T := TX4) (N := 10) (v := .int y11) hx hb hts hinX4 hown hK hP hI (64 * (a0.toNatClampNeg + 1) + 14) (mP 14 a0.toNatClampNeg (by decide) lv8 (kl_le hC 5 (by decide))) (shC_p 14 a0.toNatClampNeg (by decide)) rfl 7 (Nat.le_of_ble_eq_true rfl) (hts _ (vA_in _ _ (in_22 _ (zs16 (zs4 (zs0)))))) (fun _ h9 => h9) fy11 dX12_reopen_43 ?_
          refine lv_iconst (v := -1) hx hb dX12_reopen_46 (by decide) ?_
          refine lv_icmp_eq (tgt := 52) hx hb dX12_reopen_47 (by decide) (fun c18 => ?_) (fun c18 => ?_)
          · --47 taken
            have t19 : y11.toInt = -1 := ti_eq c18
            have i20 : -1 ≤ y11.toInt ∧ y11.toInt ≤ -1 := iv_eqi t19 i12 (il_ (-1)) (by decide)
            refine lv_aload_n hx hb dX12_reopen_52 rfl (lv_at hl 0 rfl) ?_
            refine lv_aload_n hx hb dX12_reopen_53 rfl (lv_at hl 1 rfl) ?_
            refine th_getL (ci := 13) (C := RX12) (T := TX12) (N := 6) (v := .ref (ad 1)) hx hb hts hinX12 hown hK hP hI 0 (mF 0 rfl) rfl rfl 0 (Nat.le_of_ble_eq_true rfl) (hts _ (vA_in _ _ (in_10 _ (zs16 (zs1 (zs0)))))) (fun _ h9 => h9) (hI.fr 0 (mF 0 rfl) rfl (Nat.le_of_ble_eq_true rfl) 1 rfl) dX12_reopen_54 ?_
            refine th_getL (ci := 1) (C := RX0) (T := TX0) (N := 11) (v := .int (xi (E 1) 0)) hx hb hts hinX0 hown hK hP hI 1 (mF 1 rfl) rfl rfl 0 (Nat.le_of_ble_eq_true rfl) (hts _ (vA_in _ _ (in_10 _ (zs16 (zs4 (zs4 (zs1 (zs1 (zs0))))))))) (fun _ h9 => h9) (th_v0L hKp hI0 1 (mF 1 rfl) rfl (Nat.le_of_ble_eq_true rfl) rfl rfl) dX12_reopen_57 ?_
            refine th_putL (ci := 5) (C := RX4) (T := TX4) (N := 10) (v := .int (xi (E 1) 0)) (ty := .int) hx hb hts hinX4 tyX4 tyX4_ok nmX4 hown hK hP (WL_D hD) hS hI (64 * (a0.toNatClampNeg + 1) + 14) (mP 14 a0.toNatClampNeg (by decide) lv8 (kl_le hC 5 (by decide))) (shC_p 14 a0.toNatClampNeg (by decide)) rfl 7 (Nat.le_of_ble_eq_true rfl) (hts _ (vA_in _ _ (in_22 _ (zs16 (zs4 (zs0)))))) (fun _ h9 => h9) rfl (by decide +kernel) rfl rfl (okI (spC_p 14 a0.toNatClampNeg (by decide) 7) (iv_w i1 (by decide))) dX12_reopen_60 (fun H locs E21 pw22 hI hP hS => ?_)
            have hKp := hKp.pw pw22 (by simp [wl])
            refine lv_iconst (v := 1) hx hb dX12_reopen_63 (by decide) ?_
            rw [hQ]
            exact W.zret (v := 1) hx hb hr rfl (fun t ht hW => ⟨⟨1, E21, rfl, ⟨hI, hKp, Or.inl ⟨rfl, by (try rw [ey11]); all_goals omega, by (try rw [(show xi (E21 (64 * (a0.toNatClampNeg + 1) + 14)) 5 = (xi (E (64 * (a0.toNatClampNeg + 1) + 14)) 5) from vi_e (th_v0L hKp hI0 (64 * (a0.toNatClampNeg + 1) + 14) (mP 14 a0.toNatClampNeg (by decide) lv8 (kl_le hC 5 (by decide))) (shC_p 14 a0.toNatClampNeg (by decide)) (Nat.le_of_ble_eq_true rfl) (spC_p 14 a0.toNatClampNeg (by decide) 5) (by simp [wl] <;> omega)))]); (try rw [(show xi (E21 (64 * (a0.toNatClampNeg + 1) + 14)) 6 = (xi (E (64 * (a0.toNatClampNeg + 1) + 14)) 6) from vi_e (th_v0L hKp hI0 (64 * (a0.toNatClampNeg + 1) + 14) (mP 14 a0.toNatClampNeg (by decide) lv8 (kl_le hC 5 (by decide))) (shC_p 14 a0.toNatClampNeg (by decide)) (Nat.le_of_ble_eq_true rfl) (spC_p 14 a0.toNatClampNeg (by decide) 6) (by simp [wl] <;> omega)))]); (try rw [(show xi (E21 (64 * (a0.toNatClampNeg + 1) + 14)) 7 = (xi (E 1) 0) from vi_e pw22.1)]); (try rw [(show xi (E21 (64 * (a0.toNatClampNeg + 1) + 14)) 8 = (xi (E (64 * (a0.toNatClampNeg + 1) + 14)) 8) from vi_e (th_v0L hKp hI0 (64 * (a0.toNatClampNeg + 1) + 14) (mP 14 a0.toNatClampNeg (by decide) lv8 (kl_le hC 5 (by decide))) (shC_p 14 a0.toNatClampNeg (by decide)) (Nat.le_of_ble_eq_true rfl) (spC_p 14 a0.toNatClampNeg (by decide) 8) (by simp [wl] <;> omega)))]); (try rw [(show xi (E21 (64 * (a0.toNatClampNeg + 1) + 14)) 9 = (xi (E (64 * (a0.toNatClampNeg + 1) + 14)) 9) from vi_e (th_v0L hKp hI0 (64 * (a0.toNatClampNeg + 1) + 14) (mP 14 a0.toNatClampNeg (by decide) lv8 (kl_le hC 5 (by decide))) (shC_p 14 a0.toNatClampNeg (by decide)) (Nat.le_of_ble_eq_true rfl) (spC_p 14 a0.toNatClampNeg (by decide) 9) (by simp [wl] <;> omega)))]); (try rw [ey11]); all_goals omega⟩⟩, by show va_P (dC, dI) vwCl (WL (LC cf) ad E21) t.heap; rw [ht]; exact hP⟩, hS.F ht⟩) hS.2.2 dX12_reopen_64
          · --47 not
            have t23 : ¬ y11.toInt = -1 := ti_ne c18
            have i24 : 0 ≤ y11.toInt ∧ y11.toInt ≤ 400 := iv_ne_l t23 i12 (il_ (-1))
            refine lv_iconst (v := 0) hx hb dX12_reopen_50 (by decide) ?_
            rw [hQ]
            exact W.zret (v := 0) hx hb hr rfl (fun t ht hW => ⟨⟨0, E, rfl, ⟨hI, hKp, Or.inr (⟨rfl, by (try rw [ey11]); all_goals omega, by omega⟩)⟩, by show va_P (dC, dI) vwCl (WL (LC cf) ad E) t.heap; rw [ht]; exact hP⟩, hS.F ht⟩) hS.2.2 dX12_reopen_51
      · -- pisDecidedX, case 1
        obtain ⟨rfl, f25⟩ := hw
        try rw [(show xi (E (64 * (a0.toNatClampNeg + 1) + 14)) 5 = (xi (E (64 * (a0.toNatClampNeg + 1) + 14)) 5) from vi_e (th_v0L hKp hI0 (64 * (a0.toNatClampNeg + 1) + 14) (mP 14 a0.toNatClampNeg (by decide) lv8 (kl_le hC 5 (by decide))) (shC_p 14 a0.toNatClampNeg (by decide)) (Nat.le_of_ble_eq_true rfl) (spC_p 14 a0.toNatClampNeg (by decide) 5) (by simp [wl] <;> omega)))] at f25
        try rw [(show xi (E (64 * (a0.toNatClampNeg + 1) + 14)) 7 = y11 from vi_e fy11)] at f25
        try rw [(show xi (E (64 * (a0.toNatClampNeg + 1) + 14)) 8 = (xi (E (64 * (a0.toNatClampNeg + 1) + 14)) 8) from vi_e (th_v0L hKp hI0 (64 * (a0.toNatClampNeg + 1) + 14) (mP 14 a0.toNatClampNeg (by decide) lv8 (kl_le hC 5 (by decide))) (shC_p 14 a0.toNatClampNeg (by decide)) (Nat.le_of_ble_eq_true rfl) (spC_p 14 a0.toNatClampNeg (by decide) 8) (by simp [wl] <;> omega)))] at f25
        refine lv_if_eq (tgt := 50) hx hb dX12_reopen_39 (by decide) (fun c26 => ?_) (fun c26 => ?_)
        · --39 taken
          refine lv_iconst (v := 0) hx hb dX12_reopen_50 (by decide) ?_
          rw [hQ]
          exact W.zret (v := 0) hx hb hr rfl (fun t ht hW => ⟨⟨0, E, rfl, ⟨hI, hKp, Or.inr (⟨rfl, by (try rw [ey11]); all_goals omega, by omega⟩)⟩, by show va_P (dC, dI) vwCl (WL (LC cf) ad E) t.heap; rw [ht]; exact hP⟩, hS.F ht⟩) hS.2.2 dX12_reopen_51
        · --39 not
          exact absurd c26 (by decide)
    · --15 not
      exact absurd c6 (by decide)
  · -- isProtestedC, case 1
    obtain ⟨rfl, f27⟩ := hw
    refine lv_if_ne (tgt := 20) hx hb dX12_reopen_15 (by decide) (fun c28 => ?_) (fun c28 => ?_)
    · --15 taken
      exact absurd c28 (by decide)
    · --15 not
      refine lv_iconst (v := 0) hx hb dX12_reopen_18 (by decide) ?_
      rw [hQ]
      exact W.zret (v := 0) hx hb hr rfl (fun t ht hW => ⟨⟨0, E, rfl, ⟨hI, hKp, Or.inr (⟨rfl, by all_goals omega, by omega⟩)⟩, by show va_P (dC, dI) vwCl (WL (LC cf) ad E) t.heap; rw [ht]; exact hP⟩, hS.F ht⟩) hS.2.2 dX12_reopen_19
def v_reopenX : List Cond := .code yX13_reopen cX13_reopen 2 (some .boolean) :: vA
abbrev rm_reopenX : Room := { frames := 1, cells := 0, slots := 0, locals := 40 }
def w_reopenX : Nat → Nat → Bool := wl [53, 55] [(0, 0)]
set_option maxHeartbeats 4000000 in
set_option maxRecDepth 100000 in
theorem q_reopenX (l : Launch) (dC : Nat → ClassId) (dI : Nat → Nat → Nat) (cT : Nat → ClassId) (ad : Nat → Nat) (E : Nat → va_E) (sz : Nat) (a0 : Int32) (hI0 : IX cT shM spM 72 ad E) (hh0 : DIr (xi (E 55)) (xi (E 54))) : Met l yX13_reopen v_reopenX rm_reopenX (va_Pc [.ref (ad 0), .int a0] (HW dC dI (TYM cT) 72 ad E sz)) (va_Qi (S := Nat → va_E) (fun r u => IX cT shM spM 72 ad u ∧ Kp w_reopenX E u ∧ ((r = 1 ∧ ((0 ≤ a0.toInt ∧ a0.toInt < (xi (E 0) 75).toInt) ∧ ¬ (xi (E 55) a0.toNatClampNeg).toInt = 0 ∧ ¬ (xi (E 54) a0.toNatClampNeg).toInt = 2) ∧ (xi (u 55) = upd (xi (E 55)) a0.toNatClampNeg 0 ∧ xi (u 54) = xi (E 54) ∧ xi (u 51) = xi (E 51) ∧ xi (u 52) = xi (E 52) ∧ xi (u 53) = upd (xi (E 53)) (2 * a0.toInt).toNat (xi (E 0) 1)) ∧ (DIr (xi (u 55)) (xi (u 54)))) ∨ (r = 0 ∧ (¬ ((0 ≤ a0.toInt ∧ a0.toInt < (xi (E 0) 75).toInt) ∧ ¬ (xi (E 55) a0.toNatClampNeg).toInt = 0 ∧ ¬ (xi (E 54) a0.toNatClampNeg).toInt = 2)) ∧ (xi (u 55) = xi (E 55) ∧ xi (u 54) = xi (E 54) ∧ xi (u 51) = xi (E 51) ∧ xi (u 52) = xi (E 52) ∧ xi (u 53) = xi (E 53)) ∧ (DIr (xi (u 55)) (xi (u 54)))))) (HB dC dI 72 ad) (va_A (WX 72 ad E) sz)) 0 0 (va_A (WX 72 ad E) sz) := by
  refine Met.ofW (cc := cX13_reopen) (maxL := 2) (ret := (some .boolean)) (by decide) rfl ?_
  intro p e s m args below meth c s₁ B hml hv
  obtain ⟨hargs, hsz, hP, hK, hD0, hEV⟩ := hv
  subst hsz
  have hx := B.exec
  have hb := B.bytes
  have hr := B.returns
  have hts := atoms_spec (ws := v_reopenX) B.pre
  have hown : s.vm.findClass RX13 = some m.cls := findClass_of_methodNamed B.named
  have hlocks := B.notSynchronized
  have hinX13 : ∀ w ∈ u_ws RX13 TX13 97, w ∈ v_reopenX := fun w h => vA_in _ w (in_X13 w h)
  generalize hAe : va_A (WX 72 ad E) s.heap.size = A at hEV ⊢
  have hA : ∀ q : Nat, s.heap.size ≤ q → A q := fun q h => by rw [← hAe]; exact Or.inr h
  have hD : va_D A (WX 72 ad E) := by rw [← hAe]; exact hD0.self
  have hS : va_S A s.heap s.heap [] := va_S.rf
  have hI := hI0
  have hKp : Kp w_reopenX E E := Kp.rf
  have hl := lv_entry ([.ref (ad 0), .int a0]) (n := 2) (Nat.le_of_ble_eq_true rfl)
  obtain ⟨Q, hQ⟩ : ∃ Q, Q = MQ below (va_Qi (S := Nat → va_E) (fun r u => IX cT shM spM 72 ad u ∧ Kp w_reopenX E u ∧ ((r = 1 ∧ ((0 ≤ a0.toInt ∧ a0.toInt < (xi (E 0) 75).toInt) ∧ ¬ (xi (E 55) a0.toNatClampNeg).toInt = 0 ∧ ¬ (xi (E 54) a0.toNatClampNeg).toInt = 2) ∧ (xi (u 55) = upd (xi (E 55)) a0.toNatClampNeg 0 ∧ xi (u 54) = xi (E 54) ∧ xi (u 51) = xi (E 51) ∧ xi (u 52) = xi (E 52) ∧ xi (u 53) = upd (xi (E 53)) (2 * a0.toInt).toNat (xi (E 0) 1)) ∧ (DIr (xi (u 55)) (xi (u 54)))) ∨ (r = 0 ∧ (¬ ((0 ≤ a0.toInt ∧ a0.toInt < (xi (E 0) 75).toInt) ∧ ¬ (xi (E 55) a0.toNatClampNeg).toInt = 0 ∧ ¬ (xi (E 54) a0.toNatClampNeg).toInt = 2)) ∧ (xi (u 55) = xi (E 55) ∧ xi (u 54) = xi (E 54) ∧ xi (u 51) = xi (E 51) ∧ xi (u 52) = xi (E 52) ∧ xi (u 53) = xi (E 53)) ∧ (DIr (xi (u 55)) (xi (u 54)))))) (HB dC dI 72 ad) (A)) args s 0 0 (A) := ⟨_, rfl⟩
  rw [← hQ, show entryFrame m args 2 = _ from (congrArg (fun z => entryFrame m z 2) hargs).trans (lg_entry_eq _ _ _)]
  generalize (lg_sl ([.ref (ad 0), .int a0]) ++ List.replicate (2 - (lg_sl ([.ref (ad 0), .int a0])).length) Slot.unset).toArray = ls at hl ⊢
  have hl : lv_has ls 2 [(0, .ref (ad 0)), (1, .int a0)] := hl
  obtain ⟨g1, hg1⟩ : ∃ g, xi (E 55) = g := ⟨_, rfl⟩
  obtain ⟨g2, hg2⟩ : ∃ g, xi (E 53) = g := ⟨_, rfl⟩
  have hDI : DIr g1 (xi (E 54)) := by rw [← hg1, ← (hKp.ef 54 (fun _ => rfl))]; exact hh0
  refine lv_aload_n hx hb dX13_reopen_0 rfl (lv_at hl 0 rfl) ?_
  refine lv_iconst (v := 0) hx hb dX13_reopen_1 (by decide) ?_
  refine th_put (ci := 14) (C := RX13) (T := TX13) (N := 97) (v := .int 0) (ty := .int) hx hb hts hinX13 tyX13 tyX13_ok nmX13 hown hK hP (WX_D hD) hS hI 0 (Nat.le_of_ble_eq_true rfl) rfl rfl 0 (Nat.le_of_ble_eq_true rfl) (hts _ (vA_in _ _ (in_24 _ (zs4 (zs4 (zs1 (zs1 (zs0)))))))) (fun _ h9 => h9) rfl (by decide +kernel) rfl rfl (okI rfl (iv_w ln_0 (by decide))) dX13_reopen_2 (fun H locs E3 pw4 hI hP hS => ?_)
  have hKp := hKp.pw pw4 rfl
  refine lv_iload_n hx hb dX13_reopen_5 rfl (lv_at hl 1 rfl) ?_
  refine lv_iconst (v := 0) hx hb dX13_reopen_6 (by decide) ?_
  refine lv_aload_n hx hb dX13_reopen_7 rfl (lv_at hl 0 rfl) ?_
  have i5 : 0 ≤ (xi (E 0) 75).toInt ∧ (xi (E 0) 75).toInt ≤ 30 := hI0.iv 0 (Nat.le_of_ble_eq_true rfl) rfl (Nat.le_of_ble_eq_true rfl) rfl
  refine th_get (ci := 14) (C := RX13) (T := TX13) (N := 97) (v := .int (xi (E 0) 75)) hx hb hts hinX13 hown hK hP hI 0 (Nat.le_of_ble_eq_true rfl) rfl rfl 75 (Nat.le_of_ble_eq_true rfl) (hts _ (vA_in _ _ (in_25 _ (zs1 (zs0))))) (fun _ h9 => h9) (th_v0 hKp hI0 0 (Nat.le_of_ble_eq_true rfl) rfl (Nat.le_of_ble_eq_true rfl) rfl rfl) dX13_reopen_8 ?_
  refine lv_iconst (v := 1) hx hb dX13_reopen_11 (by decide) ?_
  refine lv_isub hx hb dX13_reopen_12 ?_
  refine lv_topi (fun y6 ey6 => ?_)
  obtain ⟨ty6, iy6⟩ := ti_sub (e := (-1)) (f := 29) i5 ln_1 ey6 (by decide)
  have ty6 : y6.toInt = (xi (E 0) 75).toInt - 1 := ty6
  have iy6 : -1 ≤ y6.toInt ∧ y6.toInt ≤ 29 := iy6
  refine th_pi (va_runS (As := [.int a0, .int 0, .int y6]) (rest := []) ⟨hx, hb, hml, hown, hts⟩ (q_isIn l a0 (0 : Int32) y6) (va_cwS 3 hts (gi_S (in_24 _ (zs16 (zs4 (zs4 (zs4 (zs0)))))) (in_24 _ (zs16 (zs4 (zs4 (zs4 (zs1 (zs0))))))) (in_24 _ (zs4 (zs4 (zs4 (zs1 (zs1 (zs1 (zs0)))))))) (in_24 _ (zs16 (zs4 (zs4 (zs4 (zs1 (zs1 (zs0))))))))) rfl rfl rfl hz_yX13_isIn_3 ⟨Nat.le_of_ble_eq_true rfl, Nat.le_of_ble_eq_true rfl⟩) ⟨fun _ _ _ _ q => q, fun _ _ _ => ⟨rfl, trivial⟩⟩ rfl rfl hl.1 rfl (lv_room (Nat.le_of_ble_eq_true rfl)) dX13_reopen_13 ⟨Nat.le_of_ble_eq_true rfl, Nat.le_of_ble_eq_true rfl⟩) hS (fun r7 H1 locs1 hw hk1 hS => ?_)
  have hP := ub_keep hP hk1
  generalize H1 = H at hP hS ⊢
  generalize locs1 = locs at hS ⊢
  rcases hw with hw | hw
  · -- isIn, case 0
    obtain ⟨rfl, f8⟩ := hw
    have t9 : (0 : Int) ≤ a0.toInt := f8.1
    have t10 : a0.toInt ≤ y6.toInt := f8.2
    have i11 : 0 ≤ a0.toInt ∧ a0.toInt ≤ 2147483647 := iv_le_r t9 (il_ 0) (iv_all _) (by decide)
    have i12 : 0 ≤ a0.toInt ∧ a0.toInt ≤ 29 := iv_le_l t10 i11 iy6 (by decide)
    have i13 : 0 ≤ y6.toInt ∧ y6.toInt ≤ 29 := iv_le_r t10 i11 iy6 (by decide)
    refine lv_if_eq (tgt := 38) hx hb dX13_reopen_16 (by decide) (fun c14 => ?_) (fun c14 => ?_)
    · --16 taken
      exact absurd c14 (by decide)
    · --16 not
      refine lv_aload_n hx hb dX13_reopen_19 rfl (lv_at hl 0 rfl) ?_
      refine th_get (ci := 14) (C := RX13) (T := TX13) (N := 97) (v := .ref (ad 55)) hx hb hts hinX13 hown hK hP hI 0 (Nat.le_of_ble_eq_true rfl) rfl rfl 73 (Nat.le_of_ble_eq_true rfl) (hts _ (vA_in _ _ (in_30 _ (zs16 (zs4 (zs4 (zs0))))))) (fun _ h9 => h9) (hI.fr 0 (Nat.le_of_ble_eq_true rfl) rfl (Nat.le_of_ble_eq_true rfl) 55 rfl) dX13_reopen_20 ?_
      refine lv_iload_n hx hb dX13_reopen_23 rfl (lv_at hl 1 rfl) ?_
      have n16 : vp_in a0 30 := (iv_in (n := 30) i12 (by decide))
      refine th_zald hx hb hK hP hI 55 (Nat.le_of_ble_eq_true rfl) rfl rfl n16 dX13_reopen_24 (fun y15 ey15 => ?_)
      have iy15 : 0 ≤ y15.toInt ∧ y15.toInt ≤ 1 := hI.el 55 (Nat.le_of_ble_eq_true rfl) rfl n16 (fun _ => rfl) ey15
      have ey15 := ey15.trans (congrFun ((pw4.ef 55 (Nat.ne_of_beq_eq_false rfl)).trans hg1) _)
      refine lv_if_eq (tgt := 38) hx hb dX13_reopen_25 (by decide) (fun c17 => ?_) (fun c17 => ?_)
      · --25 taken
        have t18 : y15.toInt = 0 := ti_eq c17
        have i19 : 0 ≤ y15.toInt ∧ y15.toInt ≤ 0 := iv_eqi t18 iy15 (il_ 0) (by decide)
        refine lv_iconst (v := 0) hx hb dX13_reopen_38 (by decide) ?_
        rw [hQ]
        exact W.zret (v := 0) hx hb hr rfl (fun t ht hW => ⟨⟨0, E3, rfl, ⟨hI, hKp, Or.inr (⟨rfl, by rw [(show xi (E 55) = g1 from hg1), (show xi (E 54) = xi (E 54) from rfl)]; have gy15 := congrArg Int32.toInt ey15; all_goals omega, ⟨(show xi (E3 55) = g1 from ((pw4.ef 55 (Nat.ne_of_beq_eq_false rfl)).trans hg1)).trans (show xi (E 55) = g1 from hg1).symm, (show xi (E3 54) = xi (E 54) from (hKp.ef 54 (fun _ => rfl))).trans (show xi (E 54) = xi (E 54) from rfl).symm, (show xi (E3 51) = xi (E 51) from (hKp.ef 51 (fun _ => rfl))).trans (show xi (E 51) = xi (E 51) from rfl).symm, (show xi (E3 52) = xi (E 52) from (hKp.ef 52 (fun _ => rfl))).trans (show xi (E 52) = xi (E 52) from rfl).symm, (show xi (E3 53) = g2 from ((pw4.ef 53 (Nat.ne_of_beq_eq_false rfl)).trans hg2)).trans (show xi (E 53) = g2 from hg2).symm⟩, by rw [(show xi (E3 55) = g1 from ((pw4.ef 55 (Nat.ne_of_beq_eq_false rfl)).trans hg1)), (show xi (E3 54) = xi (E 54) from (hKp.ef 54 (fun _ => rfl)))]; exact hDI⟩)⟩, by show va_P (dC, dI) vwCl (WX 72 ad E3) t.heap; rw [ht]; exact hP⟩, hS.F ht⟩) hS.2.2 dX13_reopen_39
      · --25 not
        have t20 : ¬ y15.toInt = 0 := ti_ne c17
        have i21 : 1 ≤ y15.toInt ∧ y15.toInt ≤ 1 := iv_ne_l t20 iy15 (il_ 0)
        refine lv_aload_n hx hb dX13_reopen_28 rfl (lv_at hl 0 rfl) ?_
        refine th_get (ci := 14) (C := RX13) (T := TX13) (N := 97) (v := .ref (ad 54)) hx hb hts hinX13 hown hK hP hI 0 (Nat.le_of_ble_eq_true rfl) rfl rfl 72 (Nat.le_of_ble_eq_true rfl) (hts _ (vA_in _ _ (in_28 _ (zs4 (zs1 (zs0)))))) (fun _ h9 => h9) (hI.fr 0 (Nat.le_of_ble_eq_true rfl) rfl (Nat.le_of_ble_eq_true rfl) 54 rfl) dX13_reopen_29 ?_
        refine lv_iload_n hx hb dX13_reopen_32 rfl (lv_at hl 1 rfl) ?_
        have n23 : vp_in a0 30 := (iv_in (n := 30) i12 (by decide))
        refine th_iald hx hb hK hP hI 54 (Nat.le_of_ble_eq_true rfl) rfl rfl n23 dX13_reopen_33 (fun y22 ey22 => ?_)
        have iy22 : 0 ≤ y22.toInt ∧ y22.toInt ≤ 2 := hI.el 54 (Nat.le_of_ble_eq_true rfl) rfl n23 (fun _ => rfl) ey22
        have ey22 := ey22.trans (congrFun (hKp.ef 54 (fun _ => rfl)) _)
        refine lv_iconst (v := 2) hx hb dX13_reopen_34 (by decide) ?_
        refine lv_icmp_ne (tgt := 40) hx hb dX13_reopen_35 (by decide) (fun c24 => ?_) (fun c24 => ?_)
        · --35 taken
          have t25 : ¬ y22.toInt = 2 := ti_ne c24
          have i26 : 0 ≤ y22.toInt ∧ y22.toInt ≤ 1 := iv_ne_r t25 iy22 (il_ 2)
          refine lv_aload_n hx hb dX13_reopen_40 rfl (lv_at hl 0 rfl) ?_
          refine th_get (ci := 14) (C := RX13) (T := TX13) (N := 97) (v := .ref (ad 55)) hx hb hts hinX13 hown hK hP hI 0 (Nat.le_of_ble_eq_true rfl) rfl rfl 73 (Nat.le_of_ble_eq_true rfl) (hts _ (vA_in _ _ (in_30 _ (zs16 (zs4 (zs4 (zs0))))))) (fun _ h9 => h9) (hI.fr 0 (Nat.le_of_ble_eq_true rfl) rfl (Nat.le_of_ble_eq_true rfl) 55 rfl) dX13_reopen_41 ?_
          refine lv_iload_n hx hb dX13_reopen_44 rfl (lv_at hl 1 rfl) ?_
          refine lv_iconst (v := 0) hx hb dX13_reopen_45 (by decide) ?_
          have n27 : vp_in a0 30 := (iv_in (n := 30) i12 (by decide))
          refine th_zast hx hb hK hP (WX_D hD) hS hI 55 (Nat.le_of_ble_eq_true rfl) rfl rfl n27 (iv_w ln_0 (by decide)) (okI rfl (iv_w ln_0 (by decide))) dX13_reopen_46 (fun H locs E28 pw29 hI hP hS => ?_)
          have hKp := hKp.pw pw29 rfl
          obtain ⟨g30, eg30⟩ : ∃ z : Nat → Int32, z = upd g1 a0.toNatClampNeg (0 : Int32) := ⟨_, rfl⟩
          have hg30 : xi (E28 55) = g30 := by rw [pw29.eu, ((pw4.ef 55 (Nat.ne_of_beq_eq_false rfl)).trans hg1), eg30]
          refine lv_aload_n hx hb dX13_reopen_47 rfl (lv_at hl 0 rfl) ?_
          refine th_get (ci := 14) (C := RX13) (T := TX13) (N := 97) (v := .ref (ad 53)) hx hb hts hinX13 hown hK hP hI 0 (Nat.le_of_ble_eq_true rfl) rfl rfl 71 (Nat.le_of_ble_eq_true rfl) (hts _ (vA_in _ _ (in_28 _ (zs4 (zs4 (zs0)))))) (fun _ h9 => h9) (hI.fr 0 (Nat.le_of_ble_eq_true rfl) rfl (Nat.le_of_ble_eq_true rfl) 53 rfl) dX13_reopen_48 ?_
          refine lv_iconst (v := 2) hx hb dX13_reopen_51 (by decide) ?_
          refine lv_iload_n hx hb dX13_reopen_52 rfl (lv_at hl 1 rfl) ?_
          refine lv_imul hx hb dX13_reopen_53 ?_
          refine lv_topi (fun y31 ey31 => ?_)
          obtain ⟨ty31, iy31⟩ := ti_mul (e := 0) (f := 58) ln_2 i12 ey31 (by decide)
          have ty31 : y31.toInt = 2 * a0.toInt := ty31
          have iy31 : 0 ≤ y31.toInt ∧ y31.toInt ≤ 58 := iy31
          refine lv_aload_n hx hb dX13_reopen_54 rfl (lv_at hl 0 rfl) ?_
          have i32 : 0 ≤ (xi (E 0) 1).toInt ∧ (xi (E 0) 1).toInt ≤ 400 := hI0.iv 0 (Nat.le_of_ble_eq_true rfl) rfl (Nat.le_of_ble_eq_true rfl) rfl
          refine th_get (ci := 14) (C := RX13) (T := TX13) (N := 97) (v := .int (xi (E 0) 1)) hx hb hts hinX13 hown hK hP hI 0 (Nat.le_of_ble_eq_true rfl) rfl rfl 1 (Nat.le_of_ble_eq_true rfl) (hts _ (vA_in _ _ (in_24 _ (zs16 (zs4 (zs4 (zs1 (zs1 (zs1 (zs0)))))))))) (fun _ h9 => h9) (th_v0 hKp hI0 0 (Nat.le_of_ble_eq_true rfl) rfl (Nat.le_of_ble_eq_true rfl) rfl rfl) dX13_reopen_55 ?_
          have n33 : vp_in y31 60 := (iv_in (n := 60) iy31 (by decide))
          refine th_iast hx hb hK hP (WX_D hD) hS hI 53 (Nat.le_of_ble_eq_true rfl) rfl rfl n33 (okI rfl (iv_w i32 (by decide))) dX13_reopen_58 (fun H locs E34 pw35 hI hP hS => ?_)
          have hKp := hKp.pw pw35 rfl
          obtain ⟨g36, eg36⟩ : ∃ z : Nat → Int32, z = upd g2 y31.toNatClampNeg (xi (E 0) 1) := ⟨_, rfl⟩
          have hg36 : xi (E34 53) = g36 := by rw [pw35.eu, ((pw29.ef 53 (Nat.ne_of_beq_eq_false rfl)).trans ((pw4.ef 53 (Nat.ne_of_beq_eq_false rfl)).trans hg2)), eg36]
          refine lv_iconst (v := 1) hx hb dX13_reopen_59 (by decide) ?_
          rw [hQ]
          exact W.zret (v := 1) hx hb hr rfl (fun t ht hW => ⟨⟨1, E34, rfl, ⟨hI, hKp, Or.inl ⟨rfl, by rw [(show xi (E 55) = g1 from hg1), (show xi (E 54) = xi (E 54) from rfl)]; have gy15 := congrArg Int32.toInt ey15; have gy22 := congrArg Int32.toInt ey22; all_goals omega, ⟨(show xi (E34 55) = g30 from ((pw35.ef 55 (Nat.ne_of_beq_eq_false rfl)).trans hg30)).trans (by rw [eg30, (show xi (E 55) = g1 from hg1)]), (show xi (E34 54) = xi (E 54) from (hKp.ef 54 (fun _ => rfl))).trans (show xi (E 54) = xi (E 54) from rfl).symm, (show xi (E34 51) = xi (E 51) from (hKp.ef 51 (fun _ => rfl))).trans (show xi (E 51) = xi (E 51) from rfl).symm, (show xi (E34 52) = xi (E 52) from (hKp.ef 52 (fun _ => rfl))).trans (show xi (E 52) = xi (E 52) from rfl).symm, (show xi (E34 53) = g36 from hg36).trans (by rw [eg36, (show xi (E 53) = g2 from hg2)]; congr 1; rw [tn_]; omega)⟩, by rw [(show xi (E34 55) = g30 from ((pw35.ef 55 (Nat.ne_of_beq_eq_false rfl)).trans hg30)), (show xi (E34 54) = xi (E 54) from (hKp.ef 54 (fun _ => rfl)))]; rw [eg30]; exact DIr_re hDI (by rw [← ey22]; omega)⟩⟩, by show va_P (dC, dI) vwCl (WX 72 ad E34) t.heap; rw [ht]; exact hP⟩, hS.F ht⟩) hS.2.2 dX13_reopen_60
        · --35 not
          have t37 : y22.toInt = 2 := ti_eq c24
          have i38 : 2 ≤ y22.toInt ∧ y22.toInt ≤ 2 := iv_eqi t37 iy22 (il_ 2) (by decide)
          refine lv_iconst (v := 0) hx hb dX13_reopen_38 (by decide) ?_
          rw [hQ]
          exact W.zret (v := 0) hx hb hr rfl (fun t ht hW => ⟨⟨0, E3, rfl, ⟨hI, hKp, Or.inr (⟨rfl, by rw [(show xi (E 55) = g1 from hg1), (show xi (E 54) = xi (E 54) from rfl)]; have gy15 := congrArg Int32.toInt ey15; have gy22 := congrArg Int32.toInt ey22; all_goals omega, ⟨(show xi (E3 55) = g1 from ((pw4.ef 55 (Nat.ne_of_beq_eq_false rfl)).trans hg1)).trans (show xi (E 55) = g1 from hg1).symm, (show xi (E3 54) = xi (E 54) from (hKp.ef 54 (fun _ => rfl))).trans (show xi (E 54) = xi (E 54) from rfl).symm, (show xi (E3 51) = xi (E 51) from (hKp.ef 51 (fun _ => rfl))).trans (show xi (E 51) = xi (E 51) from rfl).symm, (show xi (E3 52) = xi (E 52) from (hKp.ef 52 (fun _ => rfl))).trans (show xi (E 52) = xi (E 52) from rfl).symm, (show xi (E3 53) = g2 from ((pw4.ef 53 (Nat.ne_of_beq_eq_false rfl)).trans hg2)).trans (show xi (E 53) = g2 from hg2).symm⟩, by rw [(show xi (E3 55) = g1 from ((pw4.ef 55 (Nat.ne_of_beq_eq_false rfl)).trans hg1)), (show xi (E3 54) = xi (E 54) from (hKp.ef 54 (fun _ => rfl)))]; exact hDI⟩)⟩, by show va_P (dC, dI) vwCl (WX 72 ad E3) t.heap; rw [ht]; exact hP⟩, hS.F ht⟩) hS.2.2 dX13_reopen_39
  · -- isIn, case 1
    obtain ⟨rfl, f39⟩ := hw
    have t40 : ¬ ((0 : Int) ≤ a0.toInt ∧ a0.toInt ≤ y6.toInt) := f39
    refine lv_if_eq (tgt := 38) hx hb dX13_reopen_16 (by decide) (fun c41 => ?_) (fun c41 => ?_)
    · --16 taken
      refine lv_iconst (v := 0) hx hb dX13_reopen_38 (by decide) ?_
      rw [hQ]
      exact W.zret (v := 0) hx hb hr rfl (fun t ht hW => ⟨⟨0, E3, rfl, ⟨hI, hKp, Or.inr (⟨rfl, by rw [(show xi (E 55) = g1 from hg1), (show xi (E 54) = xi (E 54) from rfl)]; all_goals omega, ⟨(show xi (E3 55) = g1 from ((pw4.ef 55 (Nat.ne_of_beq_eq_false rfl)).trans hg1)).trans (show xi (E 55) = g1 from hg1).symm, (show xi (E3 54) = xi (E 54) from (hKp.ef 54 (fun _ => rfl))).trans (show xi (E 54) = xi (E 54) from rfl).symm, (show xi (E3 51) = xi (E 51) from (hKp.ef 51 (fun _ => rfl))).trans (show xi (E 51) = xi (E 51) from rfl).symm, (show xi (E3 52) = xi (E 52) from (hKp.ef 52 (fun _ => rfl))).trans (show xi (E 52) = xi (E 52) from rfl).symm, (show xi (E3 53) = g2 from ((pw4.ef 53 (Nat.ne_of_beq_eq_false rfl)).trans hg2)).trans (show xi (E 53) = g2 from hg2).symm⟩, by rw [(show xi (E3 55) = g1 from ((pw4.ef 55 (Nat.ne_of_beq_eq_false rfl)).trans hg1)), (show xi (E3 54) = xi (E 54) from (hKp.ef 54 (fun _ => rfl)))]; exact hDI⟩)⟩, by show va_P (dC, dI) vwCl (WX 72 ad E3) t.heap; rw [ht]; exact hP⟩, hS.F ht⟩) hS.2.2 dX13_reopen_39
    · --16 not
      exact absurd c41 (by decide)
def v_toldX : List Cond := .code yX13_told cX13_told 5 (some .int) :: vA
abbrev rm_toldX : Room := { frames := 1, cells := 0, slots := 0, locals := 40 }
def w_toldX : Nat → Nat → Bool := wl [] [(0, 0)]
set_option maxHeartbeats 4000000 in
set_option maxRecDepth 100000 in
theorem q_toldX (l : Launch) (dC : Nat → ClassId) (dI : Nat → Nat → Nat) (cT : Nat → ClassId) (ad : Nat → Nat) (E : Nat → va_E) (sz : Nat) (a0 : Int32) (a1 : Int32) (hI0 : IX cT shM spM 72 ad E)  : Met l yX13_told v_toldX rm_toldX (va_Pc [.ref (ad 0), .int a0, .int a1] (HW dC dI (TYM cT) 72 ad E sz)) (va_Qi (S := Nat → va_E) (fun r u => IX cT shM spM 72 ad u ∧ Kp w_toldX E u ∧ ((((((0 ≤ a0.toInt ∧ a0.toInt < (xi (E 0) 46).toInt) ∧ (0 ≤ a1.toInt ∧ a1.toInt ≤ 8)) → ((xi (u 0) 0).toInt = 0 ∧ (a1.toInt = 0 → r.toInt = (xi (E 13) a0.toNatClampNeg).toInt) ∧ (a1.toInt = 1 → r.toInt = (xi (E 14) a0.toNatClampNeg).toInt) ∧ (a1.toInt = 2 → r.toInt = (xi (E 15) a0.toNatClampNeg).toInt) ∧ (a1.toInt = 3 → r.toInt = (xi (E 16) a0.toNatClampNeg).toInt) ∧ (a1.toInt = 4 → r.toInt = (xi (E 17) a0.toNatClampNeg).toInt) ∧ (a1.toInt = 5 → r.toInt = (xi (E 18) a0.toNatClampNeg).toInt) ∧ (a1.toInt = 6 → r.toInt = (entM (xi (E 21)) (xi (E 0) 1).toInt (16 * a0.toInt).toNat (xi (E 0) 8).toNatClampNeg : Int)) ∧ (a1.toInt = 7 → r.toInt = (xi (E 19) a0.toNatClampNeg).toInt) ∧ (a1.toInt = 8 → r.toInt = (xi (E 20) a0.toNatClampNeg).toInt))) ∧ (¬ ((0 ≤ a0.toInt ∧ a0.toInt < (xi (E 0) 46).toInt) ∧ (0 ≤ a1.toInt ∧ a1.toInt ≤ 8)) → ((xi (u 0) 0).toInt = 1 ∧ r.toInt = 0)))))) (HB dC dI 72 ad) (va_A (WX 72 ad E) sz)) 0 0 (va_A (WX 72 ad E) sz) := by
  refine Met.ofW (cc := cX13_told) (maxL := 5) (ret := (some .int)) (by decide) rfl ?_
  intro p e s m args below meth c s₁ B hml hv
  obtain ⟨hargs, hsz, hP, hK, hD0, hEV⟩ := hv
  subst hsz
  have hx := B.exec
  have hb := B.bytes
  have hr := B.returns
  have hts := atoms_spec (ws := v_toldX) B.pre
  have hown : s.vm.findClass RX13 = some m.cls := findClass_of_methodNamed B.named
  have hlocks := B.notSynchronized
  have hinX13 : ∀ w ∈ u_ws RX13 TX13 97, w ∈ v_toldX := fun w h => vA_in _ w (in_X13 w h)
  generalize hAe : va_A (WX 72 ad E) s.heap.size = A at hEV ⊢
  have hA : ∀ q : Nat, s.heap.size ≤ q → A q := fun q h => by rw [← hAe]; exact Or.inr h
  have hD : va_D A (WX 72 ad E) := by rw [← hAe]; exact hD0.self
  have hS : va_S A s.heap s.heap [] := va_S.rf
  have hI := hI0
  have hKp : Kp w_toldX E E := Kp.rf
  have hl := lv_entry ([.ref (ad 0), .int a0, .int a1]) (n := 5) (Nat.le_of_ble_eq_true rfl)
  obtain ⟨Q, hQ⟩ : ∃ Q, Q = MQ below (va_Qi (S := Nat → va_E) (fun r u => IX cT shM spM 72 ad u ∧ Kp w_toldX E u ∧ ((((((0 ≤ a0.toInt ∧ a0.toInt < (xi (E 0) 46).toInt) ∧ (0 ≤ a1.toInt ∧ a1.toInt ≤ 8)) → ((xi (u 0) 0).toInt = 0 ∧ (a1.toInt = 0 → r.toInt = (xi (E 13) a0.toNatClampNeg).toInt) ∧ (a1.toInt = 1 → r.toInt = (xi (E 14) a0.toNatClampNeg).toInt) ∧ (a1.toInt = 2 → r.toInt = (xi (E 15) a0.toNatClampNeg).toInt) ∧ (a1.toInt = 3 → r.toInt = (xi (E 16) a0.toNatClampNeg).toInt) ∧ (a1.toInt = 4 → r.toInt = (xi (E 17) a0.toNatClampNeg).toInt) ∧ (a1.toInt = 5 → r.toInt = (xi (E 18) a0.toNatClampNeg).toInt) ∧ (a1.toInt = 6 → r.toInt = (entM (xi (E 21)) (xi (E 0) 1).toInt (16 * a0.toInt).toNat (xi (E 0) 8).toNatClampNeg : Int)) ∧ (a1.toInt = 7 → r.toInt = (xi (E 19) a0.toNatClampNeg).toInt) ∧ (a1.toInt = 8 → r.toInt = (xi (E 20) a0.toNatClampNeg).toInt))) ∧ (¬ ((0 ≤ a0.toInt ∧ a0.toInt < (xi (E 0) 46).toInt) ∧ (0 ≤ a1.toInt ∧ a1.toInt ≤ 8)) → ((xi (u 0) 0).toInt = 1 ∧ r.toInt = 0)))))) (HB dC dI 72 ad) (A)) args s 0 0 (A) := ⟨_, rfl⟩
  rw [← hQ, show entryFrame m args 5 = _ from (congrArg (fun z => entryFrame m z 5) hargs).trans (lg_entry_eq _ _ _)]
  generalize (lg_sl ([.ref (ad 0), .int a0, .int a1]) ++ List.replicate (5 - (lg_sl ([.ref (ad 0), .int a0, .int a1])).length) Slot.unset).toArray = ls at hl ⊢
  have hl : lv_has ls 5 [(0, .ref (ad 0)), (1, .int a0), (2, .int a1)] := hl
  refine lv_aload_n hx hb dX13_told_0 rfl (lv_at hl 0 rfl) ?_
  refine lv_aload_n hx hb dX13_told_1 rfl (lv_at hl 0 rfl) ?_
  refine lv_iload_n hx hb dX13_told_2 rfl (lv_at hl 1 rfl) ?_
  refine th_ri (va_runV (As := [.int a0]) (rest := [.ref (ad 0)]) ⟨hx, hb, hml, hown, hts⟩ (q_isRace l dC dI cT ad E s.heap.size a0 hI) (cwV 1 hts (gi_V (in_24 _ (zs4 (zs4 (zs4 (zs0))))) (in_24 _ (zs4 (zs4 (zs4 (zs1 (zs0)))))) (in_24 _ (zs4 (zs4 (zs4 (zs1 (zs1 (zs0))))))) (in_24 _ (zs4 (zs4 (zs4 (zs1 (zs1 (zs1 (zs0)))))))) (in_24 _ (zs16 (zs0)))) rfl rfl rfl ⟨rfl, hz_yX13_isRace_1⟩ ⟨Nat.le_of_ble_eq_true rfl, Nat.le_of_ble_eq_true rfl⟩) ⟨HW_bl, va_recv hK hP (ci := 14) (q0 := 0) rfl (hI.ob 0 (Nat.le_of_ble_eq_true rfl) rfl), (HW_wi hP hK (WX_D hD) hS hA hEV)⟩ rfl rfl hl.1 rfl (lv_room (Nat.le_of_ble_eq_true rfl)) dX13_told_3 ⟨Nat.le_of_ble_eq_true rfl, Nat.le_of_ble_eq_true rfl⟩) hS hP (fun r1 H locs hw hP hS => ?_)
  rcases hw with hw | hw
  · -- isRace, case 0
    obtain ⟨rfl, f2, f3⟩ := hw
    have i4 : 0 ≤ (xi (E 0) 46).toInt ∧ (xi (E 0) 46).toInt ≤ 20 := (show 0 ≤ (xi (E 0) 46).toInt ∧ (xi (E 0) 46).toInt ≤ 20 from hI0.iv 0 (Nat.le_of_ble_eq_true rfl) rfl (Nat.le_of_ble_eq_true rfl) rfl)
    refine lv_if_eq (tgt := 23) hx hb dX13_told_6 (by decide) (fun c5 => ?_) (fun c5 => ?_)
    · --6 taken
      exact absurd c5 (by decide)
    · --6 not
      refine lv_iload_n hx hb dX13_told_9 rfl (lv_at hl 2 rfl) ?_
      refine lv_iconst (v := 0) hx hb dX13_told_10 (by decide) ?_
      refine lv_bipush (v := 8) hx hb dX13_told_11 (by decide) ?_
      refine th_pi (va_runS (As := [.int a1, .int 0, .int 8]) (rest := [.ref (ad 0)]) ⟨hx, hb, hml, hown, hts⟩ (q_isIn l a1 (0 : Int32) (8 : Int32)) (va_cwS 3 hts (gi_S (in_24 _ (zs16 (zs4 (zs4 (zs4 (zs0)))))) (in_24 _ (zs16 (zs4 (zs4 (zs4 (zs1 (zs0))))))) (in_24 _ (zs4 (zs4 (zs4 (zs1 (zs1 (zs1 (zs0)))))))) (in_24 _ (zs16 (zs4 (zs4 (zs4 (zs1 (zs1 (zs0))))))))) rfl rfl rfl hz_yX13_isIn_3 ⟨Nat.le_of_ble_eq_true rfl, Nat.le_of_ble_eq_true rfl⟩) ⟨fun _ _ _ _ q => q, fun _ _ _ => ⟨rfl, trivial⟩⟩ rfl rfl hl.1 rfl (lv_room (Nat.le_of_ble_eq_true rfl)) dX13_told_13 ⟨Nat.le_of_ble_eq_true rfl, Nat.le_of_ble_eq_true rfl⟩) hS (fun r6 H1 locs1 hw hk1 hS => ?_)
      have hP := ub_keep hP hk1
      generalize H1 = H at hP hS ⊢
      generalize locs1 = locs at hS ⊢
      rcases hw with hw | hw
      · -- isIn, case 0
        obtain ⟨rfl, f7⟩ := hw
        have t8 : (0 : Int) ≤ a1.toInt := f7.1
        have t9 : a1.toInt ≤ 8 := f7.2
        have i10 : 0 ≤ a1.toInt ∧ a1.toInt ≤ 2147483647 := iv_le_r t8 (il_ 0) (iv_all _) (by decide)
        have i11 : 0 ≤ a1.toInt ∧ a1.toInt ≤ 8 := iv_le_l t9 i10 (il_ 8) (by decide)
        refine lv_if_eq (tgt := 23) hx hb dX13_told_16 (by decide) (fun c12 => ?_) (fun c12 => ?_)
        · --16 taken
          exact absurd c12 (by decide)
        · --16 not
          refine lv_iconst (v := 0) hx hb dX13_told_19 (by decide) ?_
          refine lv_goto (tgt := 24) hx hb dX13_told_20 (by decide) ?_
          refine th_put (ci := 14) (C := RX13) (T := TX13) (N := 97) (v := .int 0) (ty := .int) hx hb hts hinX13 tyX13 tyX13_ok nmX13 hown hK hP (WX_D hD) hS hI 0 (Nat.le_of_ble_eq_true rfl) rfl rfl 0 (Nat.le_of_ble_eq_true rfl) (hts _ (vA_in _ _ (in_24 _ (zs4 (zs4 (zs1 (zs1 (zs0)))))))) (fun _ h9 => h9) rfl (by decide +kernel) rfl rfl (okI rfl (iv_w ln_0 (by decide))) dX13_told_24 (fun H locs E13 pw14 hI hP hS => ?_)
          have hKp := hKp.pw pw14 rfl
          refine lv_aload_n hx hb dX13_told_27 rfl (lv_at hl 0 rfl) ?_
          refine th_get (ci := 14) (C := RX13) (T := TX13) (N := 97) (v := .int 0) hx hb hts hinX13 hown hK hP hI 0 (Nat.le_of_ble_eq_true rfl) rfl rfl 0 (Nat.le_of_ble_eq_true rfl) (hts _ (vA_in _ _ (in_24 _ (zs4 (zs4 (zs1 (zs1 (zs0)))))))) (fun _ h9 => h9) pw14.1 dX13_told_28 ?_
          refine lv_if_le (tgt := 36) hx hb dX13_told_31 (by decide) (fun c15 => ?_) (fun c15 => ?_)
          · --31 taken
            refine lv_iload_n hx hb dX13_told_36 rfl (lv_at hl 2 rfl) ?_
            rcases (show (a1.toInt < 0 ∨ 7 < a1.toInt) ∨ a1.toInt = 0 ∨ a1.toInt = 1 ∨ a1.toInt = 2 ∨ a1.toInt = 3 ∨ a1.toInt = 4 ∨ a1.toInt = 5 ∨ a1.toInt = 6 ∨ a1.toInt = 7 by omega) with c16 | c16 | c16 | c16 | c16 | c16 | c16 | c16 | c16
            · --None
              refine lv_tableOut (tgt := 177) hx hb dX13_told_37 c16 (by decide) ?_
              refine lv_aload_n hx hb dX13_told_177 rfl (lv_at hl 0 rfl) ?_
              refine th_get (ci := 14) (C := RX13) (T := TX13) (N := 97) (v := .ref (ad 20)) hx hb hts hinX13 hown hK hP hI 0 (Nat.le_of_ble_eq_true rfl) rfl rfl 34 (Nat.le_of_ble_eq_true rfl) (hts _ (vA_in _ _ (in_24 _ (zs4 (zs4 (zs1 (zs1 (zs1 (zs0))))))))) (fun _ h9 => h9) (hI.fr 0 (Nat.le_of_ble_eq_true rfl) rfl (Nat.le_of_ble_eq_true rfl) 20 rfl) dX13_told_178 ?_
              refine lv_iload_n hx hb dX13_told_181 rfl (lv_at hl 1 rfl) ?_
              have n18 : vp_in a0 20 := (iv_in (n := 20) f3 (by decide))
              refine th_iald hx hb hK hP hI 20 (Nat.le_of_ble_eq_true rfl) rfl rfl n18 dX13_told_182 (fun y17 ey17 => ?_)
              have iy17 : 0 ≤ y17.toInt ∧ y17.toInt ≤ 400 := hI.el 20 (Nat.le_of_ble_eq_true rfl) rfl n18 (fun _ => rfl) ey17
              have ey17 := ey17.trans (hKp.ei 20 _ rfl)
              rw [hQ]
              exact W.iret (v := y17) hx hb hr (fun t ht hW => ⟨⟨y17, E13, rfl, ⟨hI, hKp, (by have gy17 := congrArg Int32.toInt ey17; (try rw [(show xi (E13 0) 0 = (0 : Int32) from vi_e pw14.1)]); have z90 : (0 : Int32).toInt = 0 := rfl; have z91 : (1 : Int32).toInt = 1 := rfl; have z98 : (8 : Int32).toInt = 8 := rfl; all_goals omega)⟩, by show va_P (dC, dI) vwCl (WX 72 ad E13) t.heap; rw [ht]; exact hP⟩, hS.F ht⟩) hS.2.2 dX13_told_183
            · --0
              refine lv_tableIn (off := 47) (tgt := 84) hx hb dX13_told_37 (by omega) (by omega) (by rw [c16]; rfl) (by decide) ?_
              refine lv_aload_n hx hb dX13_told_84 rfl (lv_at hl 0 rfl) ?_
              refine th_get (ci := 14) (C := RX13) (T := TX13) (N := 97) (v := .ref (ad 13)) hx hb hts hinX13 hown hK hP hI 0 (Nat.le_of_ble_eq_true rfl) rfl rfl 27 (Nat.le_of_ble_eq_true rfl) (hts _ (vA_in _ _ (in_27 _ (zs16 (zs16 (zs0)))))) (fun _ h9 => h9) (hI.fr 0 (Nat.le_of_ble_eq_true rfl) rfl (Nat.le_of_ble_eq_true rfl) 13 rfl) dX13_told_85 ?_
              refine lv_iload_n hx hb dX13_told_88 rfl (lv_at hl 1 rfl) ?_
              have n20 : vp_in a0 20 := (iv_in (n := 20) f3 (by decide))
              refine th_iald hx hb hK hP hI 13 (Nat.le_of_ble_eq_true rfl) rfl rfl n20 dX13_told_89 (fun y19 ey19 => ?_)
              have iy19 : 0 ≤ y19.toInt ∧ y19.toInt ≤ 400 := hI.el 13 (Nat.le_of_ble_eq_true rfl) rfl n20 (fun _ => rfl) ey19
              have ey19 := ey19.trans (hKp.ei 13 _ rfl)
              rw [hQ]
              exact W.iret (v := y19) hx hb hr (fun t ht hW => ⟨⟨y19, E13, rfl, ⟨hI, hKp, (by have gy19 := congrArg Int32.toInt ey19; (try rw [(show xi (E13 0) 0 = (0 : Int32) from vi_e pw14.1)]); have z90 : (0 : Int32).toInt = 0 := rfl; have z91 : (1 : Int32).toInt = 1 := rfl; have z98 : (8 : Int32).toInt = 8 := rfl; all_goals omega)⟩, by show va_P (dC, dI) vwCl (WX 72 ad E13) t.heap; rw [ht]; exact hP⟩, hS.F ht⟩) hS.2.2 dX13_told_90
            · --1
              refine lv_tableIn (off := 54) (tgt := 91) hx hb dX13_told_37 (by omega) (by omega) (by rw [c16]; rfl) (by decide) ?_
              refine lv_aload_n hx hb dX13_told_91 rfl (lv_at hl 0 rfl) ?_
              refine th_get (ci := 14) (C := RX13) (T := TX13) (N := 97) (v := .ref (ad 14)) hx hb hts hinX13 hown hK hP hI 0 (Nat.le_of_ble_eq_true rfl) rfl rfl 28 (Nat.le_of_ble_eq_true rfl) (hts _ (vA_in _ _ (in_30 _ (zs4 (zs4 (zs1 (zs1 (zs0)))))))) (fun _ h9 => h9) (hI.fr 0 (Nat.le_of_ble_eq_true rfl) rfl (Nat.le_of_ble_eq_true rfl) 14 rfl) dX13_told_92 ?_
              refine lv_iload_n hx hb dX13_told_95 rfl (lv_at hl 1 rfl) ?_
              have n22 : vp_in a0 20 := (iv_in (n := 20) f3 (by decide))
              refine th_iald hx hb hK hP hI 14 (Nat.le_of_ble_eq_true rfl) rfl rfl n22 dX13_told_96 (fun y21 ey21 => ?_)
              have iy21 : 0 ≤ y21.toInt ∧ y21.toInt ≤ 1000 := hI.el 14 (Nat.le_of_ble_eq_true rfl) rfl n22 (fun _ => rfl) ey21
              have ey21 := ey21.trans (hKp.ei 14 _ rfl)
              rw [hQ]
              exact W.iret (v := y21) hx hb hr (fun t ht hW => ⟨⟨y21, E13, rfl, ⟨hI, hKp, (by have gy21 := congrArg Int32.toInt ey21; (try rw [(show xi (E13 0) 0 = (0 : Int32) from vi_e pw14.1)]); have z90 : (0 : Int32).toInt = 0 := rfl; have z91 : (1 : Int32).toInt = 1 := rfl; have z98 : (8 : Int32).toInt = 8 := rfl; all_goals omega)⟩, by show va_P (dC, dI) vwCl (WX 72 ad E13) t.heap; rw [ht]; exact hP⟩, hS.F ht⟩) hS.2.2 dX13_told_97
            · --2
              refine lv_tableIn (off := 61) (tgt := 98) hx hb dX13_told_37 (by omega) (by omega) (by rw [c16]; rfl) (by decide) ?_
              refine lv_aload_n hx hb dX13_told_98 rfl (lv_at hl 0 rfl) ?_
              refine th_get (ci := 14) (C := RX13) (T := TX13) (N := 97) (v := .ref (ad 15)) hx hb hts hinX13 hown hK hP hI 0 (Nat.le_of_ble_eq_true rfl) rfl rfl 29 (Nat.le_of_ble_eq_true rfl) (hts _ (vA_in _ _ (in_27 _ (zs16 (zs16 (zs1 (zs0))))))) (fun _ h9 => h9) (hI.fr 0 (Nat.le_of_ble_eq_true rfl) rfl (Nat.le_of_ble_eq_true rfl) 15 rfl) dX13_told_99 ?_
              refine lv_iload_n hx hb dX13_told_102 rfl (lv_at hl 1 rfl) ?_
              have n24 : vp_in a0 20 := (iv_in (n := 20) f3 (by decide))
              refine th_iald hx hb hK hP hI 15 (Nat.le_of_ble_eq_true rfl) rfl rfl n24 dX13_told_103 (fun y23 ey23 => ?_)
              have iy23 : 0 ≤ y23.toInt ∧ y23.toInt ≤ 1 := hI.el 15 (Nat.le_of_ble_eq_true rfl) rfl n24 (fun _ => rfl) ey23
              have ey23 := ey23.trans (hKp.ei 15 _ rfl)
              rw [hQ]
              exact W.iret (v := y23) hx hb hr (fun t ht hW => ⟨⟨y23, E13, rfl, ⟨hI, hKp, (by have gy23 := congrArg Int32.toInt ey23; (try rw [(show xi (E13 0) 0 = (0 : Int32) from vi_e pw14.1)]); have z90 : (0 : Int32).toInt = 0 := rfl; have z91 : (1 : Int32).toInt = 1 := rfl; have z98 : (8 : Int32).toInt = 8 := rfl; all_goals omega)⟩, by show va_P (dC, dI) vwCl (WX 72 ad E13) t.heap; rw [ht]; exact hP⟩, hS.F ht⟩) hS.2.2 dX13_told_104
            · --3
              refine lv_tableIn (off := 68) (tgt := 105) hx hb dX13_told_37 (by omega) (by omega) (by rw [c16]; rfl) (by decide) ?_
              refine lv_aload_n hx hb dX13_told_105 rfl (lv_at hl 0 rfl) ?_
              refine th_get (ci := 14) (C := RX13) (T := TX13) (N := 97) (v := .ref (ad 16)) hx hb hts hinX13 hown hK hP hI 0 (Nat.le_of_ble_eq_true rfl) rfl rfl 30 (Nat.le_of_ble_eq_true rfl) (hts _ (vA_in _ _ (in_30 _ (zs16 (zs16 (zs0)))))) (fun _ h9 => h9) (hI.fr 0 (Nat.le_of_ble_eq_true rfl) rfl (Nat.le_of_ble_eq_true rfl) 16 rfl) dX13_told_106 ?_
              refine lv_iload_n hx hb dX13_told_109 rfl (lv_at hl 1 rfl) ?_
              have n26 : vp_in a0 20 := (iv_in (n := 20) f3 (by decide))
              refine th_iald hx hb hK hP hI 16 (Nat.le_of_ble_eq_true rfl) rfl rfl n26 dX13_told_110 (fun y25 ey25 => ?_)
              have iy25 : 0 ≤ y25.toInt ∧ y25.toInt ≤ 7 := hI.el 16 (Nat.le_of_ble_eq_true rfl) rfl n26 (fun _ => rfl) ey25
              have ey25 := ey25.trans (hKp.ei 16 _ rfl)
              rw [hQ]
              exact W.iret (v := y25) hx hb hr (fun t ht hW => ⟨⟨y25, E13, rfl, ⟨hI, hKp, (by have gy25 := congrArg Int32.toInt ey25; (try rw [(show xi (E13 0) 0 = (0 : Int32) from vi_e pw14.1)]); have z90 : (0 : Int32).toInt = 0 := rfl; have z91 : (1 : Int32).toInt = 1 := rfl; have z98 : (8 : Int32).toInt = 8 := rfl; all_goals omega)⟩, by show va_P (dC, dI) vwCl (WX 72 ad E13) t.heap; rw [ht]; exact hP⟩, hS.F ht⟩) hS.2.2 dX13_told_111
            · --4
              refine lv_tableIn (off := 75) (tgt := 112) hx hb dX13_told_37 (by omega) (by omega) (by rw [c16]; rfl) (by decide) ?_
              refine lv_aload_n hx hb dX13_told_112 rfl (lv_at hl 0 rfl) ?_
              refine th_get (ci := 14) (C := RX13) (T := TX13) (N := 97) (v := .ref (ad 17)) hx hb hts hinX13 hown hK hP hI 0 (Nat.le_of_ble_eq_true rfl) rfl rfl 31 (Nat.le_of_ble_eq_true rfl) (hts _ (vA_in _ _ (in_30 _ (zs16 (zs16 (zs1 (zs0))))))) (fun _ h9 => h9) (hI.fr 0 (Nat.le_of_ble_eq_true rfl) rfl (Nat.le_of_ble_eq_true rfl) 17 rfl) dX13_told_113 ?_
              refine lv_iload_n hx hb dX13_told_116 rfl (lv_at hl 1 rfl) ?_
              have n28 : vp_in a0 20 := (iv_in (n := 20) f3 (by decide))
              refine th_iald hx hb hK hP hI 17 (Nat.le_of_ble_eq_true rfl) rfl rfl n28 dX13_told_117 (fun y27 ey27 => ?_)
              have iy27 : 0 ≤ y27.toInt ∧ y27.toInt ≤ 99 := hI.el 17 (Nat.le_of_ble_eq_true rfl) rfl n28 (fun _ => rfl) ey27
              have ey27 := ey27.trans (hKp.ei 17 _ rfl)
              rw [hQ]
              exact W.iret (v := y27) hx hb hr (fun t ht hW => ⟨⟨y27, E13, rfl, ⟨hI, hKp, (by have gy27 := congrArg Int32.toInt ey27; (try rw [(show xi (E13 0) 0 = (0 : Int32) from vi_e pw14.1)]); have z90 : (0 : Int32).toInt = 0 := rfl; have z91 : (1 : Int32).toInt = 1 := rfl; have z98 : (8 : Int32).toInt = 8 := rfl; all_goals omega)⟩, by show va_P (dC, dI) vwCl (WX 72 ad E13) t.heap; rw [ht]; exact hP⟩, hS.F ht⟩) hS.2.2 dX13_told_118
            · --5
              refine lv_tableIn (off := 82) (tgt := 119) hx hb dX13_told_37 (by omega) (by omega) (by rw [c16]; rfl) (by decide) ?_
              refine lv_aload_n hx hb dX13_told_119 rfl (lv_at hl 0 rfl) ?_
              refine th_get (ci := 14) (C := RX13) (T := TX13) (N := 97) (v := .ref (ad 18)) hx hb hts hinX13 hown hK hP hI 0 (Nat.le_of_ble_eq_true rfl) rfl rfl 32 (Nat.le_of_ble_eq_true rfl) (hts _ (vA_in _ _ (in_30 _ (zs16 (zs16 (zs1 (zs1 (zs0)))))))) (fun _ h9 => h9) (hI.fr 0 (Nat.le_of_ble_eq_true rfl) rfl (Nat.le_of_ble_eq_true rfl) 18 rfl) dX13_told_120 ?_
              refine lv_iload_n hx hb dX13_told_123 rfl (lv_at hl 1 rfl) ?_
              have n30 : vp_in a0 20 := (iv_in (n := 20) f3 (by decide))
              refine th_iald hx hb hK hP hI 18 (Nat.le_of_ble_eq_true rfl) rfl rfl n30 dX13_told_124 (fun y29 ey29 => ?_)
              have iy29 : 0 ≤ y29.toInt ∧ y29.toInt ≤ 99 := hI.el 18 (Nat.le_of_ble_eq_true rfl) rfl n30 (fun _ => rfl) ey29
              have ey29 := ey29.trans (hKp.ei 18 _ rfl)
              rw [hQ]
              exact W.iret (v := y29) hx hb hr (fun t ht hW => ⟨⟨y29, E13, rfl, ⟨hI, hKp, (by have gy29 := congrArg Int32.toInt ey29; (try rw [(show xi (E13 0) 0 = (0 : Int32) from vi_e pw14.1)]); have z90 : (0 : Int32).toInt = 0 := rfl; have z91 : (1 : Int32).toInt = 1 := rfl; have z98 : (8 : Int32).toInt = 8 := rfl; all_goals omega)⟩, by show va_P (dC, dI) vwCl (WX 72 ad E13) t.heap; rw [ht]; exact hP⟩, hS.F ht⟩) hS.2.2 dX13_told_125
            · --6
              refine lv_tableIn (off := 89) (tgt := 126) hx hb dX13_told_37 (by omega) (by omega) (by rw [c16]; rfl) (by decide) ?_
              refine lv_iconst (v := 0) hx hb dX13_told_126 (by decide) ?_
              refine lv_istore_n (lv' := [(3, .int 0), (0, .ref (ad 0)), (1, .int a0), (2, .int a1)]) hx hb dX13_told_127 rfl hl (by decide) rfl (fun ls hl => ?_)
              refine lv_iconst (v := 0) hx hb dX13_told_128 (by decide) ?_
              refine lv_istore (lv' := [(4, .int 0), (3, .int 0), (0, .ref (ad 0)), (1, .int a0), (2, .int a1)]) hx hb dX13_told_129 hl (by decide) rfl (fun ls hl => ?_)
              have hL131 : ∀ d : Nat, ∀ (v131_4 : Int32) (v131_3 : Int32) (H : Heap) (locs : List Loc) (ls : Array Slot), 0 ≤ v131_4.toInt ∧ v131_4.toInt ≤ 16 → 0 ≤ v131_3.toInt ∧ v131_3.toInt ≤ 16 → v131_3.toInt = (entM (xi (E 21)) (xi (E 0) 1).toInt (16 * a0.toInt).toNat v131_4.toNatClampNeg : Int) → v131_3.toInt ≤ v131_4.toInt → v131_4.toInt ≤ (xi (E 0) 8).toInt → 16 - v131_4.toInt < (d : Int) → va_P (dC, dI) vwCl (WX 72 ad E13) H → va_S A s.heap H locs → lv_has ls 5 [(4, .int v131_4), (3, .int v131_3), (0, .ref (ad 0)), (1, .int a0), (2, .int a1)] → W p l e (headSpec v_toldX rm_toldX).room s m args below meth c H locs 0 0 Q (F0 m 131 ls []) := by
                intro d
                induction d with
                | zero =>
                  intro v131_4 v131_3 H locs ls hv131_4 hv131_3 hx131_0 hx131_1 hx131_2 hx131_3 hP hS hl
                  exact absurd hx131_3 (by first | exact ms_zu hv131_4.2 | omega)
                | succ d ih131 =>
                  intro v131_4 v131_3 H locs ls hv131_4 hv131_3 hx131_0 hx131_1 hx131_2 hx131_3 hP hS hl
                  refine lv_iload hx hb dX13_told_131 (lv_at hl 0 rfl) ?_
                  refine lv_aload_n hx hb dX13_told_133 rfl (lv_at hl 2 rfl) ?_
                  have i31 : 0 ≤ (xi (E 0) 8).toInt ∧ (xi (E 0) 8).toInt ≤ 16 := hI0.iv 0 (Nat.le_of_ble_eq_true rfl) rfl (Nat.le_of_ble_eq_true rfl) rfl
                  refine th_get (ci := 14) (C := RX13) (T := TX13) (N := 97) (v := .int (xi (E 0) 8)) hx hb hts hinX13 hown hK hP hI 0 (Nat.le_of_ble_eq_true rfl) rfl rfl 8 (Nat.le_of_ble_eq_true rfl) (hts _ (vA_in _ _ (in_24 _ (zs16 (zs4 (zs1 (zs1 (zs0)))))))) (fun _ h9 => h9) (th_v0 hKp hI0 0 (Nat.le_of_ble_eq_true rfl) rfl (Nat.le_of_ble_eq_true rfl) rfl rfl) dX13_told_134 ?_
                  refine lv_icmp_ge (tgt := 168) hx hb dX13_told_137 (by decide) (fun c32 => ?_) (fun c32 => ?_)
                  · --137 taken
                    have t33 : (xi (E 0) 8).toInt ≤ v131_4.toInt := ti_le c32
                    refine lv_iload_n hx hb dX13_told_168 rfl (lv_at hl 1 rfl) ?_
                    rw [hQ]
                    exact W.iret (v := v131_3) hx hb hr (fun t ht hW => ⟨⟨v131_3, E13, rfl, ⟨hI, hKp, (by have h9 := hx131_0; rw [show v131_4.toNatClampNeg = (xi (E 0) 8).toNatClampNeg by rw [tn_, tn_]; omega] at h9; (try rw [(show xi (E13 0) 0 = (0 : Int32) from vi_e pw14.1)]); have z90 : (0 : Int32).toInt = 0 := rfl; have z91 : (1 : Int32).toInt = 1 := rfl; have z98 : (8 : Int32).toInt = 8 := rfl; all_goals omega)⟩, by show va_P (dC, dI) vwCl (WX 72 ad E13) t.heap; rw [ht]; exact hP⟩, hS.F ht⟩) hS.2.2 dX13_told_169
                  · --137 not
                    have t34 : v131_4.toInt < (xi (E 0) 8).toInt := ti_nle c32
                    have i35 : 0 ≤ v131_4.toInt ∧ v131_4.toInt ≤ 15 := iv_lt_l t34 hv131_4 i31 (by decide)
                    have i36 : 1 ≤ (xi (E 0) 8).toInt ∧ (xi (E 0) 8).toInt ≤ 16 := iv_lt_r t34 hv131_4 i31 (by decide)
                    have i37 : 0 ≤ v131_3.toInt ∧ v131_3.toInt ≤ 15 := by omega
                    refine lv_iload_n hx hb dX13_told_140 rfl (lv_at hl 1 rfl) ?_
                    refine lv_aload_n hx hb dX13_told_141 rfl (lv_at hl 2 rfl) ?_
                    refine lv_iload_n hx hb dX13_told_142 rfl (lv_at hl 3 rfl) ?_
                    refine lv_iload hx hb dX13_told_143 (lv_at hl 0 rfl) ?_
                    refine lv_aload_n hx hb dX13_told_145 rfl (lv_at hl 2 rfl) ?_
                    have i38 : 0 ≤ (xi (E 0) 1).toInt ∧ (xi (E 0) 1).toInt ≤ 400 := hI0.iv 0 (Nat.le_of_ble_eq_true rfl) rfl (Nat.le_of_ble_eq_true rfl) rfl
                    refine th_get (ci := 14) (C := RX13) (T := TX13) (N := 97) (v := .int (xi (E 0) 1)) hx hb hts hinX13 hown hK hP hI 0 (Nat.le_of_ble_eq_true rfl) rfl rfl 1 (Nat.le_of_ble_eq_true rfl) (hts _ (vA_in _ _ (in_24 _ (zs16 (zs4 (zs4 (zs1 (zs1 (zs1 (zs0)))))))))) (fun _ h9 => h9) (th_v0 hKp hI0 0 (Nat.le_of_ble_eq_true rfl) rfl (Nat.le_of_ble_eq_true rfl) rfl rfl) dX13_told_146 ?_
                    refine th_ri (va_runV (As := [.int a0, .int v131_4, .int (xi (E 0) 1)]) (rest := [.int v131_3]) ⟨hx, hb, hml, hown, hts⟩ (q_isEntered l dC dI cT ad E13 H.size a0 v131_4 (xi (E 0) 1) hI f3 i35) (cwV 3 hts (gi_V (in_24 _ (zs16 (zs16 (zs1 (zs1 (zs1 (zs0))))))) (in_24 _ (zs16 (zs16 (zs4 (zs0))))) (in_24 _ (zs16 (zs16 (zs4 (zs1 (zs0)))))) (in_24 _ (zs4 (zs4 (zs4 (zs1 (zs1 (zs1 (zs0)))))))) (in_24 _ (zs16 (zs16 (zs4 (zs1 (zs1 (zs0)))))))) rfl rfl rfl ⟨rfl, hz_yX13_isEntered_3⟩ ⟨Nat.le_of_ble_eq_true rfl, Nat.le_of_ble_eq_true rfl⟩) ⟨HW_bl, va_recv hK hP (ci := 14) (q0 := 0) rfl (hI.ob 0 (Nat.le_of_ble_eq_true rfl) rfl), (HW_wi hP hK (WX_D hD) hS hA hEV)⟩ rfl rfl hl.1 rfl (lv_room (Nat.le_of_ble_eq_true rfl)) dX13_told_149 ⟨Nat.le_of_ble_eq_true rfl, Nat.le_of_ble_eq_true rfl⟩) hS hP (fun r39 H locs hw hP hS => ?_)
                    rcases hw with hw | hw
                    · -- isEntered, case 0
                      obtain ⟨rfl, f40⟩ := hw
                      try rw [hKp.ef 21 (fun _ => rfl)] at f40
                      refine lv_if_eq (tgt := 159) hx hb dX13_told_152 (by decide) (fun c41 => ?_) (fun c41 => ?_)
                      · --152 taken
                        exact absurd c41 (by decide)
                      · --152 not
                        refine lv_iconst (v := 1) hx hb dX13_told_155 (by decide) ?_
                        refine lv_goto (tgt := 160) hx hb dX13_told_156 (by decide) ?_
                        refine lv_iadd hx hb dX13_told_160 ?_
                        refine lv_topi (fun y42 ey42 => ?_)
                        obtain ⟨ty42, iy42⟩ := ti_add (e := 1) (f := 16) i37 ln_1 ey42 (by decide)
                        have ty42 : y42.toInt = v131_3.toInt + 1 := ty42
                        have iy42 : 1 ≤ y42.toInt ∧ y42.toInt ≤ 16 := iy42
                        refine lv_istore_n (lv' := [(3, .int y42), (4, .int v131_4), (0, .ref (ad 0)), (1, .int a0), (2, .int a1)]) hx hb dX13_told_161 rfl hl (by decide) rfl (fun ls hl => ?_)
                        obtain ⟨y43, ey43⟩ : ∃ y : Int32, y = v131_4 + (1 : Int32) := ⟨_, rfl⟩
                        obtain ⟨ty43, iy43⟩ := ti_add (e := 1) (f := 16) i35 ln_1 ey43 (by decide)
                        have ty43 : y43.toInt = v131_4.toInt + 1 := ty43
                        have iy43 : 1 ≤ y43.toInt ∧ y43.toInt ≤ 16 := iy43
                        refine lv_iinc (v := y43) (lv' := [(4, .int y43), (3, .int y42), (0, .ref (ad 0)), (1, .int a0), (2, .int a1)]) hx hb dX13_told_162 hl (k := 1) rfl (by rw [ey43]; rfl) (by decide) rfl (fun ls hl => ?_)
                        refine lv_goto (tgt := 131) hx hb dX13_told_165 (by decide) ?_
                        exact ih131 y43 y42 _ _ _ (iv_w iy43 (by decide)) (iv_w iy42 (by decide)) (by rw [tn_s ty43 hv131_4 (by decide), entM_1 (c := (16 * a0.toInt + v131_4.toInt).toNat) (by rw [tn_]; omega) f40]; omega) (by omega) (by omega) (by first | exact ms_su hx131_3 ty43 (by decide) | omega) hP hS (lv_sub hl [0, 1, 2, 3, 4] rfl)
                    · -- isEntered, case 1
                      obtain ⟨rfl, f44⟩ := hw
                      try rw [hKp.ef 21 (fun _ => rfl)] at f44
                      refine lv_if_eq (tgt := 159) hx hb dX13_told_152 (by decide) (fun c45 => ?_) (fun c45 => ?_)
                      · --152 taken
                        refine lv_iconst (v := 0) hx hb dX13_told_159 (by decide) ?_
                        refine lv_iadd hx hb dX13_told_160 ?_
                        refine lv_topi (fun y46 ey46 => ?_)
                        obtain ⟨ty46, iy46⟩ := ti_add (e := 0) (f := 15) i37 ln_0 ey46 (by decide)
                        have ty46 : y46.toInt = v131_3.toInt + 0 := ty46
                        have iy46 : 0 ≤ y46.toInt ∧ y46.toInt ≤ 15 := iy46
                        refine lv_istore_n (lv' := [(3, .int y46), (4, .int v131_4), (0, .ref (ad 0)), (1, .int a0), (2, .int a1)]) hx hb dX13_told_161 rfl hl (by decide) rfl (fun ls hl => ?_)
                        obtain ⟨y47, ey47⟩ : ∃ y : Int32, y = v131_4 + (1 : Int32) := ⟨_, rfl⟩
                        obtain ⟨ty47, iy47⟩ := ti_add (e := 1) (f := 16) i35 ln_1 ey47 (by decide)
                        have ty47 : y47.toInt = v131_4.toInt + 1 := ty47
                        have iy47 : 1 ≤ y47.toInt ∧ y47.toInt ≤ 16 := iy47
                        refine lv_iinc (v := y47) (lv' := [(4, .int y47), (3, .int y46), (0, .ref (ad 0)), (1, .int a0), (2, .int a1)]) hx hb dX13_told_162 hl (k := 1) rfl (by rw [ey47]; rfl) (by decide) rfl (fun ls hl => ?_)
                        refine lv_goto (tgt := 131) hx hb dX13_told_165 (by decide) ?_
                        exact ih131 y47 y46 _ _ _ (iv_w iy47 (by decide)) (iv_w iy46 (by decide)) (by rw [tn_s ty47 hv131_4 (by decide), entM_0 (c := (16 * a0.toInt + v131_4.toInt).toNat) (by rw [tn_]; omega) f44]; omega) (by omega) (by omega) (by first | exact ms_su hx131_3 ty47 (by decide) | omega) hP hS (lv_sub hl [0, 1, 2, 3, 4] rfl)
                      · --152 not
                        exact absurd c45 (by decide)
              exact hL131 (17) (0 : Int32) (0 : Int32) _ _ _ (iv_w ln_0 (by decide)) (iv_w ln_0 (by decide)) rfl (by have z0 := ln_0; omega) (by have b9 : (0 : Int) ≤ (xi (E 0) 8).toInt ∧ (xi (E 0) 8).toInt ≤ 16 := hI0.iv 0 (Nat.le_of_ble_eq_true rfl) rfl (Nat.le_of_ble_eq_true rfl) rfl; have z0 := ln_0; omega) (by have h9 := ln_0; first | exact ms_bu h9.1 (by decide) | omega) hP hS (lv_sub hl [0, 1, 2, 3, 4] rfl)
            · --7
              refine lv_tableIn (off := 133) (tgt := 170) hx hb dX13_told_37 (by omega) (by omega) (by rw [c16]; rfl) (by decide) ?_
              refine lv_aload_n hx hb dX13_told_170 rfl (lv_at hl 0 rfl) ?_
              refine th_get (ci := 14) (C := RX13) (T := TX13) (N := 97) (v := .ref (ad 19)) hx hb hts hinX13 hown hK hP hI 0 (Nat.le_of_ble_eq_true rfl) rfl rfl 33 (Nat.le_of_ble_eq_true rfl) (hts _ (vA_in _ _ (in_25 _ (zs16 (zs16 (zs1 (zs0))))))) (fun _ h9 => h9) (hI.fr 0 (Nat.le_of_ble_eq_true rfl) rfl (Nat.le_of_ble_eq_true rfl) 19 rfl) dX13_told_171 ?_
              refine lv_iload_n hx hb dX13_told_174 rfl (lv_at hl 1 rfl) ?_
              have n49 : vp_in a0 20 := (iv_in (n := 20) f3 (by decide))
              refine th_iald hx hb hK hP hI 19 (Nat.le_of_ble_eq_true rfl) rfl rfl n49 dX13_told_175 (fun y48 ey48 => ?_)
              have iy48 : 0 ≤ y48.toInt ∧ y48.toInt ≤ 9 := hI.el 19 (Nat.le_of_ble_eq_true rfl) rfl n49 (fun _ => rfl) ey48
              have ey48 := ey48.trans (hKp.ei 19 _ rfl)
              rw [hQ]
              exact W.iret (v := y48) hx hb hr (fun t ht hW => ⟨⟨y48, E13, rfl, ⟨hI, hKp, (by have gy48 := congrArg Int32.toInt ey48; (try rw [(show xi (E13 0) 0 = (0 : Int32) from vi_e pw14.1)]); have z90 : (0 : Int32).toInt = 0 := rfl; have z91 : (1 : Int32).toInt = 1 := rfl; have z98 : (8 : Int32).toInt = 8 := rfl; all_goals omega)⟩, by show va_P (dC, dI) vwCl (WX 72 ad E13) t.heap; rw [ht]; exact hP⟩, hS.F ht⟩) hS.2.2 dX13_told_176
          · --31 not
            exact absurd c15 (by decide)
      · -- isIn, case 1
        obtain ⟨rfl, f50⟩ := hw
        have t51 : ¬ ((0 : Int) ≤ a1.toInt ∧ a1.toInt ≤ 8) := f50
        refine lv_if_eq (tgt := 23) hx hb dX13_told_16 (by decide) (fun c52 => ?_) (fun c52 => ?_)
        · --16 taken
          refine lv_iconst (v := 1) hx hb dX13_told_23 (by decide) ?_
          refine th_put (ci := 14) (C := RX13) (T := TX13) (N := 97) (v := .int 1) (ty := .int) hx hb hts hinX13 tyX13 tyX13_ok nmX13 hown hK hP (WX_D hD) hS hI 0 (Nat.le_of_ble_eq_true rfl) rfl rfl 0 (Nat.le_of_ble_eq_true rfl) (hts _ (vA_in _ _ (in_24 _ (zs4 (zs4 (zs1 (zs1 (zs0)))))))) (fun _ h9 => h9) rfl (by decide +kernel) rfl rfl (okI rfl (iv_w ln_1 (by decide))) dX13_told_24 (fun H locs E53 pw54 hI hP hS => ?_)
          have hKp := hKp.pw pw54 rfl
          refine lv_aload_n hx hb dX13_told_27 rfl (lv_at hl 0 rfl) ?_
          refine th_get (ci := 14) (C := RX13) (T := TX13) (N := 97) (v := .int 1) hx hb hts hinX13 hown hK hP hI 0 (Nat.le_of_ble_eq_true rfl) rfl rfl 0 (Nat.le_of_ble_eq_true rfl) (hts _ (vA_in _ _ (in_24 _ (zs4 (zs4 (zs1 (zs1 (zs0)))))))) (fun _ h9 => h9) pw54.1 dX13_told_28 ?_
          refine lv_if_le (tgt := 36) hx hb dX13_told_31 (by decide) (fun c55 => ?_) (fun c55 => ?_)
          · --31 taken
            exact absurd c55 (by decide)
          · --31 not
            refine lv_iconst (v := 0) hx hb dX13_told_34 (by decide) ?_
            rw [hQ]
            exact W.iret (v := 0) hx hb hr (fun t ht hW => ⟨⟨0, E53, rfl, ⟨hI, hKp, (by have z8 := ln_0; (try rw [(show xi (E53 0) 0 = (1 : Int32) from vi_e pw54.1)]); have z90 : (0 : Int32).toInt = 0 := rfl; have z91 : (1 : Int32).toInt = 1 := rfl; have z98 : (8 : Int32).toInt = 8 := rfl; all_goals omega)⟩, by show va_P (dC, dI) vwCl (WX 72 ad E53) t.heap; rw [ht]; exact hP⟩, hS.F ht⟩) hS.2.2 dX13_told_35
        · --16 not
          exact absurd c52 (by decide)
  · -- isRace, case 1
    obtain ⟨rfl, f56⟩ := hw
    have i57 : 0 ≤ (xi (E 0) 46).toInt ∧ (xi (E 0) 46).toInt ≤ 20 := (show 0 ≤ (xi (E 0) 46).toInt ∧ (xi (E 0) 46).toInt ≤ 20 from hI0.iv 0 (Nat.le_of_ble_eq_true rfl) rfl (Nat.le_of_ble_eq_true rfl) rfl)
    refine lv_if_eq (tgt := 23) hx hb dX13_told_6 (by decide) (fun c58 => ?_) (fun c58 => ?_)
    · --6 taken
      refine lv_iconst (v := 1) hx hb dX13_told_23 (by decide) ?_
      refine th_put (ci := 14) (C := RX13) (T := TX13) (N := 97) (v := .int 1) (ty := .int) hx hb hts hinX13 tyX13 tyX13_ok nmX13 hown hK hP (WX_D hD) hS hI 0 (Nat.le_of_ble_eq_true rfl) rfl rfl 0 (Nat.le_of_ble_eq_true rfl) (hts _ (vA_in _ _ (in_24 _ (zs4 (zs4 (zs1 (zs1 (zs0)))))))) (fun _ h9 => h9) rfl (by decide +kernel) rfl rfl (okI rfl (iv_w ln_1 (by decide))) dX13_told_24 (fun H locs E59 pw60 hI hP hS => ?_)
      have hKp := hKp.pw pw60 rfl
      refine lv_aload_n hx hb dX13_told_27 rfl (lv_at hl 0 rfl) ?_
      refine th_get (ci := 14) (C := RX13) (T := TX13) (N := 97) (v := .int 1) hx hb hts hinX13 hown hK hP hI 0 (Nat.le_of_ble_eq_true rfl) rfl rfl 0 (Nat.le_of_ble_eq_true rfl) (hts _ (vA_in _ _ (in_24 _ (zs4 (zs4 (zs1 (zs1 (zs0)))))))) (fun _ h9 => h9) pw60.1 dX13_told_28 ?_
      refine lv_if_le (tgt := 36) hx hb dX13_told_31 (by decide) (fun c61 => ?_) (fun c61 => ?_)
      · --31 taken
        exact absurd c61 (by decide)
      · --31 not
        refine lv_iconst (v := 0) hx hb dX13_told_34 (by decide) ?_
        rw [hQ]
        exact W.iret (v := 0) hx hb hr (fun t ht hW => ⟨⟨0, E59, rfl, ⟨hI, hKp, (by have z8 := ln_0; (try rw [(show xi (E59 0) 0 = (1 : Int32) from vi_e pw60.1)]); have z90 : (0 : Int32).toInt = 0 := rfl; have z91 : (1 : Int32).toInt = 1 := rfl; have z98 : (8 : Int32).toInt = 8 := rfl; all_goals omega)⟩, by show va_P (dC, dI) vwCl (WX 72 ad E59) t.heap; rw [ht]; exact hP⟩, hS.F ht⟩) hS.2.2 dX13_told_35
    · --6 not
      exact absurd c58 (by decide)
