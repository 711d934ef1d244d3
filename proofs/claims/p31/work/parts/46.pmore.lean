set_option maxRecDepth 100000 in
theorem zh_dX10_next_0_0 : zc cX10_next 0 [42, 180, 0, 34, 2, 159, 0, 6, 16, 254, 172, 42, 180, 0, 31, 42] = true := by decide +kernel
set_option maxRecDepth 100000 in
theorem zh_dX10_next_16_16 : zc cX10_next 16 [180, 0, 27, 162, 0, 30, 42, 180, 0, 9, 42, 180, 0, 31, 46, 16] = true := by decide +kernel
set_option maxRecDepth 100000 in
theorem zh_dX10_next_31_32 : zc cX10_next 32 [32, 160, 0, 16, 42, 89, 180, 0, 31, 4, 96, 181, 0, 31, 167, 255] = true := by decide +kernel
set_option maxRecDepth 100000 in
theorem zh_dX10_next_46_48 : zc cX10_next 48 [221, 42, 180, 0, 31, 42, 180, 0, 27, 162, 0, 15, 42, 180, 0, 9] = true := by decide +kernel
set_option maxRecDepth 100000 in
theorem zh_dX10_next_64_64 : zc cX10_next 64 [42, 180, 0, 31, 46, 167, 0, 4, 2, 172] = true := by decide +kernel
set_option maxRecDepth 100000 in
theorem zh_dX10_fail_0_0 : zc cX10_fail 0 [42, 180, 0, 34, 2, 160, 0, 11, 42, 42, 180, 0, 31, 181, 0, 34] = true := by decide +kernel
set_option maxRecDepth 100000 in
theorem zh_dX10_fail_16_16 : zc cX10_fail 16 [177] = true := by decide +kernel
set_option maxRecDepth 100000 in
theorem zh_dX10_take_0_0 : zc cX10_take 0 [42, 182, 0, 46, 27, 160, 0, 16, 42, 89, 180, 0, 31, 4, 96, 181] = true := by decide +kernel
set_option maxRecDepth 100000 in
theorem zh_dX10_take_15_16 : zc cX10_take 16 [0, 31, 167, 0, 7, 42, 182, 0, 50, 177] = true := by decide +kernel
set_option maxRecDepth 100000 in
theorem zh_dX10_add_0_0 : zc cX10_add 0 [42, 180, 0, 37, 42, 180, 0, 15, 190, 162, 0, 23, 42, 180, 0, 15] = true := by decide +kernel
set_option maxRecDepth 100000 in
theorem zh_dX10_add_16_16 : zc cX10_add 16 [42, 180, 0, 37, 27, 79, 42, 89, 180, 0, 37, 4, 96, 181, 0, 37] = true := by decide +kernel
set_option maxRecDepth 100000 in
theorem zh_dX10_add_32_32 : zc cX10_add 32 [177] = true := by decide +kernel
set_option maxRecDepth 100000 in
theorem zh_dX10_readNumber_0_0 : zc cX10_readNumber 0 [3, 60, 3, 61, 28, 8, 162, 0, 63, 42, 180, 0, 31, 42, 180, 0] = true := by decide +kernel
set_option maxRecDepth 100000 in
theorem zh_dX10_readNumber_14_16 : zc cX10_readNumber 16 [27, 162, 0, 52, 42, 180, 0, 9, 42, 180, 0, 31, 46, 184, 0, 115] = true := by decide +kernel
set_option maxRecDepth 100000 in
theorem zh_dX10_readNumber_32_32 : zc cX10_readNumber 32 [153, 0, 37, 27, 16, 10, 104, 42, 180, 0, 9, 42, 180, 0, 31, 46] = true := by decide +kernel
set_option maxRecDepth 100000 in
theorem zh_dX10_readNumber_48_48 : zc cX10_readNumber 48 [96, 16, 48, 100, 60, 132, 2, 1, 42, 89, 180, 0, 31, 4, 96, 181] = true := by decide +kernel
set_option maxRecDepth 100000 in
theorem zh_dX10_readNumber_63_64 : zc cX10_readNumber 64 [0, 31, 167, 255, 194, 42, 27, 182, 0, 92, 177] = true := by decide +kernel
set_option maxRecDepth 100000 in
theorem zh_dX10_goDeeper_0_0 : zc cX10_goDeeper 0 [27, 16, 8, 161, 0, 9, 42, 182, 0, 50, 3, 172, 42, 89, 180, 0] = true := by decide +kernel
set_option maxRecDepth 100000 in
theorem zh_dX10_goDeeper_14_16 : zc cX10_goDeeper 16 [31, 4, 96, 181, 0, 31, 4, 172] = true := by decide +kernel
set_option maxRecDepth 100000 in
theorem zh_dX12_isOneOf_0_0 : zc cX12_isOneOf 0 [27, 158, 0, 16, 42, 27, 146, 182, 1, 75, 155, 0, 7, 4, 167, 0] = true := by decide +kernel
set_option maxRecDepth 100000 in
theorem zh_dX12_isOneOf_14_16 : zc cX12_isOneOf 16 [4, 3, 172] = true := by decide +kernel
theorem dX10_next_0 : decode cX10_next 0 = .ok (.aload_n 0, 1) := zo_42 (zi_at zh_dX10_next_0_0 0 rfl)
theorem dX10_next_1 : decode cX10_next 1 = .ok (.getfield 34, 3) := zo_180 (zi_at zh_dX10_next_0_0 1 rfl) (zi_at zh_dX10_next_0_0 2 rfl) (zi_at zh_dX10_next_0_0 3 rfl) rfl
theorem dX10_next_4 : decode cX10_next 4 = .ok (.iconst (-1), 1) := zo_2 (zi_at zh_dX10_next_0_0 4 rfl)
theorem dX10_next_5 : decode cX10_next 5 = .ok (.if_icmp .eq 6, 3) := zo_159 (zi_at zh_dX10_next_0_0 5 rfl) (zi_at zh_dX10_next_0_0 6 rfl) (zi_at zh_dX10_next_0_0 7 rfl) rfl
theorem dX10_next_8 : decode cX10_next 8 = .ok (.bipush (-2), 2) := zo_16 (zi_at zh_dX10_next_0_0 8 rfl) (zi_at zh_dX10_next_0_0 9 rfl) rfl
theorem dX10_next_10 : decode cX10_next 10 = .ok (.ireturn, 1) := zo_172 (zi_at zh_dX10_next_0_0 10 rfl)
theorem dX10_next_11 : decode cX10_next 11 = .ok (.aload_n 0, 1) := zo_42 (zi_at zh_dX10_next_0_0 11 rfl)
theorem dX10_next_12 : decode cX10_next 12 = .ok (.getfield 31, 3) := zo_180 (zi_at zh_dX10_next_0_0 12 rfl) (zi_at zh_dX10_next_0_0 13 rfl) (zi_at zh_dX10_next_0_0 14 rfl) rfl
theorem dX10_next_15 : decode cX10_next 15 = .ok (.aload_n 0, 1) := zo_42 (zi_at zh_dX10_next_0_0 15 rfl)
theorem dX10_next_16 : decode cX10_next 16 = .ok (.getfield 27, 3) := zo_180 (zi_at zh_dX10_next_16_16 0 rfl) (zi_at zh_dX10_next_16_16 1 rfl) (zi_at zh_dX10_next_16_16 2 rfl) rfl
theorem dX10_next_19 : decode cX10_next 19 = .ok (.if_icmp .ge 30, 3) := zo_162 (zi_at zh_dX10_next_16_16 3 rfl) (zi_at zh_dX10_next_16_16 4 rfl) (zi_at zh_dX10_next_16_16 5 rfl) rfl
theorem dX10_next_22 : decode cX10_next 22 = .ok (.aload_n 0, 1) := zo_42 (zi_at zh_dX10_next_16_16 6 rfl)
theorem dX10_next_23 : decode cX10_next 23 = .ok (.getfield 9, 3) := zo_180 (zi_at zh_dX10_next_16_16 7 rfl) (zi_at zh_dX10_next_16_16 8 rfl) (zi_at zh_dX10_next_16_16 9 rfl) rfl
theorem dX10_next_26 : decode cX10_next 26 = .ok (.aload_n 0, 1) := zo_42 (zi_at zh_dX10_next_16_16 10 rfl)
theorem dX10_next_27 : decode cX10_next 27 = .ok (.getfield 31, 3) := zo_180 (zi_at zh_dX10_next_16_16 11 rfl) (zi_at zh_dX10_next_16_16 12 rfl) (zi_at zh_dX10_next_16_16 13 rfl) rfl
theorem dX10_next_30 : decode cX10_next 30 = .ok (.iaload, 1) := zo_46 (zi_at zh_dX10_next_16_16 14 rfl)
theorem dX10_next_31 : decode cX10_next 31 = .ok (.bipush 32, 2) := zo_16 (zi_at zh_dX10_next_16_16 15 rfl) (zi_at zh_dX10_next_31_32 0 rfl) rfl
theorem dX10_next_33 : decode cX10_next 33 = .ok (.if_icmp .ne 16, 3) := zo_160 (zi_at zh_dX10_next_31_32 1 rfl) (zi_at zh_dX10_next_31_32 2 rfl) (zi_at zh_dX10_next_31_32 3 rfl) rfl
theorem dX10_next_36 : decode cX10_next 36 = .ok (.aload_n 0, 1) := zo_42 (zi_at zh_dX10_next_31_32 4 rfl)
theorem dX10_next_37 : decode cX10_next 37 = .ok (.dup, 1) := zo_89 (zi_at zh_dX10_next_31_32 5 rfl)
theorem dX10_next_38 : decode cX10_next 38 = .ok (.getfield 31, 3) := zo_180 (zi_at zh_dX10_next_31_32 6 rfl) (zi_at zh_dX10_next_31_32 7 rfl) (zi_at zh_dX10_next_31_32 8 rfl) rfl
theorem dX10_next_41 : decode cX10_next 41 = .ok (.iconst 1, 1) := zo_4 (zi_at zh_dX10_next_31_32 9 rfl)
theorem dX10_next_42 : decode cX10_next 42 = .ok (.iadd, 1) := zo_96 (zi_at zh_dX10_next_31_32 10 rfl)
theorem dX10_next_43 : decode cX10_next 43 = .ok (.putfield 31, 3) := zo_181 (zi_at zh_dX10_next_31_32 11 rfl) (zi_at zh_dX10_next_31_32 12 rfl) (zi_at zh_dX10_next_31_32 13 rfl) rfl
theorem dX10_next_46 : decode cX10_next 46 = .ok (.goto (-35), 3) := zo_167 (zi_at zh_dX10_next_31_32 14 rfl) (zi_at zh_dX10_next_31_32 15 rfl) (zi_at zh_dX10_next_46_48 0 rfl) rfl
theorem dX10_next_49 : decode cX10_next 49 = .ok (.aload_n 0, 1) := zo_42 (zi_at zh_dX10_next_46_48 1 rfl)
theorem dX10_next_50 : decode cX10_next 50 = .ok (.getfield 31, 3) := zo_180 (zi_at zh_dX10_next_46_48 2 rfl) (zi_at zh_dX10_next_46_48 3 rfl) (zi_at zh_dX10_next_46_48 4 rfl) rfl
theorem dX10_next_53 : decode cX10_next 53 = .ok (.aload_n 0, 1) := zo_42 (zi_at zh_dX10_next_46_48 5 rfl)
theorem dX10_next_54 : decode cX10_next 54 = .ok (.getfield 27, 3) := zo_180 (zi_at zh_dX10_next_46_48 6 rfl) (zi_at zh_dX10_next_46_48 7 rfl) (zi_at zh_dX10_next_46_48 8 rfl) rfl
theorem dX10_next_57 : decode cX10_next 57 = .ok (.if_icmp .ge 15, 3) := zo_162 (zi_at zh_dX10_next_46_48 9 rfl) (zi_at zh_dX10_next_46_48 10 rfl) (zi_at zh_dX10_next_46_48 11 rfl) rfl
theorem dX10_next_60 : decode cX10_next 60 = .ok (.aload_n 0, 1) := zo_42 (zi_at zh_dX10_next_46_48 12 rfl)
theorem dX10_next_61 : decode cX10_next 61 = .ok (.getfield 9, 3) := zo_180 (zi_at zh_dX10_next_46_48 13 rfl) (zi_at zh_dX10_next_46_48 14 rfl) (zi_at zh_dX10_next_46_48 15 rfl) rfl
theorem dX10_next_64 : decode cX10_next 64 = .ok (.aload_n 0, 1) := zo_42 (zi_at zh_dX10_next_64_64 0 rfl)
theorem dX10_next_65 : decode cX10_next 65 = .ok (.getfield 31, 3) := zo_180 (zi_at zh_dX10_next_64_64 1 rfl) (zi_at zh_dX10_next_64_64 2 rfl) (zi_at zh_dX10_next_64_64 3 rfl) rfl
theorem dX10_next_68 : decode cX10_next 68 = .ok (.iaload, 1) := zo_46 (zi_at zh_dX10_next_64_64 4 rfl)
theorem dX10_next_69 : decode cX10_next 69 = .ok (.goto 4, 3) := zo_167 (zi_at zh_dX10_next_64_64 5 rfl) (zi_at zh_dX10_next_64_64 6 rfl) (zi_at zh_dX10_next_64_64 7 rfl) rfl
theorem dX10_next_72 : decode cX10_next 72 = .ok (.iconst (-1), 1) := zo_2 (zi_at zh_dX10_next_64_64 8 rfl)
theorem dX10_next_73 : decode cX10_next 73 = .ok (.ireturn, 1) := zo_172 (zi_at zh_dX10_next_64_64 9 rfl)
theorem dX10_fail_0 : decode cX10_fail 0 = .ok (.aload_n 0, 1) := zo_42 (zi_at zh_dX10_fail_0_0 0 rfl)
theorem dX10_fail_1 : decode cX10_fail 1 = .ok (.getfield 34, 3) := zo_180 (zi_at zh_dX10_fail_0_0 1 rfl) (zi_at zh_dX10_fail_0_0 2 rfl) (zi_at zh_dX10_fail_0_0 3 rfl) rfl
theorem dX10_fail_4 : decode cX10_fail 4 = .ok (.iconst (-1), 1) := zo_2 (zi_at zh_dX10_fail_0_0 4 rfl)
theorem dX10_fail_5 : decode cX10_fail 5 = .ok (.if_icmp .ne 11, 3) := zo_160 (zi_at zh_dX10_fail_0_0 5 rfl) (zi_at zh_dX10_fail_0_0 6 rfl) (zi_at zh_dX10_fail_0_0 7 rfl) rfl
theorem dX10_fail_8 : decode cX10_fail 8 = .ok (.aload_n 0, 1) := zo_42 (zi_at zh_dX10_fail_0_0 8 rfl)
theorem dX10_fail_9 : decode cX10_fail 9 = .ok (.aload_n 0, 1) := zo_42 (zi_at zh_dX10_fail_0_0 9 rfl)
theorem dX10_fail_10 : decode cX10_fail 10 = .ok (.getfield 31, 3) := zo_180 (zi_at zh_dX10_fail_0_0 10 rfl) (zi_at zh_dX10_fail_0_0 11 rfl) (zi_at zh_dX10_fail_0_0 12 rfl) rfl
theorem dX10_fail_13 : decode cX10_fail 13 = .ok (.putfield 34, 3) := zo_181 (zi_at zh_dX10_fail_0_0 13 rfl) (zi_at zh_dX10_fail_0_0 14 rfl) (zi_at zh_dX10_fail_0_0 15 rfl) rfl
theorem dX10_fail_16 : decode cX10_fail 16 = .ok (.return_, 1) := zo_177 (zi_at zh_dX10_fail_16_16 0 rfl)
theorem dX10_take_0 : decode cX10_take 0 = .ok (.aload_n 0, 1) := zo_42 (zi_at zh_dX10_take_0_0 0 rfl)
theorem dX10_take_1 : decode cX10_take 1 = .ok (.invokevirtual 46, 3) := zo_182 (zi_at zh_dX10_take_0_0 1 rfl) (zi_at zh_dX10_take_0_0 2 rfl) (zi_at zh_dX10_take_0_0 3 rfl) rfl
theorem dX10_take_4 : decode cX10_take 4 = .ok (.iload_n 1, 1) := zo_27 (zi_at zh_dX10_take_0_0 4 rfl)
theorem dX10_take_5 : decode cX10_take 5 = .ok (.if_icmp .ne 16, 3) := zo_160 (zi_at zh_dX10_take_0_0 5 rfl) (zi_at zh_dX10_take_0_0 6 rfl) (zi_at zh_dX10_take_0_0 7 rfl) rfl
theorem dX10_take_8 : decode cX10_take 8 = .ok (.aload_n 0, 1) := zo_42 (zi_at zh_dX10_take_0_0 8 rfl)
theorem dX10_take_9 : decode cX10_take 9 = .ok (.dup, 1) := zo_89 (zi_at zh_dX10_take_0_0 9 rfl)
theorem dX10_take_10 : decode cX10_take 10 = .ok (.getfield 31, 3) := zo_180 (zi_at zh_dX10_take_0_0 10 rfl) (zi_at zh_dX10_take_0_0 11 rfl) (zi_at zh_dX10_take_0_0 12 rfl) rfl
theorem dX10_take_13 : decode cX10_take 13 = .ok (.iconst 1, 1) := zo_4 (zi_at zh_dX10_take_0_0 13 rfl)
theorem dX10_take_14 : decode cX10_take 14 = .ok (.iadd, 1) := zo_96 (zi_at zh_dX10_take_0_0 14 rfl)
theorem dX10_take_15 : decode cX10_take 15 = .ok (.putfield 31, 3) := zo_181 (zi_at zh_dX10_take_0_0 15 rfl) (zi_at zh_dX10_take_15_16 0 rfl) (zi_at zh_dX10_take_15_16 1 rfl) rfl
theorem dX10_take_18 : decode cX10_take 18 = .ok (.goto 7, 3) := zo_167 (zi_at zh_dX10_take_15_16 2 rfl) (zi_at zh_dX10_take_15_16 3 rfl) (zi_at zh_dX10_take_15_16 4 rfl) rfl
theorem dX10_take_21 : decode cX10_take 21 = .ok (.aload_n 0, 1) := zo_42 (zi_at zh_dX10_take_15_16 5 rfl)
theorem dX10_take_22 : decode cX10_take 22 = .ok (.invokevirtual 50, 3) := zo_182 (zi_at zh_dX10_take_15_16 6 rfl) (zi_at zh_dX10_take_15_16 7 rfl) (zi_at zh_dX10_take_15_16 8 rfl) rfl
theorem dX10_take_25 : decode cX10_take 25 = .ok (.return_, 1) := zo_177 (zi_at zh_dX10_take_15_16 9 rfl)
theorem dX10_add_0 : decode cX10_add 0 = .ok (.aload_n 0, 1) := zo_42 (zi_at zh_dX10_add_0_0 0 rfl)
theorem dX10_add_1 : decode cX10_add 1 = .ok (.getfield 37, 3) := zo_180 (zi_at zh_dX10_add_0_0 1 rfl) (zi_at zh_dX10_add_0_0 2 rfl) (zi_at zh_dX10_add_0_0 3 rfl) rfl
theorem dX10_add_4 : decode cX10_add 4 = .ok (.aload_n 0, 1) := zo_42 (zi_at zh_dX10_add_0_0 4 rfl)
theorem dX10_add_5 : decode cX10_add 5 = .ok (.getfield 15, 3) := zo_180 (zi_at zh_dX10_add_0_0 5 rfl) (zi_at zh_dX10_add_0_0 6 rfl) (zi_at zh_dX10_add_0_0 7 rfl) rfl
theorem dX10_add_8 : decode cX10_add 8 = .ok (.arraylength, 1) := zo_190 (zi_at zh_dX10_add_0_0 8 rfl)
theorem dX10_add_9 : decode cX10_add 9 = .ok (.if_icmp .ge 23, 3) := zo_162 (zi_at zh_dX10_add_0_0 9 rfl) (zi_at zh_dX10_add_0_0 10 rfl) (zi_at zh_dX10_add_0_0 11 rfl) rfl
theorem dX10_add_12 : decode cX10_add 12 = .ok (.aload_n 0, 1) := zo_42 (zi_at zh_dX10_add_0_0 12 rfl)
theorem dX10_add_13 : decode cX10_add 13 = .ok (.getfield 15, 3) := zo_180 (zi_at zh_dX10_add_0_0 13 rfl) (zi_at zh_dX10_add_0_0 14 rfl) (zi_at zh_dX10_add_0_0 15 rfl) rfl
theorem dX10_add_16 : decode cX10_add 16 = .ok (.aload_n 0, 1) := zo_42 (zi_at zh_dX10_add_16_16 0 rfl)
theorem dX10_add_17 : decode cX10_add 17 = .ok (.getfield 37, 3) := zo_180 (zi_at zh_dX10_add_16_16 1 rfl) (zi_at zh_dX10_add_16_16 2 rfl) (zi_at zh_dX10_add_16_16 3 rfl) rfl
theorem dX10_add_20 : decode cX10_add 20 = .ok (.iload_n 1, 1) := zo_27 (zi_at zh_dX10_add_16_16 4 rfl)
theorem dX10_add_21 : decode cX10_add 21 = .ok (.iastore, 1) := zo_79 (zi_at zh_dX10_add_16_16 5 rfl)
theorem dX10_add_22 : decode cX10_add 22 = .ok (.aload_n 0, 1) := zo_42 (zi_at zh_dX10_add_16_16 6 rfl)
theorem dX10_add_23 : decode cX10_add 23 = .ok (.dup, 1) := zo_89 (zi_at zh_dX10_add_16_16 7 rfl)
theorem dX10_add_24 : decode cX10_add 24 = .ok (.getfield 37, 3) := zo_180 (zi_at zh_dX10_add_16_16 8 rfl) (zi_at zh_dX10_add_16_16 9 rfl) (zi_at zh_dX10_add_16_16 10 rfl) rfl
theorem dX10_add_27 : decode cX10_add 27 = .ok (.iconst 1, 1) := zo_4 (zi_at zh_dX10_add_16_16 11 rfl)
theorem dX10_add_28 : decode cX10_add 28 = .ok (.iadd, 1) := zo_96 (zi_at zh_dX10_add_16_16 12 rfl)
theorem dX10_add_29 : decode cX10_add 29 = .ok (.putfield 37, 3) := zo_181 (zi_at zh_dX10_add_16_16 13 rfl) (zi_at zh_dX10_add_16_16 14 rfl) (zi_at zh_dX10_add_16_16 15 rfl) rfl
theorem dX10_add_32 : decode cX10_add 32 = .ok (.return_, 1) := zo_177 (zi_at zh_dX10_add_32_32 0 rfl)
theorem dX10_readNumber_0 : decode cX10_readNumber 0 = .ok (.iconst 0, 1) := zo_3 (zi_at zh_dX10_readNumber_0_0 0 rfl)
theorem dX10_readNumber_1 : decode cX10_readNumber 1 = .ok (.istore_n 1, 1) := zo_60 (zi_at zh_dX10_readNumber_0_0 1 rfl)
theorem dX10_readNumber_2 : decode cX10_readNumber 2 = .ok (.iconst 0, 1) := zo_3 (zi_at zh_dX10_readNumber_0_0 2 rfl)
theorem dX10_readNumber_3 : decode cX10_readNumber 3 = .ok (.istore_n 2, 1) := zo_61 (zi_at zh_dX10_readNumber_0_0 3 rfl)
theorem dX10_readNumber_4 : decode cX10_readNumber 4 = .ok (.iload_n 2, 1) := zo_28 (zi_at zh_dX10_readNumber_0_0 4 rfl)
theorem dX10_readNumber_5 : decode cX10_readNumber 5 = .ok (.iconst 5, 1) := zo_8 (zi_at zh_dX10_readNumber_0_0 5 rfl)
theorem dX10_readNumber_6 : decode cX10_readNumber 6 = .ok (.if_icmp .ge 63, 3) := zo_162 (zi_at zh_dX10_readNumber_0_0 6 rfl) (zi_at zh_dX10_readNumber_0_0 7 rfl) (zi_at zh_dX10_readNumber_0_0 8 rfl) rfl
theorem dX10_readNumber_9 : decode cX10_readNumber 9 = .ok (.aload_n 0, 1) := zo_42 (zi_at zh_dX10_readNumber_0_0 9 rfl)
theorem dX10_readNumber_10 : decode cX10_readNumber 10 = .ok (.getfield 31, 3) := zo_180 (zi_at zh_dX10_readNumber_0_0 10 rfl) (zi_at zh_dX10_readNumber_0_0 11 rfl) (zi_at zh_dX10_readNumber_0_0 12 rfl) rfl
theorem dX10_readNumber_13 : decode cX10_readNumber 13 = .ok (.aload_n 0, 1) := zo_42 (zi_at zh_dX10_readNumber_0_0 13 rfl)
theorem dX10_readNumber_14 : decode cX10_readNumber 14 = .ok (.getfield 27, 3) := zo_180 (zi_at zh_dX10_readNumber_0_0 14 rfl) (zi_at zh_dX10_readNumber_0_0 15 rfl) (zi_at zh_dX10_readNumber_14_16 0 rfl) rfl
theorem dX10_readNumber_17 : decode cX10_readNumber 17 = .ok (.if_icmp .ge 52, 3) := zo_162 (zi_at zh_dX10_readNumber_14_16 1 rfl) (zi_at zh_dX10_readNumber_14_16 2 rfl) (zi_at zh_dX10_readNumber_14_16 3 rfl) rfl
theorem dX10_readNumber_20 : decode cX10_readNumber 20 = .ok (.aload_n 0, 1) := zo_42 (zi_at zh_dX10_readNumber_14_16 4 rfl)
theorem dX10_readNumber_21 : decode cX10_readNumber 21 = .ok (.getfield 9, 3) := zo_180 (zi_at zh_dX10_readNumber_14_16 5 rfl) (zi_at zh_dX10_readNumber_14_16 6 rfl) (zi_at zh_dX10_readNumber_14_16 7 rfl) rfl
theorem dX10_readNumber_24 : decode cX10_readNumber 24 = .ok (.aload_n 0, 1) := zo_42 (zi_at zh_dX10_readNumber_14_16 8 rfl)
theorem dX10_readNumber_25 : decode cX10_readNumber 25 = .ok (.getfield 31, 3) := zo_180 (zi_at zh_dX10_readNumber_14_16 9 rfl) (zi_at zh_dX10_readNumber_14_16 10 rfl) (zi_at zh_dX10_readNumber_14_16 11 rfl) rfl
theorem dX10_readNumber_28 : decode cX10_readNumber 28 = .ok (.iaload, 1) := zo_46 (zi_at zh_dX10_readNumber_14_16 12 rfl)
theorem dX10_readNumber_29 : decode cX10_readNumber 29 = .ok (.invokestatic 115, 3) := zo_184 (zi_at zh_dX10_readNumber_14_16 13 rfl) (zi_at zh_dX10_readNumber_14_16 14 rfl) (zi_at zh_dX10_readNumber_14_16 15 rfl) rfl
theorem dX10_readNumber_32 : decode cX10_readNumber 32 = .ok (.ifCond .eq 37, 3) := zo_153 (zi_at zh_dX10_readNumber_32_32 0 rfl) (zi_at zh_dX10_readNumber_32_32 1 rfl) (zi_at zh_dX10_readNumber_32_32 2 rfl) rfl
theorem dX10_readNumber_35 : decode cX10_readNumber 35 = .ok (.iload_n 1, 1) := zo_27 (zi_at zh_dX10_readNumber_32_32 3 rfl)
theorem dX10_readNumber_36 : decode cX10_readNumber 36 = .ok (.bipush 10, 2) := zo_16 (zi_at zh_dX10_readNumber_32_32 4 rfl) (zi_at zh_dX10_readNumber_32_32 5 rfl) rfl
theorem dX10_readNumber_38 : decode cX10_readNumber 38 = .ok (.imul, 1) := zo_104 (zi_at zh_dX10_readNumber_32_32 6 rfl)
theorem dX10_readNumber_39 : decode cX10_readNumber 39 = .ok (.aload_n 0, 1) := zo_42 (zi_at zh_dX10_readNumber_32_32 7 rfl)
theorem dX10_readNumber_40 : decode cX10_readNumber 40 = .ok (.getfield 9, 3) := zo_180 (zi_at zh_dX10_readNumber_32_32 8 rfl) (zi_at zh_dX10_readNumber_32_32 9 rfl) (zi_at zh_dX10_readNumber_32_32 10 rfl) rfl
theorem dX10_readNumber_43 : decode cX10_readNumber 43 = .ok (.aload_n 0, 1) := zo_42 (zi_at zh_dX10_readNumber_32_32 11 rfl)
theorem dX10_readNumber_44 : decode cX10_readNumber 44 = .ok (.getfield 31, 3) := zo_180 (zi_at zh_dX10_readNumber_32_32 12 rfl) (zi_at zh_dX10_readNumber_32_32 13 rfl) (zi_at zh_dX10_readNumber_32_32 14 rfl) rfl
theorem dX10_readNumber_47 : decode cX10_readNumber 47 = .ok (.iaload, 1) := zo_46 (zi_at zh_dX10_readNumber_32_32 15 rfl)
theorem dX10_readNumber_48 : decode cX10_readNumber 48 = .ok (.iadd, 1) := zo_96 (zi_at zh_dX10_readNumber_48_48 0 rfl)
theorem dX10_readNumber_49 : decode cX10_readNumber 49 = .ok (.bipush 48, 2) := zo_16 (zi_at zh_dX10_readNumber_48_48 1 rfl) (zi_at zh_dX10_readNumber_48_48 2 rfl) rfl
theorem dX10_readNumber_51 : decode cX10_readNumber 51 = .ok (.isub, 1) := zo_100 (zi_at zh_dX10_readNumber_48_48 3 rfl)
theorem dX10_readNumber_52 : decode cX10_readNumber 52 = .ok (.istore_n 1, 1) := zo_60 (zi_at zh_dX10_readNumber_48_48 4 rfl)
theorem dX10_readNumber_53 : decode cX10_readNumber 53 = .ok (.iinc 2 1, 3) := zo_132 (zi_at zh_dX10_readNumber_48_48 5 rfl) (zi_at zh_dX10_readNumber_48_48 6 rfl) (zi_at zh_dX10_readNumber_48_48 7 rfl) rfl
theorem dX10_readNumber_56 : decode cX10_readNumber 56 = .ok (.aload_n 0, 1) := zo_42 (zi_at zh_dX10_readNumber_48_48 8 rfl)
theorem dX10_readNumber_57 : decode cX10_readNumber 57 = .ok (.dup, 1) := zo_89 (zi_at zh_dX10_readNumber_48_48 9 rfl)
theorem dX10_readNumber_58 : decode cX10_readNumber 58 = .ok (.getfield 31, 3) := zo_180 (zi_at zh_dX10_readNumber_48_48 10 rfl) (zi_at zh_dX10_readNumber_48_48 11 rfl) (zi_at zh_dX10_readNumber_48_48 12 rfl) rfl
theorem dX10_readNumber_61 : decode cX10_readNumber 61 = .ok (.iconst 1, 1) := zo_4 (zi_at zh_dX10_readNumber_48_48 13 rfl)
theorem dX10_readNumber_62 : decode cX10_readNumber 62 = .ok (.iadd, 1) := zo_96 (zi_at zh_dX10_readNumber_48_48 14 rfl)
theorem dX10_readNumber_63 : decode cX10_readNumber 63 = .ok (.putfield 31, 3) := zo_181 (zi_at zh_dX10_readNumber_48_48 15 rfl) (zi_at zh_dX10_readNumber_63_64 0 rfl) (zi_at zh_dX10_readNumber_63_64 1 rfl) rfl
theorem dX10_readNumber_66 : decode cX10_readNumber 66 = .ok (.goto (-62), 3) := zo_167 (zi_at zh_dX10_readNumber_63_64 2 rfl) (zi_at zh_dX10_readNumber_63_64 3 rfl) (zi_at zh_dX10_readNumber_63_64 4 rfl) rfl
theorem dX10_readNumber_69 : decode cX10_readNumber 69 = .ok (.aload_n 0, 1) := zo_42 (zi_at zh_dX10_readNumber_63_64 5 rfl)
theorem dX10_readNumber_70 : decode cX10_readNumber 70 = .ok (.iload_n 1, 1) := zo_27 (zi_at zh_dX10_readNumber_63_64 6 rfl)
theorem dX10_readNumber_71 : decode cX10_readNumber 71 = .ok (.invokevirtual 92, 3) := zo_182 (zi_at zh_dX10_readNumber_63_64 7 rfl) (zi_at zh_dX10_readNumber_63_64 8 rfl) (zi_at zh_dX10_readNumber_63_64 9 rfl) rfl
theorem dX10_readNumber_74 : decode cX10_readNumber 74 = .ok (.return_, 1) := zo_177 (zi_at zh_dX10_readNumber_63_64 10 rfl)
theorem dX10_goDeeper_0 : decode cX10_goDeeper 0 = .ok (.iload_n 1, 1) := zo_27 (zi_at zh_dX10_goDeeper_0_0 0 rfl)
theorem dX10_goDeeper_1 : decode cX10_goDeeper 1 = .ok (.bipush 8, 2) := zo_16 (zi_at zh_dX10_goDeeper_0_0 1 rfl) (zi_at zh_dX10_goDeeper_0_0 2 rfl) rfl
theorem dX10_goDeeper_3 : decode cX10_goDeeper 3 = .ok (.if_icmp .lt 9, 3) := zo_161 (zi_at zh_dX10_goDeeper_0_0 3 rfl) (zi_at zh_dX10_goDeeper_0_0 4 rfl) (zi_at zh_dX10_goDeeper_0_0 5 rfl) rfl
theorem dX10_goDeeper_6 : decode cX10_goDeeper 6 = .ok (.aload_n 0, 1) := zo_42 (zi_at zh_dX10_goDeeper_0_0 6 rfl)
theorem dX10_goDeeper_7 : decode cX10_goDeeper 7 = .ok (.invokevirtual 50, 3) := zo_182 (zi_at zh_dX10_goDeeper_0_0 7 rfl) (zi_at zh_dX10_goDeeper_0_0 8 rfl) (zi_at zh_dX10_goDeeper_0_0 9 rfl) rfl
theorem dX10_goDeeper_10 : decode cX10_goDeeper 10 = .ok (.iconst 0, 1) := zo_3 (zi_at zh_dX10_goDeeper_0_0 10 rfl)
theorem dX10_goDeeper_11 : decode cX10_goDeeper 11 = .ok (.ireturn, 1) := zo_172 (zi_at zh_dX10_goDeeper_0_0 11 rfl)
theorem dX10_goDeeper_12 : decode cX10_goDeeper 12 = .ok (.aload_n 0, 1) := zo_42 (zi_at zh_dX10_goDeeper_0_0 12 rfl)
theorem dX10_goDeeper_13 : decode cX10_goDeeper 13 = .ok (.dup, 1) := zo_89 (zi_at zh_dX10_goDeeper_0_0 13 rfl)
theorem dX10_goDeeper_14 : decode cX10_goDeeper 14 = .ok (.getfield 31, 3) := zo_180 (zi_at zh_dX10_goDeeper_0_0 14 rfl) (zi_at zh_dX10_goDeeper_0_0 15 rfl) (zi_at zh_dX10_goDeeper_14_16 0 rfl) rfl
theorem dX10_goDeeper_17 : decode cX10_goDeeper 17 = .ok (.iconst 1, 1) := zo_4 (zi_at zh_dX10_goDeeper_14_16 1 rfl)
theorem dX10_goDeeper_18 : decode cX10_goDeeper 18 = .ok (.iadd, 1) := zo_96 (zi_at zh_dX10_goDeeper_14_16 2 rfl)
theorem dX10_goDeeper_19 : decode cX10_goDeeper 19 = .ok (.putfield 31, 3) := zo_181 (zi_at zh_dX10_goDeeper_14_16 3 rfl) (zi_at zh_dX10_goDeeper_14_16 4 rfl) (zi_at zh_dX10_goDeeper_14_16 5 rfl) rfl
theorem dX10_goDeeper_22 : decode cX10_goDeeper 22 = .ok (.iconst 1, 1) := zo_4 (zi_at zh_dX10_goDeeper_14_16 6 rfl)
theorem dX10_goDeeper_23 : decode cX10_goDeeper 23 = .ok (.ireturn, 1) := zo_172 (zi_at zh_dX10_goDeeper_14_16 7 rfl)
theorem dX12_isOneOf_0 : decode cX12_isOneOf 0 = .ok (.iload_n 1, 1) := zo_27 (zi_at zh_dX12_isOneOf_0_0 0 rfl)
theorem dX12_isOneOf_1 : decode cX12_isOneOf 1 = .ok (.ifCond .le 16, 3) := zo_158 (zi_at zh_dX12_isOneOf_0_0 1 rfl) (zi_at zh_dX12_isOneOf_0_0 2 rfl) (zi_at zh_dX12_isOneOf_0_0 3 rfl) rfl
theorem dX12_isOneOf_4 : decode cX12_isOneOf 4 = .ok (.aload_n 0, 1) := zo_42 (zi_at zh_dX12_isOneOf_0_0 4 rfl)
theorem dX12_isOneOf_5 : decode cX12_isOneOf 5 = .ok (.iload_n 1, 1) := zo_27 (zi_at zh_dX12_isOneOf_0_0 5 rfl)
theorem dX12_isOneOf_6 : decode cX12_isOneOf 6 = .ok (.i2c, 1) := zo_146 (zi_at zh_dX12_isOneOf_0_0 6 rfl)
theorem dX12_isOneOf_7 : decode cX12_isOneOf 7 = .ok (.invokevirtual 331, 3) := zo_182 (zi_at zh_dX12_isOneOf_0_0 7 rfl) (zi_at zh_dX12_isOneOf_0_0 8 rfl) (zi_at zh_dX12_isOneOf_0_0 9 rfl) rfl
theorem dX12_isOneOf_10 : decode cX12_isOneOf 10 = .ok (.ifCond .lt 7, 3) := zo_155 (zi_at zh_dX12_isOneOf_0_0 10 rfl) (zi_at zh_dX12_isOneOf_0_0 11 rfl) (zi_at zh_dX12_isOneOf_0_0 12 rfl) rfl
theorem dX12_isOneOf_13 : decode cX12_isOneOf 13 = .ok (.iconst 1, 1) := zo_4 (zi_at zh_dX12_isOneOf_0_0 13 rfl)
theorem dX12_isOneOf_14 : decode cX12_isOneOf 14 = .ok (.goto 4, 3) := zo_167 (zi_at zh_dX12_isOneOf_0_0 14 rfl) (zi_at zh_dX12_isOneOf_0_0 15 rfl) (zi_at zh_dX12_isOneOf_14_16 0 rfl) rfl
theorem dX12_isOneOf_17 : decode cX12_isOneOf 17 = .ok (.iconst 0, 1) := zo_3 (zi_at zh_dX12_isOneOf_14_16 1 rfl)
theorem dX12_isOneOf_18 : decode cX12_isOneOf 18 = .ok (.ireturn, 1) := zo_172 (zi_at zh_dX12_isOneOf_14_16 2 rfl)
theorem hz_yX10_next_0 : yX10_next.cls ≠ "java/lang/invoke/MethodHandle" ∧ yX10_next.cls ≠ "java/lang/invoke/VarHandle" ∧ (parseMethodDescriptor yX10_next.desc).map (fun d => d.parameters.length) = some 0 := by decide +kernel
theorem hz_yX10_fail_0 : yX10_fail.cls ≠ "java/lang/invoke/MethodHandle" ∧ yX10_fail.cls ≠ "java/lang/invoke/VarHandle" ∧ (parseMethodDescriptor yX10_fail.desc).map (fun d => d.parameters.length) = some 0 := by decide +kernel
theorem hz_yX10_add_1 : yX10_add.cls ≠ "java/lang/invoke/MethodHandle" ∧ yX10_add.cls ≠ "java/lang/invoke/VarHandle" ∧ (parseMethodDescriptor yX10_add.desc).map (fun d => d.parameters.length) = some 1 := by decide +kernel
theorem hz_yX10_isDigit_1 : yX10_isDigit.cls ≠ "java/lang/invoke/MethodHandle" ∧ yX10_isDigit.cls ≠ "java/lang/invoke/VarHandle" ∧ (parseMethodDescriptor yX10_isDigit.desc).map (fun d => d.parameters.length) = some 1 := by decide +kernel

def v_nextX : List Cond := .code yX10_next cX10_next 1 (some .int) :: vA
abbrev rm_nextX : Room := { frames := 0, cells := 0, slots := 0, locals := 0 }
def w_nextX : Nat → Nat → Bool := wl [] [(2, 2)]
set_option maxHeartbeats 4000000 in
set_option maxRecDepth 100000 in
theorem q_nextX (l : Launch) (dC : Nat → ClassId) (dI : Nat → Nat → Nat) (cT : Nat → ClassId) (cf : Nat → Nat) (hC : CF cf) (ad : Nat → Nat) (E : Nat → va_E) (sz : Nat)  (hI0 : IXL cT (shC cf) (spC cf) (LC cf) ad E)  : Met l yX10_next v_nextX rm_nextX (va_Pc [.ref (ad 2)] (HWL dC dI (TYC cT) cf ad E sz)) (va_Qi (S := Nat → va_E) (fun r u => IXL cT (shC cf) (spC cf) (LC cf) ad u ∧ Kp w_nextX E u ∧ ((-2 ≤ r.toInt ∧ r.toInt ≤ 255) ∧ ((0 ≤ r.toInt → (xi (u 2) 2).toInt < (xi (E 2) 1).toInt)) ∧ (RdN E u r))) (HBL dC dI (LC cf) ad) (va_A (WL (LC cf) ad E) sz)) 0 0 (va_A (WL (LC cf) ad E) sz) := by
  obtain ⟨⟨hc0, hc1, hc2, hc3, hc4, hc5⟩, hcr⟩ := id hC
  refine Met.ofW (cc := cX10_next) (maxL := 1) (ret := (some .int)) (by decide) rfl ?_
  intro p e s m args below meth c s₁ B hml hv
  obtain ⟨hargs, hsz, hP, hK, hD0, hEV⟩ := hv
  subst hsz
  have hx := B.exec
  have hb := B.bytes
  have hr := B.returns
  have hts := atoms_spec (ws := v_nextX) B.pre
  have hown : s.vm.findClass RX10 = some m.cls := findClass_of_methodNamed B.named
  have hlocks := B.notSynchronized
  have hinX10 : ∀ w ∈ u_ws RX10 TX10 10, w ∈ v_nextX := fun w h => vA_in _ w (in_X10 w h)
  generalize hAe : va_A (WL (LC cf) ad E) s.heap.size = A at hEV ⊢
  have hA : ∀ q : Nat, s.heap.size ≤ q → A q := fun q h => by rw [← hAe]; exact Or.inr h
  have hD : va_D A (WL (LC cf) ad E) := by rw [← hAe]; exact hD0.self
  have hS : va_S A s.heap s.heap [] := va_S.rf
  have hI := hI0
  have hKp : Kp w_nextX E E := Kp.rf
  have hl := lv_entry ([.ref (ad 2)]) (n := 1) (Nat.le_of_ble_eq_true rfl)
  obtain ⟨Q, hQ⟩ : ∃ Q, Q = MQ below (va_Qi (S := Nat → va_E) (fun r u => IXL cT (shC cf) (spC cf) (LC cf) ad u ∧ Kp w_nextX E u ∧ ((-2 ≤ r.toInt ∧ r.toInt ≤ 255) ∧ ((0 ≤ r.toInt → (xi (u 2) 2).toInt < (xi (E 2) 1).toInt)) ∧ (RdN E u r))) (HBL dC dI (LC cf) ad) (A)) args s 0 0 (A) := ⟨_, rfl⟩
  rw [← hQ, show entryFrame m args 1 = _ from (congrArg (fun z => entryFrame m z 1) hargs).trans (lg_entry_eq _ _ _)]
  generalize (lg_sl ([.ref (ad 2)]) ++ List.replicate (1 - (lg_sl ([.ref (ad 2)])).length) Slot.unset).toArray = ls at hl ⊢
  have hl : lv_has ls 1 [(0, .ref (ad 2))] := hl
  obtain ⟨y1, ey1⟩ : ∃ y, xi (E 2) 2 = y := ⟨_, rfl⟩
  have fy1 : xv (E 2) 2 = .int y1 := (hI.fi 2 (mF 2 rfl) rfl (Nat.le_of_ble_eq_true rfl) rfl).trans (congrArg Value.int ey1)
  have i2 : 0 ≤ y1.toInt ∧ y1.toInt ≤ 200 := by rw [← ey1]; exact hI.iv 2 (mF 2 rfl) rfl (Nat.le_of_ble_eq_true rfl) rfl
  refine lv_aload_n hx hb dX10_next_0 rfl (lv_at hl 0 rfl) ?_
  have i3 : -1 ≤ (xi (E 2) 3).toInt ∧ (xi (E 2) 3).toInt ≤ 200 := hI0.iv 2 (mF 2 rfl) rfl (Nat.le_of_ble_eq_true rfl) rfl
  refine th_getL (ci := 11) (C := RX10) (T := TX10) (N := 10) (v := .int (xi (E 2) 3)) hx hb hts hinX10 hown hK hP hI 2 (mF 2 rfl) rfl rfl 3 (Nat.le_of_ble_eq_true rfl) (hts _ (vA_in _ _ (in_8 _ (zs4 (zs4 (zs0)))))) (fun _ h9 => h9) (th_v0L hKp hI0 2 (mF 2 rfl) rfl (Nat.le_of_ble_eq_true rfl) rfl rfl) dX10_next_1 ?_
  refine lv_iconst (v := -1) hx hb dX10_next_4 (by decide) ?_
  refine lv_icmp_eq (tgt := 11) hx hb dX10_next_5 (by decide) (fun c4 => ?_) (fun c4 => ?_)
  · --5 taken
    have t5 : (xi (E 2) 3).toInt = -1 := ti_eq c4
    have i6 : -1 ≤ (xi (E 2) 3).toInt ∧ (xi (E 2) 3).toInt ≤ -1 := iv_eqi t5 i3 (il_ (-1)) (by decide)
    have hL11 : ∀ d : Nat, ∀ (w11_2_2 : Int32) (E11_ : Nat → va_E) (H : Heap) (locs : List Loc) (ls : Array Slot), 0 ≤ w11_2_2.toInt ∧ w11_2_2.toInt ≤ 200 → NextI E E11_ → 200 - w11_2_2.toInt < (d : Int) → IXL cT (shC cf) (spC cf) (LC cf) ad E11_ → Kp w_nextX E E11_ → xv (E11_ 2) 2 = .int w11_2_2 → va_P (dC, dI) vwCl (WL (LC cf) ad E11_) H → va_S A s.heap H locs → lv_has ls 1 [(0, .ref (ad 2))] → W p l e (headSpec v_nextX rm_nextX).room s m args below meth c H locs 0 0 Q (F0 m 11 ls []) := by
      intro d
      induction d with
      | zero =>
        intro w11_2_2 E11_ H locs ls hw11_2_2 hx11_0 hx11_1 hI hKp hs11_2_2 hP hS hl
        exact absurd hx11_1 (by first | exact ms_zu hw11_2_2.2 | omega)
      | succ d ih11 =>
        intro w11_2_2 E11_ H locs ls hw11_2_2 hx11_0 hx11_1 hI hKp hs11_2_2 hP hS hl
        refine lv_aload_n hx hb dX10_next_11 rfl (lv_at hl 0 rfl) ?_
        refine th_getL (ci := 11) (C := RX10) (T := TX10) (N := 10) (v := .int w11_2_2) hx hb hts hinX10 hown hK hP hI 2 (mF 2 rfl) rfl rfl 2 (Nat.le_of_ble_eq_true rfl) (hts _ (vA_in _ _ (in_8 _ (zs4 (zs4 (zs1 (zs0))))))) (fun _ h9 => h9) hs11_2_2 dX10_next_12 ?_
        refine lv_aload_n hx hb dX10_next_15 rfl (lv_at hl 0 rfl) ?_
        have i7 : 0 ≤ (xi (E 2) 1).toInt ∧ (xi (E 2) 1).toInt ≤ 200 := hI0.iv 2 (mF 2 rfl) rfl (Nat.le_of_ble_eq_true rfl) rfl
        refine th_getL (ci := 11) (C := RX10) (T := TX10) (N := 10) (v := .int (xi (E 2) 1)) hx hb hts hinX10 hown hK hP hI 2 (mF 2 rfl) rfl rfl 1 (Nat.le_of_ble_eq_true rfl) (hts _ (vA_in _ _ (in_8 _ (zs16 (zs4 (zs0)))))) (fun _ h9 => h9) (th_v0L hKp hI0 2 (mF 2 rfl) rfl (Nat.le_of_ble_eq_true rfl) rfl rfl) dX10_next_16 ?_
        refine lv_icmp_ge (tgt := 49) hx hb dX10_next_19 (by decide) (fun c8 => ?_) (fun c8 => ?_)
        · --19 taken
          have t9 : (xi (E 2) 1).toInt ≤ w11_2_2.toInt := ti_le c8
          refine lv_aload_n hx hb dX10_next_49 rfl (lv_at hl 0 rfl) ?_
          refine th_getL (ci := 11) (C := RX10) (T := TX10) (N := 10) (v := .int w11_2_2) hx hb hts hinX10 hown hK hP hI 2 (mF 2 rfl) rfl rfl 2 (Nat.le_of_ble_eq_true rfl) (hts _ (vA_in _ _ (in_8 _ (zs4 (zs4 (zs1 (zs0))))))) (fun _ h9 => h9) hs11_2_2 dX10_next_50 ?_
          refine lv_aload_n hx hb dX10_next_53 rfl (lv_at hl 0 rfl) ?_
          refine th_getL (ci := 11) (C := RX10) (T := TX10) (N := 10) (v := .int (xi (E 2) 1)) hx hb hts hinX10 hown hK hP hI 2 (mF 2 rfl) rfl rfl 1 (Nat.le_of_ble_eq_true rfl) (hts _ (vA_in _ _ (in_8 _ (zs16 (zs4 (zs0)))))) (fun _ h9 => h9) (th_v0L hKp hI0 2 (mF 2 rfl) rfl (Nat.le_of_ble_eq_true rfl) rfl rfl) dX10_next_54 ?_
          refine lv_icmp_ge (tgt := 72) hx hb dX10_next_57 (by decide) (fun c10 => ?_) (fun c10 => ?_)
          · --57 taken
            have t11 : (xi (E 2) 1).toInt ≤ w11_2_2.toInt := ti_le c10
            refine lv_iconst (v := -1) hx hb dX10_next_72 (by decide) ?_
            rw [hQ]
            exact W.iret (v := (-1)) hx hb hr (fun t ht hW => ⟨⟨(-1), E11_, rfl, ⟨hI, hKp, ⟨(iv_w ln_m1 (by decide)), by have h8 := ln_m1; (try rw [(show xi (E11_ 2) 2 = w11_2_2 from vi_e hs11_2_2)]); (try rw [ey1]); all_goals omega, NextI.out hx11_0 (by show (xi (E 2) 3).toInt = -1; omega) (fun q9 => by obtain ⟨q8, q7⟩ := q9; have ka := tA_e hs11_2_2 (by omega); have kl := tN_e (E := E) (by omega); omega) (by have ka := tA_e hs11_2_2 (by omega); have kl := tN_e (E := E) (by omega); have z1 : (-1 : Int32).toInt = -1 := rfl; rw [if_neg (by omega)]; exact z1)⟩⟩, by show va_P (dC, dI) vwCl (WL (LC cf) ad E11_) t.heap; rw [ht]; exact hP⟩, hS.F ht⟩) hS.2.2 dX10_next_73
          · --57 not
            have t12 : w11_2_2.toInt < (xi (E 2) 1).toInt := ti_nle c10
            have i13 : 0 ≤ w11_2_2.toInt ∧ w11_2_2.toInt ≤ 199 := iv_lt_l t12 hw11_2_2 i7 (by decide)
            have i14 : 1 ≤ (xi (E 2) 1).toInt ∧ (xi (E 2) 1).toInt ≤ 200 := iv_lt_r t12 hw11_2_2 i7 (by decide)
            refine lv_aload_n hx hb dX10_next_60 rfl (lv_at hl 0 rfl) ?_
            refine th_getL (ci := 11) (C := RX10) (T := TX10) (N := 10) (v := .ref (ad 21)) hx hb hts hinX10 hown hK hP hI 2 (mF 2 rfl) rfl rfl 0 (Nat.le_of_ble_eq_true rfl) (hts _ (vA_in _ _ (in_8 _ (zs16 (zs1 (zs0)))))) (fun _ h9 => h9) (hI.fr 2 (mF 2 rfl) rfl (Nat.le_of_ble_eq_true rfl) 21 rfl) dX10_next_61 ?_
            refine lv_aload_n hx hb dX10_next_64 rfl (lv_at hl 0 rfl) ?_
            refine th_getL (ci := 11) (C := RX10) (T := TX10) (N := 10) (v := .int w11_2_2) hx hb hts hinX10 hown hK hP hI 2 (mF 2 rfl) rfl rfl 2 (Nat.le_of_ble_eq_true rfl) (hts _ (vA_in _ _ (in_8 _ (zs4 (zs4 (zs1 (zs0))))))) (fun _ h9 => h9) hs11_2_2 dX10_next_65 ?_
            have n16 : vp_in w11_2_2 200 := (iv_in (n := 200) i13 (by decide))
            refine th_ialdL hx hb hK hP hI 21 (mF 21 rfl) rfl rfl n16 dX10_next_68 (fun y15 ey15 => ?_)
            have iy15 : 0 ≤ y15.toInt ∧ y15.toInt ≤ 255 := hI.el 21 (mF 21 rfl) rfl n16 (fun _ => rfl) ey15
            have ey15 := ey15.trans (hKp.ei 21 _ rfl)
            refine lv_goto (tgt := 73) hx hb dX10_next_69 (by decide) ?_
            rw [hQ]
            exact W.iret (v := y15) hx hb hr (fun t ht hW => ⟨⟨y15, E11_, rfl, ⟨hI, hKp, ⟨(iv_w iy15 (by decide)), by (try rw [(show xi (E11_ 2) 2 = w11_2_2 from vi_e hs11_2_2)]); (try rw [ey1]); all_goals omega, NextI.out hx11_0 (by show (xi (E 2) 3).toInt = -1; omega) (fun q9 => by obtain ⟨q8, q7⟩ := q9; have ka := tA_e hs11_2_2 (by omega); have kl := tN_e (E := E) (by omega); have by15 := tT_e (E := E) hs11_2_2 ey15; omega) (by have ka := tA_e hs11_2_2 (by omega); have kl := tN_e (E := E) (by omega); have by15 := tT_e (E := E) hs11_2_2 ey15; rw [if_pos (by omega)]; omega)⟩⟩, by show va_P (dC, dI) vwCl (WL (LC cf) ad E11_) t.heap; rw [ht]; exact hP⟩, hS.F ht⟩) hS.2.2 dX10_next_73
        · --19 not
          have t17 : w11_2_2.toInt < (xi (E 2) 1).toInt := ti_nle c8
          have i18 : 0 ≤ w11_2_2.toInt ∧ w11_2_2.toInt ≤ 199 := iv_lt_l t17 hw11_2_2 i7 (by decide)
          have i19 : 1 ≤ (xi (E 2) 1).toInt ∧ (xi (E 2) 1).toInt ≤ 200 := iv_lt_r t17 hw11_2_2 i7 (by decide)
          refine lv_aload_n hx hb dX10_next_22 rfl (lv_at hl 0 rfl) ?_
          refine th_getL (ci := 11) (C := RX10) (T := TX10) (N := 10) (v := .ref (ad 21)) hx hb hts hinX10 hown hK hP hI 2 (mF 2 rfl) rfl rfl 0 (Nat.le_of_ble_eq_true rfl) (hts _ (vA_in _ _ (in_8 _ (zs16 (zs1 (zs0)))))) (fun _ h9 => h9) (hI.fr 2 (mF 2 rfl) rfl (Nat.le_of_ble_eq_true rfl) 21 rfl) dX10_next_23 ?_
          refine lv_aload_n hx hb dX10_next_26 rfl (lv_at hl 0 rfl) ?_
          refine th_getL (ci := 11) (C := RX10) (T := TX10) (N := 10) (v := .int w11_2_2) hx hb hts hinX10 hown hK hP hI 2 (mF 2 rfl) rfl rfl 2 (Nat.le_of_ble_eq_true rfl) (hts _ (vA_in _ _ (in_8 _ (zs4 (zs4 (zs1 (zs0))))))) (fun _ h9 => h9) hs11_2_2 dX10_next_27 ?_
          have n21 : vp_in w11_2_2 200 := (iv_in (n := 200) i18 (by decide))
          refine th_ialdL hx hb hK hP hI 21 (mF 21 rfl) rfl rfl n21 dX10_next_30 (fun y20 ey20 => ?_)
          have iy20 : 0 ≤ y20.toInt ∧ y20.toInt ≤ 255 := hI.el 21 (mF 21 rfl) rfl n21 (fun _ => rfl) ey20
          have ey20 := ey20.trans (hKp.ei 21 _ rfl)
          refine lv_bipush (v := 32) hx hb dX10_next_31 (by decide) ?_
          refine lv_icmp_ne (tgt := 49) hx hb dX10_next_33 (by decide) (fun c22 => ?_) (fun c22 => ?_)
          · --33 taken
            have t23 : ¬ y20.toInt = 32 := ti_ne c22
            refine lv_aload_n hx hb dX10_next_49 rfl (lv_at hl 0 rfl) ?_
            refine th_getL (ci := 11) (C := RX10) (T := TX10) (N := 10) (v := .int w11_2_2) hx hb hts hinX10 hown hK hP hI 2 (mF 2 rfl) rfl rfl 2 (Nat.le_of_ble_eq_true rfl) (hts _ (vA_in _ _ (in_8 _ (zs4 (zs4 (zs1 (zs0))))))) (fun _ h9 => h9) hs11_2_2 dX10_next_50 ?_
            refine lv_aload_n hx hb dX10_next_53 rfl (lv_at hl 0 rfl) ?_
            refine th_getL (ci := 11) (C := RX10) (T := TX10) (N := 10) (v := .int (xi (E 2) 1)) hx hb hts hinX10 hown hK hP hI 2 (mF 2 rfl) rfl rfl 1 (Nat.le_of_ble_eq_true rfl) (hts _ (vA_in _ _ (in_8 _ (zs16 (zs4 (zs0)))))) (fun _ h9 => h9) (th_v0L hKp hI0 2 (mF 2 rfl) rfl (Nat.le_of_ble_eq_true rfl) rfl rfl) dX10_next_54 ?_
            refine lv_icmp_ge (tgt := 72) hx hb dX10_next_57 (by decide) (fun c24 => ?_) (fun c24 => ?_)
            · --57 taken
              have t25 : (xi (E 2) 1).toInt ≤ w11_2_2.toInt := ti_le c24
              have i26 : 1 ≤ (xi (E 2) 1).toInt ∧ (xi (E 2) 1).toInt ≤ 199 := iv_le_l t25 i19 i18 (by decide)
              have i27 : 1 ≤ w11_2_2.toInt ∧ w11_2_2.toInt ≤ 199 := iv_le_r t25 i19 i18 (by decide)
              refine lv_iconst (v := -1) hx hb dX10_next_72 (by decide) ?_
              rw [hQ]
              exact W.iret (v := (-1)) hx hb hr (fun t ht hW => ⟨⟨(-1), E11_, rfl, ⟨hI, hKp, ⟨(iv_w ln_m1 (by decide)), by have h8 := ln_m1; (try rw [(show xi (E11_ 2) 2 = w11_2_2 from vi_e hs11_2_2)]); (try rw [ey1]); all_goals omega, NextI.out hx11_0 (by show (xi (E 2) 3).toInt = -1; omega) (fun q9 => by obtain ⟨q8, q7⟩ := q9; have ka := tA_e hs11_2_2 (by omega); have kl := tN_e (E := E) (by omega); have by20 := tT_e (E := E) hs11_2_2 ey20; omega) (by have ka := tA_e hs11_2_2 (by omega); have kl := tN_e (E := E) (by omega); have z1 : (-1 : Int32).toInt = -1 := rfl; rw [if_neg (by omega)]; exact z1)⟩⟩, by show va_P (dC, dI) vwCl (WL (LC cf) ad E11_) t.heap; rw [ht]; exact hP⟩, hS.F ht⟩) hS.2.2 dX10_next_73
            · --57 not
              have t28 : w11_2_2.toInt < (xi (E 2) 1).toInt := ti_nle c24
              refine lv_aload_n hx hb dX10_next_60 rfl (lv_at hl 0 rfl) ?_
              refine th_getL (ci := 11) (C := RX10) (T := TX10) (N := 10) (v := .ref (ad 21)) hx hb hts hinX10 hown hK hP hI 2 (mF 2 rfl) rfl rfl 0 (Nat.le_of_ble_eq_true rfl) (hts _ (vA_in _ _ (in_8 _ (zs16 (zs1 (zs0)))))) (fun _ h9 => h9) (hI.fr 2 (mF 2 rfl) rfl (Nat.le_of_ble_eq_true rfl) 21 rfl) dX10_next_61 ?_
              refine lv_aload_n hx hb dX10_next_64 rfl (lv_at hl 0 rfl) ?_
              refine th_getL (ci := 11) (C := RX10) (T := TX10) (N := 10) (v := .int w11_2_2) hx hb hts hinX10 hown hK hP hI 2 (mF 2 rfl) rfl rfl 2 (Nat.le_of_ble_eq_true rfl) (hts _ (vA_in _ _ (in_8 _ (zs4 (zs4 (zs1 (zs0))))))) (fun _ h9 => h9) hs11_2_2 dX10_next_65 ?_
              have n30 : vp_in w11_2_2 200 := (iv_in (n := 200) i18 (by decide))
              refine th_ialdL hx hb hK hP hI 21 (mF 21 rfl) rfl rfl n30 dX10_next_68 (fun y29 ey29 => ?_)
              have iy29 : 0 ≤ y29.toInt ∧ y29.toInt ≤ 255 := hI.el 21 (mF 21 rfl) rfl n30 (fun _ => rfl) ey29
              have ey29 := ey29.trans (hKp.ei 21 _ rfl)
              refine lv_goto (tgt := 73) hx hb dX10_next_69 (by decide) ?_
              rw [hQ]
              exact W.iret (v := y29) hx hb hr (fun t ht hW => ⟨⟨y29, E11_, rfl, ⟨hI, hKp, ⟨(iv_w iy29 (by decide)), by (try rw [(show xi (E11_ 2) 2 = w11_2_2 from vi_e hs11_2_2)]); (try rw [ey1]); all_goals omega, NextI.out hx11_0 (by show (xi (E 2) 3).toInt = -1; omega) (fun q9 => by obtain ⟨q8, q7⟩ := q9; have ka := tA_e hs11_2_2 (by omega); have kl := tN_e (E := E) (by omega); have by20 := tT_e (E := E) hs11_2_2 ey20; have by29 := tT_e (E := E) hs11_2_2 ey29; omega) (by have ka := tA_e hs11_2_2 (by omega); have kl := tN_e (E := E) (by omega); have by20 := tT_e (E := E) hs11_2_2 ey20; have by29 := tT_e (E := E) hs11_2_2 ey29; rw [if_pos (by omega)]; omega)⟩⟩, by show va_P (dC, dI) vwCl (WL (LC cf) ad E11_) t.heap; rw [ht]; exact hP⟩, hS.F ht⟩) hS.2.2 dX10_next_73
          · --33 not
            have t31 : y20.toInt = 32 := ti_eq c22
            have i32 : 32 ≤ y20.toInt ∧ y20.toInt ≤ 32 := iv_eqi t31 iy20 (il_ 32) (by decide)
            refine lv_aload_n hx hb dX10_next_36 rfl (lv_at hl 0 rfl) ?_
            refine lv_dup hx hb dX10_next_37 rfl ?_
            refine th_getL (ci := 11) (C := RX10) (T := TX10) (N := 10) (v := .int w11_2_2) hx hb hts hinX10 hown hK hP hI 2 (mF 2 rfl) rfl rfl 2 (Nat.le_of_ble_eq_true rfl) (hts _ (vA_in _ _ (in_8 _ (zs4 (zs4 (zs1 (zs0))))))) (fun _ h9 => h9) hs11_2_2 dX10_next_38 ?_
            refine lv_iconst (v := 1) hx hb dX10_next_41 (by decide) ?_
            refine lv_iadd hx hb dX10_next_42 ?_
            refine lv_topi (fun y33 ey33 => ?_)
            obtain ⟨ty33, iy33⟩ := ti_add (e := 1) (f := 200) i18 ln_1 ey33 (by decide)
            have ty33 : y33.toInt = w11_2_2.toInt + 1 := ty33
            have iy33 : 1 ≤ y33.toInt ∧ y33.toInt ≤ 200 := iy33
            refine th_putL (ci := 11) (C := RX10) (T := TX10) (N := 10) (v := .int y33) (ty := .int) hx hb hts hinX10 tyX10 tyX10_ok nmX10 hown hK hP (WL_D hD) hS hI 2 (mF 2 rfl) rfl rfl 2 (Nat.le_of_ble_eq_true rfl) (hts _ (vA_in _ _ (in_8 _ (zs4 (zs4 (zs1 (zs0))))))) (fun _ h9 => h9) rfl (by decide +kernel) rfl rfl (okI rfl (iv_w iy33 (by decide))) dX10_next_43 (fun H locs E34 pw35 hI hP hS => ?_)
            have hKp := hKp.pw pw35 rfl
            have k36 : AtP E11_ E34 := AtP.pw pw35.2 (vi_e hs11_2_2) (vi_e pw35.1) ty33 (by omega)
            refine lv_goto (tgt := 11) hx hb dX10_next_46 (by decide) ?_
            exact ih11 y33 E34 _ _ _ (iv_w iy33 (by decide)) (hx11_0.step k36 (by have ka := tA_e hs11_2_2 (by omega); have kl := tN_e (E := E) (by omega); omega) ((tT_e (E := E) hs11_2_2 ey20).trans (by omega))) (by omega) hI hKp pw35.1 hP hS (lv_sub hl [0] rfl)
    exact hL11 (201) y1 E _ _ _ i2 NextI.rf (by have h9 := i2; first | exact ms_bu h9.1 (by decide) | omega) hI hKp fy1 hP hS (lv_sub hl [0] rfl)
  · --5 not
    have t37 : ¬ (xi (E 2) 3).toInt = -1 := ti_ne c4
    have i38 : 0 ≤ (xi (E 2) 3).toInt ∧ (xi (E 2) 3).toInt ≤ 200 := iv_ne_l t37 i3 (il_ (-1))
    refine lv_bipush (v := -2) hx hb dX10_next_8 (by decide) ?_
    rw [hQ]
    exact W.iret (v := (-2)) hx hb hr (fun t ht hW => ⟨⟨(-2), E, rfl, ⟨hI, hKp, ⟨(iv_w ln_m2 (by decide)), by have h8 := ln_m2; (try rw [(show xi (E 2) 2 = y1 from vi_e fy1)]); (try rw [ey1]); all_goals omega, RdN.no (by show ¬ (xi (E 2) 3).toInt = -1; omega)⟩⟩, by show va_P (dC, dI) vwCl (WL (LC cf) ad E) t.heap; rw [ht]; exact hP⟩, hS.F ht⟩) hS.2.2 dX10_next_10
def v_failX : List Cond := .code yX10_fail cX10_fail 1 none :: vA
abbrev rm_failX : Room := { frames := 0, cells := 0, slots := 0, locals := 0 }
def w_failX : Nat → Nat → Bool := wl [] [(2, 3)]
set_option maxHeartbeats 4000000 in
set_option maxRecDepth 100000 in
theorem q_failX (l : Launch) (dC : Nat → ClassId) (dI : Nat → Nat → Nat) (cT : Nat → ClassId) (cf : Nat → Nat) (hC : CF cf) (ad : Nat → Nat) (E : Nat → va_E) (sz : Nat)  (hI0 : IXL cT (shC cf) (spC cf) (LC cf) ad E)  : Met l yX10_fail v_failX rm_failX (va_Pc [.ref (ad 2)] (HWL dC dI (TYC cT) cf ad E sz)) (va_Qv (S := Nat → va_E) (fun u => IXL cT (shC cf) (spC cf) (LC cf) ad u ∧ Kp w_failX E u ∧ ((RdF E u))) (HBL dC dI (LC cf) ad) (va_A (WL (LC cf) ad E) sz)) 0 0 (va_A (WL (LC cf) ad E) sz) := by
  obtain ⟨⟨hc0, hc1, hc2, hc3, hc4, hc5⟩, hcr⟩ := id hC
  refine Met.ofW (cc := cX10_fail) (maxL := 1) (ret := none) (by decide) rfl ?_
  intro p e s m args below meth c s₁ B hml hv
  obtain ⟨hargs, hsz, hP, hK, hD0, hEV⟩ := hv
  subst hsz
  have hx := B.exec
  have hb := B.bytes
  have hr := B.returns
  have hts := atoms_spec (ws := v_failX) B.pre
  have hown : s.vm.findClass RX10 = some m.cls := findClass_of_methodNamed B.named
  have hlocks := B.notSynchronized
  have hinX10 : ∀ w ∈ u_ws RX10 TX10 10, w ∈ v_failX := fun w h => vA_in _ w (in_X10 w h)
  generalize hAe : va_A (WL (LC cf) ad E) s.heap.size = A at hEV ⊢
  have hA : ∀ q : Nat, s.heap.size ≤ q → A q := fun q h => by rw [← hAe]; exact Or.inr h
  have hD : va_D A (WL (LC cf) ad E) := by rw [← hAe]; exact hD0.self
  have hS : va_S A s.heap s.heap [] := va_S.rf
  have hI := hI0
  have hKp : Kp w_failX E E := Kp.rf
  have hl := lv_entry ([.ref (ad 2)]) (n := 1) (Nat.le_of_ble_eq_true rfl)
  obtain ⟨Q, hQ⟩ : ∃ Q, Q = MQ below (va_Qv (S := Nat → va_E) (fun u => IXL cT (shC cf) (spC cf) (LC cf) ad u ∧ Kp w_failX E u ∧ ((RdF E u))) (HBL dC dI (LC cf) ad) (A)) args s 0 0 (A) := ⟨_, rfl⟩
  rw [← hQ, show entryFrame m args 1 = _ from (congrArg (fun z => entryFrame m z 1) hargs).trans (lg_entry_eq _ _ _)]
  generalize (lg_sl ([.ref (ad 2)]) ++ List.replicate (1 - (lg_sl ([.ref (ad 2)])).length) Slot.unset).toArray = ls at hl ⊢
  have hl : lv_has ls 1 [(0, .ref (ad 2))] := hl
  obtain ⟨y1, ey1⟩ : ∃ y, xi (E 2) 3 = y := ⟨_, rfl⟩
  have fy1 : xv (E 2) 3 = .int y1 := (hI.fi 2 (mF 2 rfl) rfl (Nat.le_of_ble_eq_true rfl) rfl).trans (congrArg Value.int ey1)
  have i2 : -1 ≤ y1.toInt ∧ y1.toInt ≤ 200 := by rw [← ey1]; exact hI.iv 2 (mF 2 rfl) rfl (Nat.le_of_ble_eq_true rfl) rfl
  have i3 : 0 ≤ (xi (E 2) 2).toInt ∧ (xi (E 2) 2).toInt ≤ 200 := hI0.iv 2 (mF 2 rfl) rfl (Nat.le_of_ble_eq_true rfl) rfl
  refine lv_aload_n hx hb dX10_fail_0 rfl (lv_at hl 0 rfl) ?_
  refine th_getL (ci := 11) (C := RX10) (T := TX10) (N := 10) (v := .int y1) hx hb hts hinX10 hown hK hP hI 2 (mF 2 rfl) rfl rfl 3 (Nat.le_of_ble_eq_true rfl) (hts _ (vA_in _ _ (in_8 _ (zs4 (zs4 (zs0)))))) (fun _ h9 => h9) fy1 dX10_fail_1 ?_
  refine lv_iconst (v := -1) hx hb dX10_fail_4 (by decide) ?_
  refine lv_icmp_ne (tgt := 16) hx hb dX10_fail_5 (by decide) (fun c4 => ?_) (fun c4 => ?_)
  · --5 taken
    have t5 : ¬ y1.toInt = -1 := ti_ne c4
    have i6 : 0 ≤ y1.toInt ∧ y1.toInt ≤ 200 := iv_ne_l t5 i2 (il_ (-1))
    rw [hQ]
    exact W.vret hx hb hr (fun t ht hW => ⟨⟨E, rfl, ⟨hI, hKp, RdF.no (by rw [ey1]; omega)⟩, by show va_P (dC, dI) vwCl (WL (LC cf) ad E) t.heap; rw [ht]; exact hP⟩, hS.F ht⟩) hS.2.2 dX10_fail_16
  · --5 not
    have t7 : y1.toInt = -1 := ti_eq c4
    have i8 : -1 ≤ y1.toInt ∧ y1.toInt ≤ -1 := iv_eqi t7 i2 (il_ (-1)) (by decide)
    refine lv_aload_n hx hb dX10_fail_8 rfl (lv_at hl 0 rfl) ?_
    refine lv_aload_n hx hb dX10_fail_9 rfl (lv_at hl 0 rfl) ?_
    refine th_getL (ci := 11) (C := RX10) (T := TX10) (N := 10) (v := .int (xi (E 2) 2)) hx hb hts hinX10 hown hK hP hI 2 (mF 2 rfl) rfl rfl 2 (Nat.le_of_ble_eq_true rfl) (hts _ (vA_in _ _ (in_8 _ (zs4 (zs4 (zs1 (zs0))))))) (fun _ h9 => h9) (th_v0L hKp hI0 2 (mF 2 rfl) rfl (Nat.le_of_ble_eq_true rfl) rfl rfl) dX10_fail_10 ?_
    refine th_putL (ci := 11) (C := RX10) (T := TX10) (N := 10) (v := .int (xi (E 2) 2)) (ty := .int) hx hb hts hinX10 tyX10 tyX10_ok nmX10 hown hK hP (WL_D hD) hS hI 2 (mF 2 rfl) rfl rfl 3 (Nat.le_of_ble_eq_true rfl) (hts _ (vA_in _ _ (in_8 _ (zs4 (zs4 (zs0)))))) (fun _ h9 => h9) rfl (by decide +kernel) rfl rfl (okI rfl (iv_w i3 (by decide))) dX10_fail_13 (fun H locs E9 pw10 hI hP hS => ?_)
    have hKp := hKp.pw pw10 rfl
    rw [hQ]
    exact W.vret hx hb hr (fun t ht hW => ⟨⟨E9, rfl, ⟨hI, hKp, RdF.of pw10.2 pw10.1 rfl (by omega) (by rw [ey1]; omega)⟩, by show va_P (dC, dI) vwCl (WL (LC cf) ad E9) t.heap; rw [ht]; exact hP⟩, hS.F ht⟩) hS.2.2 dX10_fail_16
def v_takeX : List Cond := .code yX10_take cX10_take 2 none :: vA
abbrev rm_takeX : Room := { frames := 1, cells := 0, slots := 0, locals := 40 }
def w_takeX : Nat → Nat → Bool := wl [] [(2, 2), (2, 3)]
set_option maxHeartbeats 4000000 in
set_option maxRecDepth 100000 in
theorem q_takeX (l : Launch) (dC : Nat → ClassId) (dI : Nat → Nat → Nat) (cT : Nat → ClassId) (cf : Nat → Nat) (hC : CF cf) (ad : Nat → Nat) (E : Nat → va_E) (sz : Nat) (a0 : Int32) (hI0 : IXL cT (shC cf) (spC cf) (LC cf) ad E) (hh0 : 0 ≤ a0.toInt ∧ a0.toInt ≤ 255) : Met l yX10_take v_takeX rm_takeX (va_Pc [.ref (ad 2), .int a0] (HWL dC dI (TYC cT) cf ad E sz)) (va_Qv (S := Nat → va_E) (fun u => IXL cT (shC cf) (spC cf) (LC cf) ad u ∧ Kp w_takeX E u ∧ ((RdC (fun t n a => clo t n a0.toInt a ()) E u))) (HBL dC dI (LC cf) ad) (va_A (WL (LC cf) ad E) sz)) 0 0 (va_A (WL (LC cf) ad E) sz) := by
  obtain ⟨⟨hc0, hc1, hc2, hc3, hc4, hc5⟩, hcr⟩ := id hC
  refine Met.ofW (cc := cX10_take) (maxL := 2) (ret := none) (by decide) rfl ?_
  intro p e s m args below meth c s₁ B hml hv
  obtain ⟨hargs, hsz, hP, hK, hD0, hEV⟩ := hv
  subst hsz
  have hx := B.exec
  have hb := B.bytes
  have hr := B.returns
  have hts := atoms_spec (ws := v_takeX) B.pre
  have hown : s.vm.findClass RX10 = some m.cls := findClass_of_methodNamed B.named
  have hlocks := B.notSynchronized
  have hinX10 : ∀ w ∈ u_ws RX10 TX10 10, w ∈ v_takeX := fun w h => vA_in _ w (in_X10 w h)
  generalize hAe : va_A (WL (LC cf) ad E) s.heap.size = A at hEV ⊢
  have hA : ∀ q : Nat, s.heap.size ≤ q → A q := fun q h => by rw [← hAe]; exact Or.inr h
  have hD : va_D A (WL (LC cf) ad E) := by rw [← hAe]; exact hD0.self
  have hS : va_S A s.heap s.heap [] := va_S.rf
  have hI := hI0
  have hKp : Kp w_takeX E E := Kp.rf
  have hl := lv_entry ([.ref (ad 2), .int a0]) (n := 2) (Nat.le_of_ble_eq_true rfl)
  obtain ⟨Q, hQ⟩ : ∃ Q, Q = MQ below (va_Qv (S := Nat → va_E) (fun u => IXL cT (shC cf) (spC cf) (LC cf) ad u ∧ Kp w_takeX E u ∧ ((RdC (fun t n a => clo t n a0.toInt a ()) E u))) (HBL dC dI (LC cf) ad) (A)) args s 0 0 (A) := ⟨_, rfl⟩
  rw [← hQ, show entryFrame m args 2 = _ from (congrArg (fun z => entryFrame m z 2) hargs).trans (lg_entry_eq _ _ _)]
  generalize (lg_sl ([.ref (ad 2), .int a0]) ++ List.replicate (2 - (lg_sl ([.ref (ad 2), .int a0])).length) Slot.unset).toArray = ls at hl ⊢
  have hl : lv_has ls 2 [(0, .ref (ad 2)), (1, .int a0)] := hl
  refine lv_aload_n hx hb dX10_take_0 rfl (lv_at hl 0 rfl) ?_
  refine th_iL (va_runV (As := []) (rest := []) ⟨hx, hb, hml, hown, hts⟩ (q_nextX l dC dI cT cf hC ad E s.heap.size hI) (cwV 0 hts (gi_V (in_8 _ (zs16 (zs4 (zs4 (zs1 (zs1 (zs1 (zs0)))))))) (in_8 _ (zs16 (zs4 (zs4 (zs4 (zs0)))))) (in_8 _ (zs16 (zs4 (zs4 (zs4 (zs1 (zs0))))))) (in_8 _ (zs4 (zs4 (zs4 (zs1 (zs1 (zs0))))))) (in_8 _ (zs16 (zs1 (zs1 (zs1 (zs0))))))) rfl rfl rfl ⟨rfl, hz_yX10_next_0⟩ ⟨Nat.le_of_ble_eq_true rfl, Nat.le_of_ble_eq_true rfl⟩) ⟨HWL_bl, va_recv hK hP (ci := 11) (q0 := posL 2 (LC cf)) rfl (hI.ob 2 (mF 2 rfl) rfl), (HWL_wi hP hK (WL_D hD) hS hA hEV)⟩ rfl rfl hl.1 rfl (lv_room (Nat.le_of_ble_eq_true rfl)) dX10_take_1 ⟨Nat.le_of_ble_eq_true rfl, Nat.le_of_ble_eq_true rfl⟩) (WL_D hD) hS hA (fun r1 E2 H locs hw hP hS => ?_)
  obtain ⟨hI, kq3, hw⟩ := hw
  have hKb := hKp
  have hKp := hKp.tr kq3 (wl_sub rfl rfl)
  obtain ⟨y4, ey4⟩ : ∃ y, xi (E2 2) 2 = y := ⟨_, rfl⟩
  have fy4 : xv (E2 2) 2 = .int y4 := (hI.fi 2 (mF 2 rfl) rfl (Nat.le_of_ble_eq_true rfl) rfl).trans (congrArg Value.int ey4)
  have i5 : 0 ≤ y4.toInt ∧ y4.toInt ≤ 200 := by rw [← ey4]; exact hI.iv 2 (mF 2 rfl) rfl (Nat.le_of_ble_eq_true rfl) rfl
  obtain ⟨f6, f7, f8⟩ := hw
  have i9 : 0 ≤ (xi (E 2) 1).toInt ∧ (xi (E 2) 1).toInt ≤ 200 := hI0.iv 2 (mF 2 rfl) rfl (Nat.le_of_ble_eq_true rfl) rfl
  try rw [(show xi (E2 2) 2 = y4 from vi_e fy4)] at f7
  refine lv_iload_n hx hb dX10_take_4 rfl (lv_at hl 1 rfl) ?_
  refine lv_icmp_ne (tgt := 21) hx hb dX10_take_5 (by decide) (fun c10 => ?_) (fun c10 => ?_)
  · --5 taken
    have t11 : ¬ r1.toInt = a0.toInt := ti_ne c10
    refine lv_aload_n hx hb dX10_take_21 rfl (lv_at hl 0 rfl) ?_
    refine th_vL (va_runV (As := []) (rest := []) ⟨hx, hb, hml, hown, hts⟩ (q_failX l dC dI cT cf hC ad E2 H.size hI) (cwV 0 hts (gi_V (in_8 _ (zs4 (zs4 (zs1 (zs1 (zs1 (zs0))))))) (in_8 _ (zs4 (zs4 (zs4 (zs0))))) (in_8 _ (zs4 (zs4 (zs4 (zs1 (zs0)))))) (in_8 _ (zs4 (zs4 (zs4 (zs1 (zs1 (zs0))))))) (in_8 _ (zs4 (zs1 (zs1 (zs1 (zs0))))))) rfl rfl rfl ⟨rfl, hz_yX10_fail_0⟩ ⟨Nat.le_of_ble_eq_true rfl, Nat.le_of_ble_eq_true rfl⟩) ⟨HWL_bl, va_recv hK hP (ci := 11) (q0 := posL 2 (LC cf)) rfl (hI.ob 2 (mF 2 rfl) rfl), (HWL_wi hP hK (WL_D hD) hS hA hEV)⟩ rfl rfl hl.1 rfl (lv_room (Nat.le_of_ble_eq_true rfl)) dX10_take_22 ⟨Nat.le_of_ble_eq_true rfl, Nat.le_of_ble_eq_true rfl⟩) (WL_D hD) hS hA (fun E13 H locs hw hP hS => ?_)
    obtain ⟨hI, kq14, hw⟩ := hw
    have hKb := hKp
    have hKp := hKp.tr kq14 (wl_sub rfl rfl)
    have f15 := hw
    rw [hQ]
    exact W.vret hx hb hr (fun t ht hW => ⟨⟨E13, rfl, ⟨hI, hKp, tkC_no f8 (by omega) f15⟩, by show va_P (dC, dI) vwCl (WL (LC cf) ad E13) t.heap; rw [ht]; exact hP⟩, hS.F ht⟩) hS.2.2 dX10_take_25
  · --5 not
    have t16 : r1.toInt = a0.toInt := ti_eq c10
    have i17 : 0 ≤ r1.toInt ∧ r1.toInt ≤ 255 := iv_eqi t16 f6 hh0 (by decide)
    refine lv_aload_n hx hb dX10_take_8 rfl (lv_at hl 0 rfl) ?_
    refine lv_dup hx hb dX10_take_9 rfl ?_
    refine th_getL (ci := 11) (C := RX10) (T := TX10) (N := 10) (v := .int y4) hx hb hts hinX10 hown hK hP hI 2 (mF 2 rfl) rfl rfl 2 (Nat.le_of_ble_eq_true rfl) (hts _ (vA_in _ _ (in_8 _ (zs4 (zs4 (zs1 (zs0))))))) (fun _ h9 => h9) fy4 dX10_take_10 ?_
    refine lv_iconst (v := 1) hx hb dX10_take_13 (by decide) ?_
    refine lv_iadd hx hb dX10_take_14 ?_
    refine lv_topi (fun y18 ey18 => ?_)
    obtain ⟨ty18, iy18⟩ := ti_add (e := 1) (f := 201) i5 ln_1 ey18 (by decide)
    have ty18 : y18.toInt = y4.toInt + 1 := ty18
    have iy18 : 1 ≤ y18.toInt ∧ y18.toInt ≤ 201 := iy18
    have i19 : 1 ≤ y18.toInt ∧ y18.toInt ≤ 200 := by omega
    refine th_putL (ci := 11) (C := RX10) (T := TX10) (N := 10) (v := .int y18) (ty := .int) hx hb hts hinX10 tyX10 tyX10_ok nmX10 hown hK hP (WL_D hD) hS hI 2 (mF 2 rfl) rfl rfl 2 (Nat.le_of_ble_eq_true rfl) (hts _ (vA_in _ _ (in_8 _ (zs4 (zs4 (zs1 (zs0))))))) (fun _ h9 => h9) rfl (by decide +kernel) rfl rfl (okI rfl (iv_w i19 (by decide))) dX10_take_15 (fun H locs E20 pw21 hI hP hS => ?_)
    have hKp := hKp.pw pw21 rfl
    have k22 : AtP E2 E20 := AtP.pw pw21.2 (vi_e fy4) (vi_e pw21.1) ty18 (by omega)
    refine lv_goto (tgt := 25) hx hb dX10_take_18 (by decide) ?_
    rw [hQ]
    exact W.vret hx hb hr (fun t ht hW => ⟨⟨E20, rfl, ⟨hI, hKp, tkC f8 (by omega) k22⟩, by show va_P (dC, dI) vwCl (WL (LC cf) ad E20) t.heap; rw [ht]; exact hP⟩, hS.F ht⟩) hS.2.2 dX10_take_25
def v_addX : List Cond := .code yX10_add cX10_add 2 none :: vA
abbrev rm_addX : Room := { frames := 0, cells := 0, slots := 0, locals := 0 }
def w_addX : Nat → Nat → Bool := wl [22] [(2, 5)]
set_option maxHeartbeats 4000000 in
set_option maxRecDepth 100000 in
theorem q_addX (l : Launch) (dC : Nat → ClassId) (dI : Nat → Nat → Nat) (cT : Nat → ClassId) (cf : Nat → Nat) (hC : CF cf) (ad : Nat → Nat) (E : Nat → va_E) (sz : Nat) (a0 : Int32) (hI0 : IXL cT (shC cf) (spC cf) (LC cf) ad E)  : Met l yX10_add v_addX rm_addX (va_Pc [.ref (ad 2), .int a0] (HWL dC dI (TYC cT) cf ad E sz)) (va_Qv (S := Nat → va_E) (fun u => IXL cT (shC cf) (spC cf) (LC cf) ad u ∧ Kp w_addX E u ∧ (((xi (E 2) 5).toInt ≤ (xi (u 2) 5).toInt) ∧ (KS E u))) (HBL dC dI (LC cf) ad) (va_A (WL (LC cf) ad E) sz)) 0 0 (va_A (WL (LC cf) ad E) sz) := by
  obtain ⟨⟨hc0, hc1, hc2, hc3, hc4, hc5⟩, hcr⟩ := id hC
  refine Met.ofW (cc := cX10_add) (maxL := 2) (ret := none) (by decide) rfl ?_
  intro p e s m args below meth c s₁ B hml hv
  obtain ⟨hargs, hsz, hP, hK, hD0, hEV⟩ := hv
  subst hsz
  have hx := B.exec
  have hb := B.bytes
  have hr := B.returns
  have hts := atoms_spec (ws := v_addX) B.pre
  have hown : s.vm.findClass RX10 = some m.cls := findClass_of_methodNamed B.named
  have hlocks := B.notSynchronized
  have hinX10 : ∀ w ∈ u_ws RX10 TX10 10, w ∈ v_addX := fun w h => vA_in _ w (in_X10 w h)
  generalize hAe : va_A (WL (LC cf) ad E) s.heap.size = A at hEV ⊢
  have hA : ∀ q : Nat, s.heap.size ≤ q → A q := fun q h => by rw [← hAe]; exact Or.inr h
  have hD : va_D A (WL (LC cf) ad E) := by rw [← hAe]; exact hD0.self
  have hS : va_S A s.heap s.heap [] := va_S.rf
  have hI := hI0
  have hKp : Kp w_addX E E := Kp.rf
  have hl := lv_entry ([.ref (ad 2), .int a0]) (n := 2) (Nat.le_of_ble_eq_true rfl)
  obtain ⟨Q, hQ⟩ : ∃ Q, Q = MQ below (va_Qv (S := Nat → va_E) (fun u => IXL cT (shC cf) (spC cf) (LC cf) ad u ∧ Kp w_addX E u ∧ (((xi (E 2) 5).toInt ≤ (xi (u 2) 5).toInt) ∧ (KS E u))) (HBL dC dI (LC cf) ad) (A)) args s 0 0 (A) := ⟨_, rfl⟩
  rw [← hQ, show entryFrame m args 2 = _ from (congrArg (fun z => entryFrame m z 2) hargs).trans (lg_entry_eq _ _ _)]
  generalize (lg_sl ([.ref (ad 2), .int a0]) ++ List.replicate (2 - (lg_sl ([.ref (ad 2), .int a0])).length) Slot.unset).toArray = ls at hl ⊢
  have hl : lv_has ls 2 [(0, .ref (ad 2)), (1, .int a0)] := hl
  obtain ⟨y1, ey1⟩ : ∃ y, xi (E 2) 5 = y := ⟨_, rfl⟩
  have fy1 : xv (E 2) 5 = .int y1 := (hI.fi 2 (mF 2 rfl) rfl (Nat.le_of_ble_eq_true rfl) rfl).trans (congrArg Value.int ey1)
  have i2 : 0 ≤ y1.toInt ∧ y1.toInt ≤ 200 := by rw [← ey1]; exact hI.iv 2 (mF 2 rfl) rfl (Nat.le_of_ble_eq_true rfl) rfl
  refine lv_aload_n hx hb dX10_add_0 rfl (lv_at hl 0 rfl) ?_
  refine th_getL (ci := 11) (C := RX10) (T := TX10) (N := 10) (v := .int y1) hx hb hts hinX10 hown hK hP hI 2 (mF 2 rfl) rfl rfl 5 (Nat.le_of_ble_eq_true rfl) (hts _ (vA_in _ _ (in_7 _ (zs16 (zs4 (zs4 (zs4 (zs1 (zs1 (zs0)))))))))) (fun _ h9 => h9) fy1 dX10_add_1 ?_
  refine lv_aload_n hx hb dX10_add_4 rfl (lv_at hl 0 rfl) ?_
  refine th_getL (ci := 11) (C := RX10) (T := TX10) (N := 10) (v := .ref (ad 22)) hx hb hts hinX10 hown hK hP hI 2 (mF 2 rfl) rfl rfl 4 (Nat.le_of_ble_eq_true rfl) (hts _ (vA_in _ _ (in_7 _ (zs16 (zs4 (zs4 (zs4 (zs1 (zs1 (zs1 (zs0))))))))))) (fun _ h9 => h9) (hI.fr 2 (mF 2 rfl) rfl (Nat.le_of_ble_eq_true rfl) 22 rfl) dX10_add_5 ?_
  refine va_alen (v := 200) hx hb hK hP (posL 22 (LC cf)) 0 (hI.ar 22 (mF 22 rfl) rfl) rfl rfl dX10_add_8 ?_
  refine lv_icmp_ge (tgt := 32) hx hb dX10_add_9 (by decide) (fun c3 => ?_) (fun c3 => ?_)
  · --9 taken
    have t4 : (200 : Int) ≤ y1.toInt := ti_le c3
    have i5 : 200 ≤ y1.toInt ∧ y1.toInt ≤ 200 := iv_le_r t4 (il_ 200) i2 (by decide)
    rw [hQ]
    exact W.vret hx hb hr (fun t ht hW => ⟨⟨E, rfl, ⟨hI, hKp, ⟨by (try rw [(show xi (E 2) 5 = y1 from vi_e fy1)]); (try rw [ey1]); all_goals omega, KS.kp hKp (fun _ => rfl) rfl rfl rfl⟩⟩, by show va_P (dC, dI) vwCl (WL (LC cf) ad E) t.heap; rw [ht]; exact hP⟩, hS.F ht⟩) hS.2.2 dX10_add_32
  · --9 not
    have t6 : y1.toInt < 200 := ti_nle c3
    have i7 : 0 ≤ y1.toInt ∧ y1.toInt ≤ 199 := iv_lt_l t6 i2 (il_ 200) (by decide)
    refine lv_aload_n hx hb dX10_add_12 rfl (lv_at hl 0 rfl) ?_
    refine th_getL (ci := 11) (C := RX10) (T := TX10) (N := 10) (v := .ref (ad 22)) hx hb hts hinX10 hown hK hP hI 2 (mF 2 rfl) rfl rfl 4 (Nat.le_of_ble_eq_true rfl) (hts _ (vA_in _ _ (in_7 _ (zs16 (zs4 (zs4 (zs4 (zs1 (zs1 (zs1 (zs0))))))))))) (fun _ h9 => h9) (hI.fr 2 (mF 2 rfl) rfl (Nat.le_of_ble_eq_true rfl) 22 rfl) dX10_add_13 ?_
    refine lv_aload_n hx hb dX10_add_16 rfl (lv_at hl 0 rfl) ?_
    refine th_getL (ci := 11) (C := RX10) (T := TX10) (N := 10) (v := .int y1) hx hb hts hinX10 hown hK hP hI 2 (mF 2 rfl) rfl rfl 5 (Nat.le_of_ble_eq_true rfl) (hts _ (vA_in _ _ (in_7 _ (zs16 (zs4 (zs4 (zs4 (zs1 (zs1 (zs0)))))))))) (fun _ h9 => h9) fy1 dX10_add_17 ?_
    refine lv_iload_n hx hb dX10_add_20 rfl (lv_at hl 1 rfl) ?_
    have n8 : vp_in y1 200 := (iv_in (n := 200) i7 (by decide))
    refine th_iastL hx hb hK hP (WL_D hD) hS hI 22 (mF 22 rfl) rfl rfl n8 (okI rfl (iv_all _)) dX10_add_21 (fun H locs E9 pw10 hI hP hS => ?_)
    have hKp := hKp.pw pw10 rfl
    refine lv_aload_n hx hb dX10_add_22 rfl (lv_at hl 0 rfl) ?_
    refine lv_dup hx hb dX10_add_23 rfl ?_
    refine th_getL (ci := 11) (C := RX10) (T := TX10) (N := 10) (v := .int y1) hx hb hts hinX10 hown hK hP hI 2 (mF 2 rfl) rfl rfl 5 (Nat.le_of_ble_eq_true rfl) (hts _ (vA_in _ _ (in_7 _ (zs16 (zs4 (zs4 (zs4 (zs1 (zs1 (zs0)))))))))) (fun _ h9 => h9) ((pw10.2 2 5 (fun q9 => absurd q9.1 (Nat.ne_of_beq_eq_false rfl))).trans fy1) dX10_add_24 ?_
    refine lv_iconst (v := 1) hx hb dX10_add_27 (by decide) ?_
    refine lv_iadd hx hb dX10_add_28 ?_
    refine lv_topi (fun y11 ey11 => ?_)
    obtain ⟨ty11, iy11⟩ := ti_add (e := 1) (f := 200) i7 ln_1 ey11 (by decide)
    have ty11 : y11.toInt = y1.toInt + 1 := ty11
    have iy11 : 1 ≤ y11.toInt ∧ y11.toInt ≤ 200 := iy11
    refine th_putL (ci := 11) (C := RX10) (T := TX10) (N := 10) (v := .int y11) (ty := .int) hx hb hts hinX10 tyX10 tyX10_ok nmX10 hown hK hP (WL_D hD) hS hI 2 (mF 2 rfl) rfl rfl 5 (Nat.le_of_ble_eq_true rfl) (hts _ (vA_in _ _ (in_7 _ (zs16 (zs4 (zs4 (zs4 (zs1 (zs1 (zs0)))))))))) (fun _ h9 => h9) rfl (by decide +kernel) rfl rfl (okI rfl (iv_w iy11 (by decide))) dX10_add_29 (fun H locs E12 pw13 hI hP hS => ?_)
    have hKp := hKp.pw pw13 rfl
    rw [hQ]
    exact W.vret hx hb hr (fun t ht hW => ⟨⟨E12, rfl, ⟨hI, hKp, ⟨by (try rw [(show xi (E12 2) 5 = y11 from vi_e pw13.1)]); (try rw [ey1]); all_goals omega, KS.kp hKp (fun _ => rfl) rfl rfl rfl⟩⟩, by show va_P (dC, dI) vwCl (WL (LC cf) ad E12) t.heap; rw [ht]; exact hP⟩, hS.F ht⟩) hS.2.2 dX10_add_32
def v_goDeeperX : List Cond := .code yX10_goDeeper cX10_goDeeper 2 (some .boolean) :: vA
abbrev rm_goDeeperX : Room := { frames := 1, cells := 0, slots := 0, locals := 40 }
def w_goDeeperX : Nat → Nat → Bool := wl [] [(2, 2), (2, 3)]
set_option maxHeartbeats 4000000 in
set_option maxRecDepth 100000 in
theorem q_goDeeperX (l : Launch) (dC : Nat → ClassId) (dI : Nat → Nat → Nat) (cT : Nat → ClassId) (cf : Nat → Nat) (hC : CF cf) (ad : Nat → Nat) (E : Nat → va_E) (sz : Nat) (a0 : Int32) (hI0 : IXL cT (shC cf) (spC cf) (LC cf) ad E) (hh0 : 0 ≤ a0.toInt ∧ a0.toInt ≤ 8) (hh1 : (xi (E 2) 2).toInt < (xi (E 2) 1).toInt) : Met l yX10_goDeeper v_goDeeperX rm_goDeeperX (va_Pc [.ref (ad 2), .int a0] (HWL dC dI (TYC cT) cf ad E sz)) (va_Qi (S := Nat → va_E) (fun r u => IXL cT (shC cf) (spC cf) (LC cf) ad u ∧ Kp w_goDeeperX E u ∧ ((r = 1 ∧ (0 ≤ a0.toInt ∧ a0.toInt ≤ 7) ∧ (AtP E u)) ∨ (r = 0 ∧ (8 ≤ a0.toInt ∧ a0.toInt ≤ 8) ∧ (RdF E u)))) (HBL dC dI (LC cf) ad) (va_A (WL (LC cf) ad E) sz)) 0 0 (va_A (WL (LC cf) ad E) sz) := by
  obtain ⟨⟨hc0, hc1, hc2, hc3, hc4, hc5⟩, hcr⟩ := id hC
  refine Met.ofW (cc := cX10_goDeeper) (maxL := 2) (ret := (some .boolean)) (by decide) rfl ?_
  intro p e s m args below meth c s₁ B hml hv
  obtain ⟨hargs, hsz, hP, hK, hD0, hEV⟩ := hv
  subst hsz
  have hx := B.exec
  have hb := B.bytes
  have hr := B.returns
  have hts := atoms_spec (ws := v_goDeeperX) B.pre
  have hown : s.vm.findClass RX10 = some m.cls := findClass_of_methodNamed B.named
  have hlocks := B.notSynchronized
  have hinX10 : ∀ w ∈ u_ws RX10 TX10 10, w ∈ v_goDeeperX := fun w h => vA_in _ w (in_X10 w h)
  generalize hAe : va_A (WL (LC cf) ad E) s.heap.size = A at hEV ⊢
  have hA : ∀ q : Nat, s.heap.size ≤ q → A q := fun q h => by rw [← hAe]; exact Or.inr h
  have hD : va_D A (WL (LC cf) ad E) := by rw [← hAe]; exact hD0.self
  have hS : va_S A s.heap s.heap [] := va_S.rf
  have hI := hI0
  have hKp : Kp w_goDeeperX E E := Kp.rf
  have hl := lv_entry ([.ref (ad 2), .int a0]) (n := 2) (Nat.le_of_ble_eq_true rfl)
  obtain ⟨Q, hQ⟩ : ∃ Q, Q = MQ below (va_Qi (S := Nat → va_E) (fun r u => IXL cT (shC cf) (spC cf) (LC cf) ad u ∧ Kp w_goDeeperX E u ∧ ((r = 1 ∧ (0 ≤ a0.toInt ∧ a0.toInt ≤ 7) ∧ (AtP E u)) ∨ (r = 0 ∧ (8 ≤ a0.toInt ∧ a0.toInt ≤ 8) ∧ (RdF E u)))) (HBL dC dI (LC cf) ad) (A)) args s 0 0 (A) := ⟨_, rfl⟩
  rw [← hQ, show entryFrame m args 2 = _ from (congrArg (fun z => entryFrame m z 2) hargs).trans (lg_entry_eq _ _ _)]
  generalize (lg_sl ([.ref (ad 2), .int a0]) ++ List.replicate (2 - (lg_sl ([.ref (ad 2), .int a0])).length) Slot.unset).toArray = ls at hl ⊢
  have hl : lv_has ls 2 [(0, .ref (ad 2)), (1, .int a0)] := hl
  obtain ⟨y1, ey1⟩ : ∃ y, xi (E 2) 2 = y := ⟨_, rfl⟩
  have fy1 : xv (E 2) 2 = .int y1 := (hI.fi 2 (mF 2 rfl) rfl (Nat.le_of_ble_eq_true rfl) rfl).trans (congrArg Value.int ey1)
  have i2 : 0 ≤ y1.toInt ∧ y1.toInt ≤ 200 := by rw [← ey1]; exact hI.iv 2 (mF 2 rfl) rfl (Nat.le_of_ble_eq_true rfl) rfl
  rw [ey1] at hh1
  have i3 : 0 ≤ (xi (E 2) 1).toInt ∧ (xi (E 2) 1).toInt ≤ 200 := hI0.iv 2 (mF 2 rfl) rfl (Nat.le_of_ble_eq_true rfl) rfl
  refine lv_iload_n hx hb dX10_goDeeper_0 rfl (lv_at hl 1 rfl) ?_
  refine lv_bipush (v := 8) hx hb dX10_goDeeper_1 (by decide) ?_
  refine lv_icmp_lt (tgt := 12) hx hb dX10_goDeeper_3 (by decide) (fun c4 => ?_) (fun c4 => ?_)
  · --3 taken
    have t5 : a0.toInt < 8 := ti_lt c4
    have i6 : 0 ≤ a0.toInt ∧ a0.toInt ≤ 7 := iv_lt_l t5 hh0 (il_ 8) (by decide)
    refine lv_aload_n hx hb dX10_goDeeper_12 rfl (lv_at hl 0 rfl) ?_
    refine lv_dup hx hb dX10_goDeeper_13 rfl ?_
    refine th_getL (ci := 11) (C := RX10) (T := TX10) (N := 10) (v := .int y1) hx hb hts hinX10 hown hK hP hI 2 (mF 2 rfl) rfl rfl 2 (Nat.le_of_ble_eq_true rfl) (hts _ (vA_in _ _ (in_8 _ (zs4 (zs4 (zs1 (zs0))))))) (fun _ h9 => h9) fy1 dX10_goDeeper_14 ?_
    refine lv_iconst (v := 1) hx hb dX10_goDeeper_17 (by decide) ?_
    refine lv_iadd hx hb dX10_goDeeper_18 ?_
    refine lv_topi (fun y7 ey7 => ?_)
    obtain ⟨ty7, iy7⟩ := ti_add (e := 1) (f := 201) i2 ln_1 ey7 (by decide)
    have ty7 : y7.toInt = y1.toInt + 1 := ty7
    have iy7 : 1 ≤ y7.toInt ∧ y7.toInt ≤ 201 := iy7
    have i8 : 1 ≤ y7.toInt ∧ y7.toInt ≤ 200 := by omega
    refine th_putL (ci := 11) (C := RX10) (T := TX10) (N := 10) (v := .int y7) (ty := .int) hx hb hts hinX10 tyX10 tyX10_ok nmX10 hown hK hP (WL_D hD) hS hI 2 (mF 2 rfl) rfl rfl 2 (Nat.le_of_ble_eq_true rfl) (hts _ (vA_in _ _ (in_8 _ (zs4 (zs4 (zs1 (zs0))))))) (fun _ h9 => h9) rfl (by decide +kernel) rfl rfl (okI rfl (iv_w i8 (by decide))) dX10_goDeeper_19 (fun H locs E9 pw10 hI hP hS => ?_)
    have hKp := hKp.pw pw10 rfl
    have k11 : AtP E E9 := AtP.pw pw10.2 (vi_e fy1) (vi_e pw10.1) ty7 (by omega)
    refine lv_iconst (v := 1) hx hb dX10_goDeeper_22 (by decide) ?_
    rw [hQ]
    exact W.zret (v := 1) hx hb hr rfl (fun t ht hW => ⟨⟨1, E9, rfl, ⟨hI, hKp, Or.inl ⟨rfl, i6, k11⟩⟩, by show va_P (dC, dI) vwCl (WL (LC cf) ad E9) t.heap; rw [ht]; exact hP⟩, hS.F ht⟩) hS.2.2 dX10_goDeeper_23
  · --3 not
    have t12 : (8 : Int) ≤ a0.toInt := ti_nlt c4
    have i13 : 8 ≤ a0.toInt ∧ a0.toInt ≤ 8 := iv_le_r t12 (il_ 8) hh0 (by decide)
    refine lv_aload_n hx hb dX10_goDeeper_6 rfl (lv_at hl 0 rfl) ?_
    refine th_vL (va_runV (As := []) (rest := []) ⟨hx, hb, hml, hown, hts⟩ (q_failX l dC dI cT cf hC ad E s.heap.size hI) (cwV 0 hts (gi_V (in_8 _ (zs4 (zs4 (zs1 (zs1 (zs1 (zs0))))))) (in_8 _ (zs4 (zs4 (zs4 (zs0))))) (in_8 _ (zs4 (zs4 (zs4 (zs1 (zs0)))))) (in_8 _ (zs4 (zs4 (zs4 (zs1 (zs1 (zs0))))))) (in_8 _ (zs4 (zs1 (zs1 (zs1 (zs0))))))) rfl rfl rfl ⟨rfl, hz_yX10_fail_0⟩ ⟨Nat.le_of_ble_eq_true rfl, Nat.le_of_ble_eq_true rfl⟩) ⟨HWL_bl, va_recv hK hP (ci := 11) (q0 := posL 2 (LC cf)) rfl (hI.ob 2 (mF 2 rfl) rfl), (HWL_wi hP hK (WL_D hD) hS hA hEV)⟩ rfl rfl hl.1 rfl (lv_room (Nat.le_of_ble_eq_true rfl)) dX10_goDeeper_7 ⟨Nat.le_of_ble_eq_true rfl, Nat.le_of_ble_eq_true rfl⟩) (WL_D hD) hS hA (fun E15 H locs hw hP hS => ?_)
    obtain ⟨hI, kq16, hw⟩ := hw
    have hKb := hKp
    have hKp := hKp.tr kq16 (wl_sub rfl rfl)
    have f17 := hw
    refine lv_iconst (v := 0) hx hb dX10_goDeeper_10 (by decide) ?_
    rw [hQ]
    exact W.zret (v := 0) hx hb hr rfl (fun t ht hW => ⟨⟨0, E15, rfl, ⟨hI, hKp, Or.inr (⟨rfl, i13, f17⟩)⟩, by show va_P (dC, dI) vwCl (WL (LC cf) ad E15) t.heap; rw [ht]; exact hP⟩, hS.F ht⟩) hS.2.2 dX10_goDeeper_11
def v_isOneOfX : List Cond := .code yX12_isOneOf cX12_isOneOf 2 (some .boolean) :: vA
abbrev rm_isOneOfX : Room := { frames := 4, cells := 0, slots := 0, locals := 160 }
set_option maxHeartbeats 4000000 in
set_option maxRecDepth 100000 in
theorem q_isOneOfX (l : Launch) (qs vs : Nat) (bs : List Int32) (a0 : Int32) (hh0 : bs.length ≤ 1000) (hh1 : ∀ b ∈ bs, 0 ≤ b.toInt ∧ b.toInt < 128) (hh2 : -2 ≤ a0.toInt ∧ a0.toInt ≤ 255) : Met l yX12_isOneOf v_isOneOfX rm_isOneOfX (va_Pc [.ref (qs), .int a0] (fun U => SS qs vs bs (fun _ => False) U U.heap)) (va_Qi (S := Unit) (fun r _ => (r = 1 ∧ (0 < a0.toInt ∧ 0 ≤ (ixF a0 bs 0).toInt)) ∨ (r = 0 ∧ (¬ (0 < a0.toInt ∧ 0 ≤ (ixF a0 bs 0).toInt)))) (fun _ _ => True) (fun _ => False)) 0 0 (fun _ => False) := by
  refine Met.ofW (cc := cX12_isOneOf) (maxL := 2) (ret := (some .boolean)) (by decide) rfl ?_
  intro p e s m args below meth c s₁ B hml hv
  obtain ⟨hargs, hSS⟩ := hv
  have hSS : SS qs vs bs (fun _ => False) s s.heap := hSS
  have hx := B.exec
  have hb := B.bytes
  have hr := B.returns
  have hts := atoms_spec (ws := v_isOneOfX) B.pre
  have hown : s.vm.findClass RX12 = some m.cls := findClass_of_methodNamed B.named
  have hlocks := B.notSynchronized
  have hS : va_S (fun _ : Nat => False) s.heap s.heap [] := va_S.rf
  have hl := lv_entry ([.ref (qs), .int a0]) (n := 2) (Nat.le_of_ble_eq_true rfl)
  obtain ⟨Q, hQ⟩ : ∃ Q, Q = MQ below (va_Qi (S := Unit) (fun r _ => (r = 1 ∧ (0 < a0.toInt ∧ 0 ≤ (ixF a0 bs 0).toInt)) ∨ (r = 0 ∧ (¬ (0 < a0.toInt ∧ 0 ≤ (ixF a0 bs 0).toInt)))) (fun _ _ => True) (fun _ => False)) args s 0 0 (fun _ => False) := ⟨_, rfl⟩
  rw [← hQ, show entryFrame m args 2 = _ from (congrArg (fun z => entryFrame m z 2) hargs).trans (lg_entry_eq _ _ _)]
  generalize (lg_sl ([.ref (qs), .int a0]) ++ List.replicate (2 - (lg_sl ([.ref (qs), .int a0])).length) Slot.unset).toArray = ls at hl ⊢
  have hl : lv_has ls 2 [(0, .ref qs), (1, .int a0)] := hl
  refine lv_iload_n hx hb dX12_isOneOf_0 rfl (lv_at hl 1 rfl) ?_
  refine lv_if_le (tgt := 17) hx hb dX12_isOneOf_1 (by decide) (fun c1 => ?_) (fun c1 => ?_)
  · --1 taken
    have t2 : a0.toInt ≤ 0 := ti_le c1
    have i3 : -2 ≤ a0.toInt ∧ a0.toInt ≤ 0 := iv_le_l t2 hh2 (il_ 0) (by decide)
    refine lv_iconst (v := 0) hx hb dX12_isOneOf_17 (by decide) ?_
    rw [hQ]
    exact W.zret (v := 0) hx hb hr rfl (fun t ht hW => ⟨⟨0, (), rfl, Or.inr (⟨rfl, fun q9 => by omega⟩), trivial⟩, hS.F ht⟩) hS.2.2 dX12_isOneOf_18
  · --1 not
    have t4 : (0 : Int) < a0.toInt := ti_nle c1
    have i5 : 1 ≤ a0.toInt ∧ a0.toInt ≤ 255 := iv_lt_r t4 (il_ 0) hh2 (by decide)
    refine lv_aload_n hx hb dX12_isOneOf_4 rfl (lv_at hl 0 rfl) ?_
    refine lv_iload_n hx hb dX12_isOneOf_5 rfl (lv_at hl 1 rfl) ?_
    refine lv_i2c hx hb dX12_isOneOf_6 rfl ?_
    refine lv_topi (fun y6 ey6 => ?_)
    refine th_pi (va_runV (As := [.int y6]) (rest := []) ⟨hx, hb, hml, hown, hts⟩ (q_indexOf l qs vs bs y6 (by exact hh0) (by exact hh1)) (cwV 1 hts (gi_V (in_8 _ (zs16 (zs16 (zs0)))) (in_8 _ (zs16 (zs16 (zs1 (zs0))))) (in_8 _ (zs16 (zs16 (zs1 (zs1 (zs0)))))) (in_0 _ (zs4 (zs4 (zs4 (zs1 (zs0)))))) (in_0 _ (zs4 (zs4 (zs1 (zs0)))))) rfl rfl rfl ⟨rfl, hz_yJ0_indexOf_0f7a4_1⟩ ⟨Nat.le_of_ble_eq_true rfl, Nat.le_of_ble_eq_true rfl⟩) ⟨fun a U g mk q => ⟨q.1, SS_c q.2⟩, va_Orecv hSS.1 hS, fun U hU hW => ⟨rfl, SS_w hU hW hS (fun _ h => h) hSS⟩⟩ rfl rfl hl.1 rfl (lv_room (Nat.le_of_ble_eq_true rfl)) dX12_isOneOf_7 ⟨Nat.le_of_ble_eq_true rfl, Nat.le_of_ble_eq_true rfl⟩) hS (fun r7 H1 locs1 hw hk1 hS => ?_)
    generalize H1 = H at hS ⊢
    generalize locs1 = locs at hS ⊢
    obtain ⟨f8, f9⟩ := hw
    refine lv_if_lt (tgt := 17) hx hb dX12_isOneOf_10 (by decide) (fun c10 => ?_) (fun c10 => ?_)
    · --10 taken
      have t11 : r7.toInt < 0 := ti_lt c10
      have i12 : -1 ≤ r7.toInt ∧ r7.toInt ≤ -1 := iv_lt_l t11 f8 (il_ 0) (by decide)
      refine lv_iconst (v := 0) hx hb dX12_isOneOf_17 (by decide) ?_
      rw [hQ]
      exact W.zret (v := 0) hx hb hr rfl (fun t ht hW => ⟨⟨0, (), rfl, Or.inr (⟨rfl, fun q9 => by have q8 := q9.2; have e9 := ey6.trans (i2c_s (x := a0) (by omega)); have f0 := f9; rw [e9] at f0; rw [← f0] at q8; omega⟩), trivial⟩, hS.F ht⟩) hS.2.2 dX12_isOneOf_18
    · --10 not
      have t13 : (0 : Int) ≤ r7.toInt := ti_nlt c10
      have i14 : 0 ≤ r7.toInt ∧ r7.toInt ≤ 1000 := iv_le_r t13 (il_ 0) f8 (by decide)
      refine lv_iconst (v := 1) hx hb dX12_isOneOf_13 (by decide) ?_
      refine lv_goto (tgt := 18) hx hb dX12_isOneOf_14 (by decide) ?_
      rw [hQ]
      exact W.zret (v := 1) hx hb hr rfl (fun t ht hW => ⟨⟨1, (), rfl, Or.inl ⟨rfl, ⟨by omega, by have e9 := ey6.trans (i2c_s (x := a0) (by omega)); have f0 := f9; rw [e9] at f0; rw [← f0]; omega⟩⟩, trivial⟩, hS.F ht⟩) hS.2.2 dX12_isOneOf_18
def v_readNumberX : List Cond := .code yX10_readNumber cX10_readNumber 3 none :: vA
abbrev rm_readNumberX : Room := { frames := 1, cells := 0, slots := 0, locals := 40 }
def w_readNumberX : Nat → Nat → Bool := wl [22] [(2, 2), (2, 5)]
set_option maxHeartbeats 4000000 in
set_option maxRecDepth 100000 in
theorem q_readNumberX (l : Launch) (dC : Nat → ClassId) (dI : Nat → Nat → Nat) (cT : Nat → ClassId) (cf : Nat → Nat) (hC : CF cf) (ad : Nat → Nat) (E : Nat → va_E) (sz : Nat)  (hI0 : IXL cT (shC cf) (spC cf) (LC cf) ad E)  : Met l yX10_readNumber v_readNumberX rm_readNumberX (va_Pc [.ref (ad 2)] (HWL dC dI (TYC cT) cf ad E sz)) (va_Qv (S := Nat → va_E) (fun u => IXL cT (shC cf) (spC cf) (LC cf) ad u ∧ Kp w_readNumberX E u ∧ (((xi (E 2) 5).toInt ≤ (xi (u 2) 5).toInt) ∧ (RdC (fun t n a => numS false t n a) E u))) (HBL dC dI (LC cf) ad) (va_A (WL (LC cf) ad E) sz)) 0 0 (va_A (WL (LC cf) ad E) sz) := by
  obtain ⟨⟨hc0, hc1, hc2, hc3, hc4, hc5⟩, hcr⟩ := id hC
  refine Met.ofW (cc := cX10_readNumber) (maxL := 3) (ret := none) (by decide) rfl ?_
  intro p e s m args below meth c s₁ B hml hv
  obtain ⟨hargs, hsz, hP, hK, hD0, hEV⟩ := hv
  subst hsz
  have hx := B.exec
  have hb := B.bytes
  have hr := B.returns
  have hts := atoms_spec (ws := v_readNumberX) B.pre
  have hown : s.vm.findClass RX10 = some m.cls := findClass_of_methodNamed B.named
  have hlocks := B.notSynchronized
  have hinX10 : ∀ w ∈ u_ws RX10 TX10 10, w ∈ v_readNumberX := fun w h => vA_in _ w (in_X10 w h)
  generalize hAe : va_A (WL (LC cf) ad E) s.heap.size = A at hEV ⊢
  have hA : ∀ q : Nat, s.heap.size ≤ q → A q := fun q h => by rw [← hAe]; exact Or.inr h
  have hD : va_D A (WL (LC cf) ad E) := by rw [← hAe]; exact hD0.self
  have hS : va_S A s.heap s.heap [] := va_S.rf
  have hI := hI0
  have hKp : Kp w_readNumberX E E := Kp.rf
  have hl := lv_entry ([.ref (ad 2)]) (n := 3) (Nat.le_of_ble_eq_true rfl)
  obtain ⟨Q, hQ⟩ : ∃ Q, Q = MQ below (va_Qv (S := Nat → va_E) (fun u => IXL cT (shC cf) (spC cf) (LC cf) ad u ∧ Kp w_readNumberX E u ∧ (((xi (E 2) 5).toInt ≤ (xi (u 2) 5).toInt) ∧ (RdC (fun t n a => numS false t n a) E u))) (HBL dC dI (LC cf) ad) (A)) args s 0 0 (A) := ⟨_, rfl⟩
  rw [← hQ, show entryFrame m args 3 = _ from (congrArg (fun z => entryFrame m z 3) hargs).trans (lg_entry_eq _ _ _)]
  generalize (lg_sl ([.ref (ad 2)]) ++ List.replicate (3 - (lg_sl ([.ref (ad 2)])).length) Slot.unset).toArray = ls at hl ⊢
  have hl : lv_has ls 3 [(0, .ref (ad 2))] := hl
  obtain ⟨y1, ey1⟩ : ∃ y, xi (E 2) 5 = y := ⟨_, rfl⟩
  have fy1 : xv (E 2) 5 = .int y1 := (hI.fi 2 (mF 2 rfl) rfl (Nat.le_of_ble_eq_true rfl) rfl).trans (congrArg Value.int ey1)
  have i2 : 0 ≤ y1.toInt ∧ y1.toInt ≤ 200 := by rw [← ey1]; exact hI.iv 2 (mF 2 rfl) rfl (Nat.le_of_ble_eq_true rfl) rfl
  obtain ⟨y3, ey3⟩ : ∃ y, xi (E 2) 2 = y := ⟨_, rfl⟩
  have fy3 : xv (E 2) 2 = .int y3 := (hI.fi 2 (mF 2 rfl) rfl (Nat.le_of_ble_eq_true rfl) rfl).trans (congrArg Value.int ey3)
  have i4 : 0 ≤ y3.toInt ∧ y3.toInt ≤ 200 := by rw [← ey3]; exact hI.iv 2 (mF 2 rfl) rfl (Nat.le_of_ble_eq_true rfl) rfl
  refine lv_iconst (v := 0) hx hb dX10_readNumber_0 (by decide) ?_
  refine lv_istore_n (lv' := [(1, .int 0), (0, .ref (ad 2))]) hx hb dX10_readNumber_1 rfl hl (by decide) rfl (fun ls hl => ?_)
  refine lv_iconst (v := 0) hx hb dX10_readNumber_2 (by decide) ?_
  refine lv_istore_n (lv' := [(2, .int 0), (1, .int 0), (0, .ref (ad 2))]) hx hb dX10_readNumber_3 rfl hl (by decide) rfl (fun ls hl => ?_)
  have hL4 : ∀ d : Nat, ∀ (w4_2_2 : Int32) (v4_2 : Int32) (v4_1 : Int32) (E4_ : Nat → va_E) (H : Heap) (locs : List Loc) (ls : Array Slot), 0 ≤ w4_2_2.toInt ∧ w4_2_2.toInt ≤ 200 → 0 ≤ v4_2.toInt ∧ v4_2.toInt ≤ 5 → NumI v4_2 E E4_ → 5 - v4_2.toInt < (d : Int) → IXL cT (shC cf) (spC cf) (LC cf) ad E4_ → Kp w_readNumberX E E4_ → xv (E4_ 2) 2 = .int w4_2_2 → xv (E4_ 2) 5 = .int y1 → va_P (dC, dI) vwCl (WL (LC cf) ad E4_) H → va_S A s.heap H locs → lv_has ls 3 [(2, .int v4_2), (1, .int v4_1), (0, .ref (ad 2))] → W p l e (headSpec v_readNumberX rm_readNumberX).room s m args below meth c H locs 0 0 Q (F0 m 4 ls []) := by
    intro d
    induction d with
    | zero =>
      intro w4_2_2 v4_2 v4_1 E4_ H locs ls hw4_2_2 hv4_2 hx4_0 hx4_1 hI hKp hs4_2_2 hs4_2_5 hP hS hl
      exact absurd hx4_1 (by first | exact ms_zu hv4_2.2 | omega)
    | succ d ih4 =>
      intro w4_2_2 v4_2 v4_1 E4_ H locs ls hw4_2_2 hv4_2 hx4_0 hx4_1 hI hKp hs4_2_2 hs4_2_5 hP hS hl
      refine lv_iload_n hx hb dX10_readNumber_4 rfl (lv_at hl 0 rfl) ?_
      refine lv_iconst (v := 5) hx hb dX10_readNumber_5 (by decide) ?_
      refine lv_icmp_ge (tgt := 69) hx hb dX10_readNumber_6 (by decide) (fun c5 => ?_) (fun c5 => ?_)
      · --6 taken
        have t6 : (5 : Int) ≤ v4_2.toInt := ti_le c5
        have i7 : 5 ≤ v4_2.toInt ∧ v4_2.toInt ≤ 5 := iv_le_r t6 (il_ 5) hv4_2 (by decide)
        refine lv_aload_n hx hb dX10_readNumber_69 rfl (lv_at hl 2 rfl) ?_
        refine lv_iload_n hx hb dX10_readNumber_70 rfl (lv_at hl 1 rfl) ?_
        refine th_vL (va_runV (As := [.int v4_1]) (rest := []) ⟨hx, hb, hml, hown, hts⟩ (q_addX l dC dI cT cf hC ad E4_ H.size v4_1 hI) (cwV 1 hts (gi_V (in_9 _ (zs4 (zs1 (zs1 (zs1 (zs0)))))) (in_9 _ (zs4 (zs4 (zs0)))) (in_9 _ (zs4 (zs4 (zs1 (zs0))))) (in_8 _ (zs4 (zs4 (zs4 (zs1 (zs1 (zs0))))))) (in_7 _ (zs16 (zs4 (zs4 (zs4 (zs1 (zs0)))))))) rfl rfl rfl ⟨rfl, hz_yX10_add_1⟩ ⟨Nat.le_of_ble_eq_true rfl, Nat.le_of_ble_eq_true rfl⟩) ⟨HWL_bl, va_recv hK hP (ci := 11) (q0 := posL 2 (LC cf)) rfl (hI.ob 2 (mF 2 rfl) rfl), (HWL_wi hP hK (WL_D hD) hS hA hEV)⟩ rfl rfl hl.1 rfl (lv_room (Nat.le_of_ble_eq_true rfl)) dX10_readNumber_71 ⟨Nat.le_of_ble_eq_true rfl, Nat.le_of_ble_eq_true rfl⟩) (WL_D hD) hS hA (fun E9 H locs hw hP hS => ?_)
        obtain ⟨hI, kq10, hw⟩ := hw
        have hKb := hKp
        have hKp := hKp.tr kq10 (wl_sub rfl rfl)
        obtain ⟨y11, ey11⟩ : ∃ y, xi (E9 2) 5 = y := ⟨_, rfl⟩
        have fy11 : xv (E9 2) 5 = .int y11 := (hI.fi 2 (mF 2 rfl) rfl (Nat.le_of_ble_eq_true rfl) rfl).trans (congrArg Value.int ey11)
        have i12 : 0 ≤ y11.toInt ∧ y11.toInt ≤ 200 := by rw [← ey11]; exact hI.iv 2 (mF 2 rfl) rfl (Nat.le_of_ble_eq_true rfl) rfl
        obtain ⟨f13, f14⟩ := hw
        try rw [(show xi (E4_ 2) 5 = y1 from vi_e hs4_2_5)] at f13
        try rw [(show xi (E9 2) 5 = y11 from vi_e fy11)] at f13
        rw [hQ]
        exact W.vret hx hb hr (fun t ht hW => ⟨⟨E9, rfl, ⟨hI, hKp, ⟨by (try rw [(show xi (E9 2) 5 = y11 from vi_e fy11)]); (try rw [ey1]); (try rw [ey3]); all_goals omega, NumI.out hx4_0 f14 (Or.inl (by omega))⟩⟩, by show va_P (dC, dI) vwCl (WL (LC cf) ad E9) t.heap; rw [ht]; exact hP⟩, hS.F ht⟩) hS.2.2 dX10_readNumber_74
      · --6 not
        have t15 : v4_2.toInt < 5 := ti_nle c5
        have i16 : 0 ≤ v4_2.toInt ∧ v4_2.toInt ≤ 4 := iv_lt_l t15 hv4_2 (il_ 5) (by decide)
        refine lv_aload_n hx hb dX10_readNumber_9 rfl (lv_at hl 2 rfl) ?_
        refine th_getL (ci := 11) (C := RX10) (T := TX10) (N := 10) (v := .int w4_2_2) hx hb hts hinX10 hown hK hP hI 2 (mF 2 rfl) rfl rfl 2 (Nat.le_of_ble_eq_true rfl) (hts _ (vA_in _ _ (in_8 _ (zs4 (zs4 (zs1 (zs0))))))) (fun _ h9 => h9) hs4_2_2 dX10_readNumber_10 ?_
        refine lv_aload_n hx hb dX10_readNumber_13 rfl (lv_at hl 2 rfl) ?_
        have i17 : 0 ≤ (xi (E 2) 1).toInt ∧ (xi (E 2) 1).toInt ≤ 200 := hI0.iv 2 (mF 2 rfl) rfl (Nat.le_of_ble_eq_true rfl) rfl
        refine th_getL (ci := 11) (C := RX10) (T := TX10) (N := 10) (v := .int (xi (E 2) 1)) hx hb hts hinX10 hown hK hP hI 2 (mF 2 rfl) rfl rfl 1 (Nat.le_of_ble_eq_true rfl) (hts _ (vA_in _ _ (in_8 _ (zs16 (zs4 (zs0)))))) (fun _ h9 => h9) (th_v0L hKp hI0 2 (mF 2 rfl) rfl (Nat.le_of_ble_eq_true rfl) rfl rfl) dX10_readNumber_14 ?_
        refine lv_icmp_ge (tgt := 69) hx hb dX10_readNumber_17 (by decide) (fun c18 => ?_) (fun c18 => ?_)
        · --17 taken
          have t19 : (xi (E 2) 1).toInt ≤ w4_2_2.toInt := ti_le c18
          refine lv_aload_n hx hb dX10_readNumber_69 rfl (lv_at hl 2 rfl) ?_
          refine lv_iload_n hx hb dX10_readNumber_70 rfl (lv_at hl 1 rfl) ?_
          refine th_vL (va_runV (As := [.int v4_1]) (rest := []) ⟨hx, hb, hml, hown, hts⟩ (q_addX l dC dI cT cf hC ad E4_ H.size v4_1 hI) (cwV 1 hts (gi_V (in_9 _ (zs4 (zs1 (zs1 (zs1 (zs0)))))) (in_9 _ (zs4 (zs4 (zs0)))) (in_9 _ (zs4 (zs4 (zs1 (zs0))))) (in_8 _ (zs4 (zs4 (zs4 (zs1 (zs1 (zs0))))))) (in_7 _ (zs16 (zs4 (zs4 (zs4 (zs1 (zs0)))))))) rfl rfl rfl ⟨rfl, hz_yX10_add_1⟩ ⟨Nat.le_of_ble_eq_true rfl, Nat.le_of_ble_eq_true rfl⟩) ⟨HWL_bl, va_recv hK hP (ci := 11) (q0 := posL 2 (LC cf)) rfl (hI.ob 2 (mF 2 rfl) rfl), (HWL_wi hP hK (WL_D hD) hS hA hEV)⟩ rfl rfl hl.1 rfl (lv_room (Nat.le_of_ble_eq_true rfl)) dX10_readNumber_71 ⟨Nat.le_of_ble_eq_true rfl, Nat.le_of_ble_eq_true rfl⟩) (WL_D hD) hS hA (fun E21 H locs hw hP hS => ?_)
          obtain ⟨hI, kq22, hw⟩ := hw
          have hKb := hKp
          have hKp := hKp.tr kq22 (wl_sub rfl rfl)
          obtain ⟨y23, ey23⟩ : ∃ y, xi (E21 2) 5 = y := ⟨_, rfl⟩
          have fy23 : xv (E21 2) 5 = .int y23 := (hI.fi 2 (mF 2 rfl) rfl (Nat.le_of_ble_eq_true rfl) rfl).trans (congrArg Value.int ey23)
          have i24 : 0 ≤ y23.toInt ∧ y23.toInt ≤ 200 := by rw [← ey23]; exact hI.iv 2 (mF 2 rfl) rfl (Nat.le_of_ble_eq_true rfl) rfl
          obtain ⟨f25, f26⟩ := hw
          try rw [(show xi (E4_ 2) 5 = y1 from vi_e hs4_2_5)] at f25
          try rw [(show xi (E21 2) 5 = y23 from vi_e fy23)] at f25
          rw [hQ]
          exact W.vret hx hb hr (fun t ht hW => ⟨⟨E21, rfl, ⟨hI, hKp, ⟨by (try rw [(show xi (E21 2) 5 = y23 from vi_e fy23)]); (try rw [ey1]); (try rw [ey3]); all_goals omega, NumI.out hx4_0 f26 (Or.inr (fun q9 => by obtain ⟨q8, q7⟩ := q9; have ka := tA_e hs4_2_2 (by omega); have kl := tN_e (E := E) (by omega); unfold dgt at q7; omega))⟩⟩, by show va_P (dC, dI) vwCl (WL (LC cf) ad E21) t.heap; rw [ht]; exact hP⟩, hS.F ht⟩) hS.2.2 dX10_readNumber_74
        · --17 not
          have t27 : w4_2_2.toInt < (xi (E 2) 1).toInt := ti_nle c18
          have i28 : 0 ≤ w4_2_2.toInt ∧ w4_2_2.toInt ≤ 199 := iv_lt_l t27 hw4_2_2 i17 (by decide)
          have i29 : 1 ≤ (xi (E 2) 1).toInt ∧ (xi (E 2) 1).toInt ≤ 200 := iv_lt_r t27 hw4_2_2 i17 (by decide)
          refine lv_aload_n hx hb dX10_readNumber_20 rfl (lv_at hl 2 rfl) ?_
          refine th_getL (ci := 11) (C := RX10) (T := TX10) (N := 10) (v := .ref (ad 21)) hx hb hts hinX10 hown hK hP hI 2 (mF 2 rfl) rfl rfl 0 (Nat.le_of_ble_eq_true rfl) (hts _ (vA_in _ _ (in_8 _ (zs16 (zs1 (zs0)))))) (fun _ h9 => h9) (hI.fr 2 (mF 2 rfl) rfl (Nat.le_of_ble_eq_true rfl) 21 rfl) dX10_readNumber_21 ?_
          refine lv_aload_n hx hb dX10_readNumber_24 rfl (lv_at hl 2 rfl) ?_
          refine th_getL (ci := 11) (C := RX10) (T := TX10) (N := 10) (v := .int w4_2_2) hx hb hts hinX10 hown hK hP hI 2 (mF 2 rfl) rfl rfl 2 (Nat.le_of_ble_eq_true rfl) (hts _ (vA_in _ _ (in_8 _ (zs4 (zs4 (zs1 (zs0))))))) (fun _ h9 => h9) hs4_2_2 dX10_readNumber_25 ?_
          have n31 : vp_in w4_2_2 200 := (iv_in (n := 200) i28 (by decide))
          refine th_ialdL hx hb hK hP hI 21 (mF 21 rfl) rfl rfl n31 dX10_readNumber_28 (fun y30 ey30 => ?_)
          have iy30 : 0 ≤ y30.toInt ∧ y30.toInt ≤ 255 := hI.el 21 (mF 21 rfl) rfl n31 (fun _ => rfl) ey30
          have ey30 := ey30.trans (hKp.ei 21 _ rfl)
          refine th_pi (va_runS (As := [.int y30]) (rest := []) ⟨hx, hb, hml, hown, hts⟩ (q_cisDigit l y30) (va_cwS 1 hts (gi_S (in_9 _ (zs4 (zs4 (zs1 (zs1 (zs1 (zs0))))))) (in_9 _ (zs4 (zs4 (zs4 (zs0))))) (in_8 _ (zs4 (zs4 (zs4 (zs1 (zs1 (zs0))))))) (in_8 _ (zs16 (zs1 (zs1 (zs0)))))) rfl rfl rfl hz_yX10_isDigit_1 ⟨Nat.le_of_ble_eq_true rfl, Nat.le_of_ble_eq_true rfl⟩) ⟨fun _ _ _ _ q => q, fun _ _ _ => ⟨rfl, trivial⟩⟩ rfl rfl hl.1 rfl (lv_room (Nat.le_of_ble_eq_true rfl)) dX10_readNumber_29 ⟨Nat.le_of_ble_eq_true rfl, Nat.le_of_ble_eq_true rfl⟩) hS (fun r32 H1 locs1 hw hk1 hS => ?_)
          have hP := ub_keep hP hk1
          generalize H1 = H at hP hS ⊢
          generalize locs1 = locs at hS ⊢
          rcases hw with hw | hw
          · -- cisDigit, case 0
            obtain ⟨rfl, f33⟩ := hw
            refine lv_if_eq (tgt := 69) hx hb dX10_readNumber_32 (by decide) (fun c34 => ?_) (fun c34 => ?_)
            · --32 taken
              exact absurd c34 (by decide)
            · --32 not
              refine lv_iload_n hx hb dX10_readNumber_35 rfl (lv_at hl 1 rfl) ?_
              refine lv_bipush (v := 10) hx hb dX10_readNumber_36 (by decide) ?_
              refine lv_imul hx hb dX10_readNumber_38 ?_
              refine lv_topi (fun y35 ey35 => ?_)
              refine lv_aload_n hx hb dX10_readNumber_39 rfl (lv_at hl 2 rfl) ?_
              refine th_getL (ci := 11) (C := RX10) (T := TX10) (N := 10) (v := .ref (ad 21)) hx hb hts hinX10 hown hK hP hI 2 (mF 2 rfl) rfl rfl 0 (Nat.le_of_ble_eq_true rfl) (hts _ (vA_in _ _ (in_8 _ (zs16 (zs1 (zs0)))))) (fun _ h9 => h9) (hI.fr 2 (mF 2 rfl) rfl (Nat.le_of_ble_eq_true rfl) 21 rfl) dX10_readNumber_40 ?_
              refine lv_aload_n hx hb dX10_readNumber_43 rfl (lv_at hl 2 rfl) ?_
              refine th_getL (ci := 11) (C := RX10) (T := TX10) (N := 10) (v := .int w4_2_2) hx hb hts hinX10 hown hK hP hI 2 (mF 2 rfl) rfl rfl 2 (Nat.le_of_ble_eq_true rfl) (hts _ (vA_in _ _ (in_8 _ (zs4 (zs4 (zs1 (zs0))))))) (fun _ h9 => h9) hs4_2_2 dX10_readNumber_44 ?_
              have n37 : vp_in w4_2_2 200 := (iv_in (n := 200) i28 (by decide))
              refine th_ialdL hx hb hK hP hI 21 (mF 21 rfl) rfl rfl n37 dX10_readNumber_47 (fun y36 ey36 => ?_)
              have iy36 : 0 ≤ y36.toInt ∧ y36.toInt ≤ 255 := hI.el 21 (mF 21 rfl) rfl n37 (fun _ => rfl) ey36
              have ey36 := ey36.trans (hKp.ei 21 _ rfl)
              refine lv_iadd hx hb dX10_readNumber_48 ?_
              refine lv_topi (fun y38 ey38 => ?_)
              refine lv_bipush (v := 48) hx hb dX10_readNumber_49 (by decide) ?_
              refine lv_isub hx hb dX10_readNumber_51 ?_
              refine lv_topi (fun y39 ey39 => ?_)
              refine lv_istore_n (lv' := [(1, .int y39), (2, .int v4_2), (0, .ref (ad 2))]) hx hb dX10_readNumber_52 rfl hl (by decide) rfl (fun ls hl => ?_)
              obtain ⟨y40, ey40⟩ : ∃ y : Int32, y = v4_2 + (1 : Int32) := ⟨_, rfl⟩
              obtain ⟨ty40, iy40⟩ := ti_add (e := 1) (f := 5) i16 ln_1 ey40 (by decide)
              have ty40 : y40.toInt = v4_2.toInt + 1 := ty40
              have iy40 : 1 ≤ y40.toInt ∧ y40.toInt ≤ 5 := iy40
              refine lv_iinc (v := y40) (lv' := [(2, .int y40), (1, .int y39), (0, .ref (ad 2))]) hx hb dX10_readNumber_53 hl (k := 1) rfl (by rw [ey40]; rfl) (by decide) rfl (fun ls hl => ?_)
              refine lv_aload_n hx hb dX10_readNumber_56 rfl (lv_at hl 2 rfl) ?_
              refine lv_dup hx hb dX10_readNumber_57 rfl ?_
              refine th_getL (ci := 11) (C := RX10) (T := TX10) (N := 10) (v := .int w4_2_2) hx hb hts hinX10 hown hK hP hI 2 (mF 2 rfl) rfl rfl 2 (Nat.le_of_ble_eq_true rfl) (hts _ (vA_in _ _ (in_8 _ (zs4 (zs4 (zs1 (zs0))))))) (fun _ h9 => h9) hs4_2_2 dX10_readNumber_58 ?_
              refine lv_iconst (v := 1) hx hb dX10_readNumber_61 (by decide) ?_
              refine lv_iadd hx hb dX10_readNumber_62 ?_
              refine lv_topi (fun y41 ey41 => ?_)
              obtain ⟨ty41, iy41⟩ := ti_add (e := 1) (f := 200) i28 ln_1 ey41 (by decide)
              have ty41 : y41.toInt = w4_2_2.toInt + 1 := ty41
              have iy41 : 1 ≤ y41.toInt ∧ y41.toInt ≤ 200 := iy41
              refine th_putL (ci := 11) (C := RX10) (T := TX10) (N := 10) (v := .int y41) (ty := .int) hx hb hts hinX10 tyX10 tyX10_ok nmX10 hown hK hP (WL_D hD) hS hI 2 (mF 2 rfl) rfl rfl 2 (Nat.le_of_ble_eq_true rfl) (hts _ (vA_in _ _ (in_8 _ (zs4 (zs4 (zs1 (zs0))))))) (fun _ h9 => h9) rfl (by decide +kernel) rfl rfl (okI rfl (iv_w iy41 (by decide))) dX10_readNumber_63 (fun H locs E42 pw43 hI hP hS => ?_)
              have hKp := hKp.pw pw43 rfl
              have k44 : AtP E4_ E42 := AtP.pw pw43.2 (vi_e hs4_2_2) (vi_e pw43.1) ty41 (by omega)
              refine lv_goto (tgt := 4) hx hb dX10_readNumber_66 (by decide) ?_
              exact ih4 y41 y40 y39 E42 _ _ _ (iv_w iy41 (by decide)) (iv_w iy40 (by decide)) (NumI.step hx4_0 k44 (by have ka := tA_e hs4_2_2 (by omega); have kl := tN_e (E := E) (by omega); omega) (by rw [tT_e (E := E) hs4_2_2 ey30]; exact ⟨by omega, by omega⟩) (by omega) ty40) (by first | exact ms_su hx4_1 ty40 (by decide) | omega) hI hKp pw43.1 ((pw43.2 2 5 (fun q9 => absurd q9.2 (Nat.ne_of_beq_eq_false rfl))).trans hs4_2_5) hP hS (lv_sub hl [0, 1, 2] rfl)
          · -- cisDigit, case 1
            obtain ⟨rfl, f45⟩ := hw
            refine lv_if_eq (tgt := 69) hx hb dX10_readNumber_32 (by decide) (fun c46 => ?_) (fun c46 => ?_)
            · --32 taken
              refine lv_aload_n hx hb dX10_readNumber_69 rfl (lv_at hl 2 rfl) ?_
              refine lv_iload_n hx hb dX10_readNumber_70 rfl (lv_at hl 1 rfl) ?_
              refine th_vL (va_runV (As := [.int v4_1]) (rest := []) ⟨hx, hb, hml, hown, hts⟩ (q_addX l dC dI cT cf hC ad E4_ H.size v4_1 hI) (cwV 1 hts (gi_V (in_9 _ (zs4 (zs1 (zs1 (zs1 (zs0)))))) (in_9 _ (zs4 (zs4 (zs0)))) (in_9 _ (zs4 (zs4 (zs1 (zs0))))) (in_8 _ (zs4 (zs4 (zs4 (zs1 (zs1 (zs0))))))) (in_7 _ (zs16 (zs4 (zs4 (zs4 (zs1 (zs0)))))))) rfl rfl rfl ⟨rfl, hz_yX10_add_1⟩ ⟨Nat.le_of_ble_eq_true rfl, Nat.le_of_ble_eq_true rfl⟩) ⟨HWL_bl, va_recv hK hP (ci := 11) (q0 := posL 2 (LC cf)) rfl (hI.ob 2 (mF 2 rfl) rfl), (HWL_wi hP hK (WL_D hD) hS hA hEV)⟩ rfl rfl hl.1 rfl (lv_room (Nat.le_of_ble_eq_true rfl)) dX10_readNumber_71 ⟨Nat.le_of_ble_eq_true rfl, Nat.le_of_ble_eq_true rfl⟩) (WL_D hD) hS hA (fun E48 H locs hw hP hS => ?_)
              obtain ⟨hI, kq49, hw⟩ := hw
              have hKb := hKp
              have hKp := hKp.tr kq49 (wl_sub rfl rfl)
              obtain ⟨y50, ey50⟩ : ∃ y, xi (E48 2) 5 = y := ⟨_, rfl⟩
              have fy50 : xv (E48 2) 5 = .int y50 := (hI.fi 2 (mF 2 rfl) rfl (Nat.le_of_ble_eq_true rfl) rfl).trans (congrArg Value.int ey50)
              have i51 : 0 ≤ y50.toInt ∧ y50.toInt ≤ 200 := by rw [← ey50]; exact hI.iv 2 (mF 2 rfl) rfl (Nat.le_of_ble_eq_true rfl) rfl
              obtain ⟨f52, f53⟩ := hw
              try rw [(show xi (E4_ 2) 5 = y1 from vi_e hs4_2_5)] at f52
              try rw [(show xi (E48 2) 5 = y50 from vi_e fy50)] at f52
              rw [hQ]
              exact W.vret hx hb hr (fun t ht hW => ⟨⟨E48, rfl, ⟨hI, hKp, ⟨by (try rw [(show xi (E48 2) 5 = y50 from vi_e fy50)]); (try rw [ey1]); (try rw [ey3]); all_goals omega, NumI.out hx4_0 f53 (Or.inr (fun q9 => by obtain ⟨q8, q7⟩ := q9; have ka := tA_e hs4_2_2 (by omega); have kl := tN_e (E := E) (by omega); have by30 := tT_e (E := E) hs4_2_2 ey30; unfold dgt at q7; omega))⟩⟩, by show va_P (dC, dI) vwCl (WL (LC cf) ad E48) t.heap; rw [ht]; exact hP⟩, hS.F ht⟩) hS.2.2 dX10_readNumber_74
            · --32 not
              exact absurd c46 (by decide)
  exact hL4 (6) y3 (0 : Int32) (0 : Int32) E _ _ _ i4 (iv_w ln_0 (by decide)) NumI.rf (by have h9 := ln_0; first | exact ms_bu h9.1 (by decide) | omega) hI hKp fy3 fy1 hP hS (lv_sub hl [0, 1, 2] rfl)
