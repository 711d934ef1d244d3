set_option maxRecDepth 100000 in
theorem zh_dX12_rules_0_0 : zc cX12_rules 0 [27, 184, 0, 70, 153, 0, 18, 42, 180, 0, 10, 180, 0, 113, 182, 0] = true := by decide +kernel
set_option maxRecDepth 100000 in
theorem zh_dX12_rules_14_16 : zc cX12_rules 16 [77, 16, 16, 161, 0, 5, 2, 172, 42, 180, 0, 19, 182, 0, 110, 2] = true := by decide +kernel
set_option maxRecDepth 100000 in
theorem zh_dX12_rules_32_32 : zc cX12_rules 32 [159, 0, 5, 2, 172, 42, 180, 0, 10, 180, 0, 113, 42, 180, 0, 19] = true := by decide +kernel
set_option maxRecDepth 100000 in
theorem zh_dX12_rules_48_48 : zc cX12_rules 48 [27, 42, 180, 0, 10, 180, 0, 55, 182, 0, 116, 182, 0, 88, 87, 42] = true := by decide +kernel
set_option maxRecDepth 100000 in
theorem zh_dX12_rules_64_64 : zc cX12_rules 64 [180, 0, 19, 3, 181, 0, 103, 42, 180, 0, 10, 180, 0, 113, 182, 0] = true := by decide +kernel
set_option maxRecDepth 100000 in
theorem zh_dX12_rules_78_80 : zc cX12_rules 80 [77, 4, 100, 172] = true := by decide +kernel
set_option maxRecDepth 100000 in
theorem zh_dX13_numberOf_0_0 : zc cX13_numberOf 0 [42, 27, 28, 29, 182, 0, 255, 54, 4, 21, 4, 2, 160, 0, 7, 17] = true := by decide +kernel
set_option maxRecDepth 100000 in
theorem zh_dX13_numberOf_15_16 : zc cX13_numberOf 16 [3, 232, 172, 42, 182, 1, 121, 42, 180, 0, 44, 16, 108, 42, 180, 0] = true := by decide +kernel
set_option maxRecDepth 100000 in
theorem zh_dX13_numberOf_30_32 : zc cX13_numberOf 32 [16, 21, 4, 46, 79, 42, 180, 0, 44, 16, 115, 42, 180, 0, 19, 21] = true := by decide +kernel
set_option maxRecDepth 100000 in
theorem zh_dX13_numberOf_47_48 : zc cX13_numberOf 48 [4, 46, 79, 42, 180, 0, 44, 16, 119, 42, 180, 0, 22, 21, 4, 46] = true := by decide +kernel
set_option maxRecDepth 100000 in
theorem zh_dX13_numberOf_64_64 : zc cX13_numberOf 64 [79, 17, 1, 244, 17, 7, 208, 42, 16, 110, 28, 29, 182, 1, 124, 184] = true := by decide +kernel
set_option maxRecDepth 100000 in
theorem zh_dX13_numberOf_79_80 : zc cX13_numberOf 80 [1, 127, 184, 1, 129, 172] = true := by decide +kernel
set_option maxRecDepth 100000 in
theorem zh_dX13_number_0_0 : zc cX13_number 0 [42, 3, 181, 0, 228, 42, 27, 182, 0, 245, 153, 0, 28, 28, 184, 0] = true := by decide +kernel
set_option maxRecDepth 100000 in
theorem zh_dX13_number_14_16 : zc cX13_number 16 [249, 153, 0, 21, 42, 29, 182, 0, 252, 153, 0, 13, 42, 27, 28, 29] = true := by decide +kernel
set_option maxRecDepth 100000 in
theorem zh_dX13_number_32_32 : zc cX13_number 32 [182, 1, 131, 167, 0, 4, 2, 172] = true := by decide +kernel
theorem dX12_rules_0 : decode cX12_rules 0 = .ok (.iload_n 1, 1) := zo_27 (zi_at zh_dX12_rules_0_0 0 rfl)
theorem dX12_rules_1 : decode cX12_rules 1 = .ok (.invokestatic 70, 3) := zo_184 (zi_at zh_dX12_rules_0_0 1 rfl) (zi_at zh_dX12_rules_0_0 2 rfl) (zi_at zh_dX12_rules_0_0 3 rfl) rfl
theorem dX12_rules_4 : decode cX12_rules 4 = .ok (.ifCond .eq 18, 3) := zo_153 (zi_at zh_dX12_rules_0_0 4 rfl) (zi_at zh_dX12_rules_0_0 5 rfl) (zi_at zh_dX12_rules_0_0 6 rfl) rfl
theorem dX12_rules_7 : decode cX12_rules 7 = .ok (.aload_n 0, 1) := zo_42 (zi_at zh_dX12_rules_0_0 7 rfl)
theorem dX12_rules_8 : decode cX12_rules 8 = .ok (.getfield 10, 3) := zo_180 (zi_at zh_dX12_rules_0_0 8 rfl) (zi_at zh_dX12_rules_0_0 9 rfl) (zi_at zh_dX12_rules_0_0 10 rfl) rfl
theorem dX12_rules_11 : decode cX12_rules 11 = .ok (.getfield 113, 3) := zo_180 (zi_at zh_dX12_rules_0_0 11 rfl) (zi_at zh_dX12_rules_0_0 12 rfl) (zi_at zh_dX12_rules_0_0 13 rfl) rfl
theorem dX12_rules_14 : decode cX12_rules 14 = .ok (.invokevirtual 77, 3) := zo_182 (zi_at zh_dX12_rules_0_0 14 rfl) (zi_at zh_dX12_rules_0_0 15 rfl) (zi_at zh_dX12_rules_14_16 0 rfl) rfl
theorem dX12_rules_17 : decode cX12_rules 17 = .ok (.bipush 16, 2) := zo_16 (zi_at zh_dX12_rules_14_16 1 rfl) (zi_at zh_dX12_rules_14_16 2 rfl) rfl
theorem dX12_rules_19 : decode cX12_rules 19 = .ok (.if_icmp .lt 5, 3) := zo_161 (zi_at zh_dX12_rules_14_16 3 rfl) (zi_at zh_dX12_rules_14_16 4 rfl) (zi_at zh_dX12_rules_14_16 5 rfl) rfl
theorem dX12_rules_22 : decode cX12_rules 22 = .ok (.iconst (-1), 1) := zo_2 (zi_at zh_dX12_rules_14_16 6 rfl)
theorem dX12_rules_23 : decode cX12_rules 23 = .ok (.ireturn, 1) := zo_172 (zi_at zh_dX12_rules_14_16 7 rfl)
theorem dX12_rules_24 : decode cX12_rules 24 = .ok (.aload_n 0, 1) := zo_42 (zi_at zh_dX12_rules_14_16 8 rfl)
theorem dX12_rules_25 : decode cX12_rules 25 = .ok (.getfield 19, 3) := zo_180 (zi_at zh_dX12_rules_14_16 9 rfl) (zi_at zh_dX12_rules_14_16 10 rfl) (zi_at zh_dX12_rules_14_16 11 rfl) rfl
theorem dX12_rules_28 : decode cX12_rules 28 = .ok (.invokevirtual 110, 3) := zo_182 (zi_at zh_dX12_rules_14_16 12 rfl) (zi_at zh_dX12_rules_14_16 13 rfl) (zi_at zh_dX12_rules_14_16 14 rfl) rfl
theorem dX12_rules_31 : decode cX12_rules 31 = .ok (.iconst (-1), 1) := zo_2 (zi_at zh_dX12_rules_14_16 15 rfl)
theorem dX12_rules_32 : decode cX12_rules 32 = .ok (.if_icmp .eq 5, 3) := zo_159 (zi_at zh_dX12_rules_32_32 0 rfl) (zi_at zh_dX12_rules_32_32 1 rfl) (zi_at zh_dX12_rules_32_32 2 rfl) rfl
theorem dX12_rules_35 : decode cX12_rules 35 = .ok (.iconst (-1), 1) := zo_2 (zi_at zh_dX12_rules_32_32 3 rfl)
theorem dX12_rules_36 : decode cX12_rules 36 = .ok (.ireturn, 1) := zo_172 (zi_at zh_dX12_rules_32_32 4 rfl)
theorem dX12_rules_37 : decode cX12_rules 37 = .ok (.aload_n 0, 1) := zo_42 (zi_at zh_dX12_rules_32_32 5 rfl)
theorem dX12_rules_38 : decode cX12_rules 38 = .ok (.getfield 10, 3) := zo_180 (zi_at zh_dX12_rules_32_32 6 rfl) (zi_at zh_dX12_rules_32_32 7 rfl) (zi_at zh_dX12_rules_32_32 8 rfl) rfl
theorem dX12_rules_41 : decode cX12_rules 41 = .ok (.getfield 113, 3) := zo_180 (zi_at zh_dX12_rules_32_32 9 rfl) (zi_at zh_dX12_rules_32_32 10 rfl) (zi_at zh_dX12_rules_32_32 11 rfl) rfl
theorem dX12_rules_44 : decode cX12_rules 44 = .ok (.aload_n 0, 1) := zo_42 (zi_at zh_dX12_rules_32_32 12 rfl)
theorem dX12_rules_45 : decode cX12_rules 45 = .ok (.getfield 19, 3) := zo_180 (zi_at zh_dX12_rules_32_32 13 rfl) (zi_at zh_dX12_rules_32_32 14 rfl) (zi_at zh_dX12_rules_32_32 15 rfl) rfl
theorem dX12_rules_48 : decode cX12_rules 48 = .ok (.iload_n 1, 1) := zo_27 (zi_at zh_dX12_rules_48_48 0 rfl)
theorem dX12_rules_49 : decode cX12_rules 49 = .ok (.aload_n 0, 1) := zo_42 (zi_at zh_dX12_rules_48_48 1 rfl)
theorem dX12_rules_50 : decode cX12_rules 50 = .ok (.getfield 10, 3) := zo_180 (zi_at zh_dX12_rules_48_48 2 rfl) (zi_at zh_dX12_rules_48_48 3 rfl) (zi_at zh_dX12_rules_48_48 4 rfl) rfl
theorem dX12_rules_53 : decode cX12_rules 53 = .ok (.getfield 55, 3) := zo_180 (zi_at zh_dX12_rules_48_48 5 rfl) (zi_at zh_dX12_rules_48_48 6 rfl) (zi_at zh_dX12_rules_48_48 7 rfl) rfl
theorem dX12_rules_56 : decode cX12_rules 56 = .ok (.invokevirtual 116, 3) := zo_182 (zi_at zh_dX12_rules_48_48 8 rfl) (zi_at zh_dX12_rules_48_48 9 rfl) (zi_at zh_dX12_rules_48_48 10 rfl) rfl
theorem dX12_rules_59 : decode cX12_rules 59 = .ok (.invokevirtual 88, 3) := zo_182 (zi_at zh_dX12_rules_48_48 11 rfl) (zi_at zh_dX12_rules_48_48 12 rfl) (zi_at zh_dX12_rules_48_48 13 rfl) rfl
theorem dX12_rules_62 : decode cX12_rules 62 = .ok (.pop, 1) := zo_87 (zi_at zh_dX12_rules_48_48 14 rfl)
theorem dX12_rules_63 : decode cX12_rules 63 = .ok (.aload_n 0, 1) := zo_42 (zi_at zh_dX12_rules_48_48 15 rfl)
theorem dX12_rules_64 : decode cX12_rules 64 = .ok (.getfield 19, 3) := zo_180 (zi_at zh_dX12_rules_64_64 0 rfl) (zi_at zh_dX12_rules_64_64 1 rfl) (zi_at zh_dX12_rules_64_64 2 rfl) rfl
theorem dX12_rules_67 : decode cX12_rules 67 = .ok (.iconst 0, 1) := zo_3 (zi_at zh_dX12_rules_64_64 3 rfl)
theorem dX12_rules_68 : decode cX12_rules 68 = .ok (.putfield 103, 3) := zo_181 (zi_at zh_dX12_rules_64_64 4 rfl) (zi_at zh_dX12_rules_64_64 5 rfl) (zi_at zh_dX12_rules_64_64 6 rfl) rfl
theorem dX12_rules_71 : decode cX12_rules 71 = .ok (.aload_n 0, 1) := zo_42 (zi_at zh_dX12_rules_64_64 7 rfl)
theorem dX12_rules_72 : decode cX12_rules 72 = .ok (.getfield 10, 3) := zo_180 (zi_at zh_dX12_rules_64_64 8 rfl) (zi_at zh_dX12_rules_64_64 9 rfl) (zi_at zh_dX12_rules_64_64 10 rfl) rfl
theorem dX12_rules_75 : decode cX12_rules 75 = .ok (.getfield 113, 3) := zo_180 (zi_at zh_dX12_rules_64_64 11 rfl) (zi_at zh_dX12_rules_64_64 12 rfl) (zi_at zh_dX12_rules_64_64 13 rfl) rfl
theorem dX12_rules_78 : decode cX12_rules 78 = .ok (.invokevirtual 77, 3) := zo_182 (zi_at zh_dX12_rules_64_64 14 rfl) (zi_at zh_dX12_rules_64_64 15 rfl) (zi_at zh_dX12_rules_78_80 0 rfl) rfl
theorem dX12_rules_81 : decode cX12_rules 81 = .ok (.iconst 1, 1) := zo_4 (zi_at zh_dX12_rules_78_80 1 rfl)
theorem dX12_rules_82 : decode cX12_rules 82 = .ok (.isub, 1) := zo_100 (zi_at zh_dX12_rules_78_80 2 rfl)
theorem dX12_rules_83 : decode cX12_rules 83 = .ok (.ireturn, 1) := zo_172 (zi_at zh_dX12_rules_78_80 3 rfl)
theorem dX13_numberOf_0 : decode cX13_numberOf 0 = .ok (.aload_n 0, 1) := zo_42 (zi_at zh_dX13_numberOf_0_0 0 rfl)
theorem dX13_numberOf_1 : decode cX13_numberOf 1 = .ok (.iload_n 1, 1) := zo_27 (zi_at zh_dX13_numberOf_0_0 1 rfl)
theorem dX13_numberOf_2 : decode cX13_numberOf 2 = .ok (.iload_n 2, 1) := zo_28 (zi_at zh_dX13_numberOf_0_0 2 rfl)
theorem dX13_numberOf_3 : decode cX13_numberOf 3 = .ok (.iload_n 3, 1) := zo_29 (zi_at zh_dX13_numberOf_0_0 3 rfl)
theorem dX13_numberOf_4 : decode cX13_numberOf 4 = .ok (.invokevirtual 255, 3) := zo_182 (zi_at zh_dX13_numberOf_0_0 4 rfl) (zi_at zh_dX13_numberOf_0_0 5 rfl) (zi_at zh_dX13_numberOf_0_0 6 rfl) rfl
theorem dX13_numberOf_7 : decode cX13_numberOf 7 = .ok (.istore 4, 2) := zo_54 (zi_at zh_dX13_numberOf_0_0 7 rfl) (zi_at zh_dX13_numberOf_0_0 8 rfl)
theorem dX13_numberOf_9 : decode cX13_numberOf 9 = .ok (.iload 4, 2) := zo_21 (zi_at zh_dX13_numberOf_0_0 9 rfl) (zi_at zh_dX13_numberOf_0_0 10 rfl)
theorem dX13_numberOf_11 : decode cX13_numberOf 11 = .ok (.iconst (-1), 1) := zo_2 (zi_at zh_dX13_numberOf_0_0 11 rfl)
theorem dX13_numberOf_12 : decode cX13_numberOf 12 = .ok (.if_icmp .ne 7, 3) := zo_160 (zi_at zh_dX13_numberOf_0_0 12 rfl) (zi_at zh_dX13_numberOf_0_0 13 rfl) (zi_at zh_dX13_numberOf_0_0 14 rfl) rfl
theorem dX13_numberOf_15 : decode cX13_numberOf 15 = .ok (.sipush 1000, 3) := zo_17 (zi_at zh_dX13_numberOf_0_0 15 rfl) (zi_at zh_dX13_numberOf_15_16 0 rfl) (zi_at zh_dX13_numberOf_15_16 1 rfl) rfl
theorem dX13_numberOf_18 : decode cX13_numberOf 18 = .ok (.ireturn, 1) := zo_172 (zi_at zh_dX13_numberOf_15_16 2 rfl)
theorem dX13_numberOf_19 : decode cX13_numberOf 19 = .ok (.aload_n 0, 1) := zo_42 (zi_at zh_dX13_numberOf_15_16 3 rfl)
theorem dX13_numberOf_20 : decode cX13_numberOf 20 = .ok (.invokevirtual 377, 3) := zo_182 (zi_at zh_dX13_numberOf_15_16 4 rfl) (zi_at zh_dX13_numberOf_15_16 5 rfl) (zi_at zh_dX13_numberOf_15_16 6 rfl) rfl
theorem dX13_numberOf_23 : decode cX13_numberOf 23 = .ok (.aload_n 0, 1) := zo_42 (zi_at zh_dX13_numberOf_15_16 7 rfl)
theorem dX13_numberOf_24 : decode cX13_numberOf 24 = .ok (.getfield 44, 3) := zo_180 (zi_at zh_dX13_numberOf_15_16 8 rfl) (zi_at zh_dX13_numberOf_15_16 9 rfl) (zi_at zh_dX13_numberOf_15_16 10 rfl) rfl
theorem dX13_numberOf_27 : decode cX13_numberOf 27 = .ok (.bipush 108, 2) := zo_16 (zi_at zh_dX13_numberOf_15_16 11 rfl) (zi_at zh_dX13_numberOf_15_16 12 rfl) rfl
theorem dX13_numberOf_29 : decode cX13_numberOf 29 = .ok (.aload_n 0, 1) := zo_42 (zi_at zh_dX13_numberOf_15_16 13 rfl)
theorem dX13_numberOf_30 : decode cX13_numberOf 30 = .ok (.getfield 16, 3) := zo_180 (zi_at zh_dX13_numberOf_15_16 14 rfl) (zi_at zh_dX13_numberOf_15_16 15 rfl) (zi_at zh_dX13_numberOf_30_32 0 rfl) rfl
theorem dX13_numberOf_33 : decode cX13_numberOf 33 = .ok (.iload 4, 2) := zo_21 (zi_at zh_dX13_numberOf_30_32 1 rfl) (zi_at zh_dX13_numberOf_30_32 2 rfl)
theorem dX13_numberOf_35 : decode cX13_numberOf 35 = .ok (.iaload, 1) := zo_46 (zi_at zh_dX13_numberOf_30_32 3 rfl)
theorem dX13_numberOf_36 : decode cX13_numberOf 36 = .ok (.iastore, 1) := zo_79 (zi_at zh_dX13_numberOf_30_32 4 rfl)
theorem dX13_numberOf_37 : decode cX13_numberOf 37 = .ok (.aload_n 0, 1) := zo_42 (zi_at zh_dX13_numberOf_30_32 5 rfl)
theorem dX13_numberOf_38 : decode cX13_numberOf 38 = .ok (.getfield 44, 3) := zo_180 (zi_at zh_dX13_numberOf_30_32 6 rfl) (zi_at zh_dX13_numberOf_30_32 7 rfl) (zi_at zh_dX13_numberOf_30_32 8 rfl) rfl
theorem dX13_numberOf_41 : decode cX13_numberOf 41 = .ok (.bipush 115, 2) := zo_16 (zi_at zh_dX13_numberOf_30_32 9 rfl) (zi_at zh_dX13_numberOf_30_32 10 rfl) rfl
theorem dX13_numberOf_43 : decode cX13_numberOf 43 = .ok (.aload_n 0, 1) := zo_42 (zi_at zh_dX13_numberOf_30_32 11 rfl)
theorem dX13_numberOf_44 : decode cX13_numberOf 44 = .ok (.getfield 19, 3) := zo_180 (zi_at zh_dX13_numberOf_30_32 12 rfl) (zi_at zh_dX13_numberOf_30_32 13 rfl) (zi_at zh_dX13_numberOf_30_32 14 rfl) rfl
theorem dX13_numberOf_47 : decode cX13_numberOf 47 = .ok (.iload 4, 2) := zo_21 (zi_at zh_dX13_numberOf_30_32 15 rfl) (zi_at zh_dX13_numberOf_47_48 0 rfl)
theorem dX13_numberOf_49 : decode cX13_numberOf 49 = .ok (.iaload, 1) := zo_46 (zi_at zh_dX13_numberOf_47_48 1 rfl)
theorem dX13_numberOf_50 : decode cX13_numberOf 50 = .ok (.iastore, 1) := zo_79 (zi_at zh_dX13_numberOf_47_48 2 rfl)
theorem dX13_numberOf_51 : decode cX13_numberOf 51 = .ok (.aload_n 0, 1) := zo_42 (zi_at zh_dX13_numberOf_47_48 3 rfl)
theorem dX13_numberOf_52 : decode cX13_numberOf 52 = .ok (.getfield 44, 3) := zo_180 (zi_at zh_dX13_numberOf_47_48 4 rfl) (zi_at zh_dX13_numberOf_47_48 5 rfl) (zi_at zh_dX13_numberOf_47_48 6 rfl) rfl
theorem dX13_numberOf_55 : decode cX13_numberOf 55 = .ok (.bipush 119, 2) := zo_16 (zi_at zh_dX13_numberOf_47_48 7 rfl) (zi_at zh_dX13_numberOf_47_48 8 rfl) rfl
theorem dX13_numberOf_57 : decode cX13_numberOf 57 = .ok (.aload_n 0, 1) := zo_42 (zi_at zh_dX13_numberOf_47_48 9 rfl)
theorem dX13_numberOf_58 : decode cX13_numberOf 58 = .ok (.getfield 22, 3) := zo_180 (zi_at zh_dX13_numberOf_47_48 10 rfl) (zi_at zh_dX13_numberOf_47_48 11 rfl) (zi_at zh_dX13_numberOf_47_48 12 rfl) rfl
theorem dX13_numberOf_61 : decode cX13_numberOf 61 = .ok (.iload 4, 2) := zo_21 (zi_at zh_dX13_numberOf_47_48 13 rfl) (zi_at zh_dX13_numberOf_47_48 14 rfl)
theorem dX13_numberOf_63 : decode cX13_numberOf 63 = .ok (.iaload, 1) := zo_46 (zi_at zh_dX13_numberOf_47_48 15 rfl)
theorem dX13_numberOf_64 : decode cX13_numberOf 64 = .ok (.iastore, 1) := zo_79 (zi_at zh_dX13_numberOf_64_64 0 rfl)
theorem dX13_numberOf_65 : decode cX13_numberOf 65 = .ok (.sipush 500, 3) := zo_17 (zi_at zh_dX13_numberOf_64_64 1 rfl) (zi_at zh_dX13_numberOf_64_64 2 rfl) (zi_at zh_dX13_numberOf_64_64 3 rfl) rfl
theorem dX13_numberOf_68 : decode cX13_numberOf 68 = .ok (.sipush 2000, 3) := zo_17 (zi_at zh_dX13_numberOf_64_64 4 rfl) (zi_at zh_dX13_numberOf_64_64 5 rfl) (zi_at zh_dX13_numberOf_64_64 6 rfl) rfl
theorem dX13_numberOf_71 : decode cX13_numberOf 71 = .ok (.aload_n 0, 1) := zo_42 (zi_at zh_dX13_numberOf_64_64 7 rfl)
theorem dX13_numberOf_72 : decode cX13_numberOf 72 = .ok (.bipush 110, 2) := zo_16 (zi_at zh_dX13_numberOf_64_64 8 rfl) (zi_at zh_dX13_numberOf_64_64 9 rfl) rfl
theorem dX13_numberOf_74 : decode cX13_numberOf 74 = .ok (.iload_n 2, 1) := zo_28 (zi_at zh_dX13_numberOf_64_64 10 rfl)
theorem dX13_numberOf_75 : decode cX13_numberOf 75 = .ok (.iload_n 3, 1) := zo_29 (zi_at zh_dX13_numberOf_64_64 11 rfl)
theorem dX13_numberOf_76 : decode cX13_numberOf 76 = .ok (.invokevirtual 380, 3) := zo_182 (zi_at zh_dX13_numberOf_64_64 12 rfl) (zi_at zh_dX13_numberOf_64_64 13 rfl) (zi_at zh_dX13_numberOf_64_64 14 rfl) rfl
theorem dX13_numberOf_79 : decode cX13_numberOf 79 = .ok (.invokestatic 383, 3) := zo_184 (zi_at zh_dX13_numberOf_64_64 15 rfl) (zi_at zh_dX13_numberOf_79_80 0 rfl) (zi_at zh_dX13_numberOf_79_80 1 rfl) rfl
theorem dX13_numberOf_82 : decode cX13_numberOf 82 = .ok (.invokestatic 385, 3) := zo_184 (zi_at zh_dX13_numberOf_79_80 2 rfl) (zi_at zh_dX13_numberOf_79_80 3 rfl) (zi_at zh_dX13_numberOf_79_80 4 rfl) rfl
theorem dX13_numberOf_85 : decode cX13_numberOf 85 = .ok (.ireturn, 1) := zo_172 (zi_at zh_dX13_numberOf_79_80 5 rfl)
theorem dX13_number_0 : decode cX13_number 0 = .ok (.aload_n 0, 1) := zo_42 (zi_at zh_dX13_number_0_0 0 rfl)
theorem dX13_number_1 : decode cX13_number 1 = .ok (.iconst 0, 1) := zo_3 (zi_at zh_dX13_number_0_0 1 rfl)
theorem dX13_number_2 : decode cX13_number 2 = .ok (.putfield 228, 3) := zo_181 (zi_at zh_dX13_number_0_0 2 rfl) (zi_at zh_dX13_number_0_0 3 rfl) (zi_at zh_dX13_number_0_0 4 rfl) rfl
theorem dX13_number_5 : decode cX13_number 5 = .ok (.aload_n 0, 1) := zo_42 (zi_at zh_dX13_number_0_0 5 rfl)
theorem dX13_number_6 : decode cX13_number 6 = .ok (.iload_n 1, 1) := zo_27 (zi_at zh_dX13_number_0_0 6 rfl)
theorem dX13_number_7 : decode cX13_number 7 = .ok (.invokevirtual 245, 3) := zo_182 (zi_at zh_dX13_number_0_0 7 rfl) (zi_at zh_dX13_number_0_0 8 rfl) (zi_at zh_dX13_number_0_0 9 rfl) rfl
theorem dX13_number_10 : decode cX13_number 10 = .ok (.ifCond .eq 28, 3) := zo_153 (zi_at zh_dX13_number_0_0 10 rfl) (zi_at zh_dX13_number_0_0 11 rfl) (zi_at zh_dX13_number_0_0 12 rfl) rfl
theorem dX13_number_13 : decode cX13_number 13 = .ok (.iload_n 2, 1) := zo_28 (zi_at zh_dX13_number_0_0 13 rfl)
theorem dX13_number_14 : decode cX13_number 14 = .ok (.invokestatic 249, 3) := zo_184 (zi_at zh_dX13_number_0_0 14 rfl) (zi_at zh_dX13_number_0_0 15 rfl) (zi_at zh_dX13_number_14_16 0 rfl) rfl
theorem dX13_number_17 : decode cX13_number 17 = .ok (.ifCond .eq 21, 3) := zo_153 (zi_at zh_dX13_number_14_16 1 rfl) (zi_at zh_dX13_number_14_16 2 rfl) (zi_at zh_dX13_number_14_16 3 rfl) rfl
theorem dX13_number_20 : decode cX13_number 20 = .ok (.aload_n 0, 1) := zo_42 (zi_at zh_dX13_number_14_16 4 rfl)
theorem dX13_number_21 : decode cX13_number 21 = .ok (.iload_n 3, 1) := zo_29 (zi_at zh_dX13_number_14_16 5 rfl)
theorem dX13_number_22 : decode cX13_number 22 = .ok (.invokevirtual 252, 3) := zo_182 (zi_at zh_dX13_number_14_16 6 rfl) (zi_at zh_dX13_number_14_16 7 rfl) (zi_at zh_dX13_number_14_16 8 rfl) rfl
theorem dX13_number_25 : decode cX13_number 25 = .ok (.ifCond .eq 13, 3) := zo_153 (zi_at zh_dX13_number_14_16 9 rfl) (zi_at zh_dX13_number_14_16 10 rfl) (zi_at zh_dX13_number_14_16 11 rfl) rfl
theorem dX13_number_28 : decode cX13_number 28 = .ok (.aload_n 0, 1) := zo_42 (zi_at zh_dX13_number_14_16 12 rfl)
theorem dX13_number_29 : decode cX13_number 29 = .ok (.iload_n 1, 1) := zo_27 (zi_at zh_dX13_number_14_16 13 rfl)
theorem dX13_number_30 : decode cX13_number 30 = .ok (.iload_n 2, 1) := zo_28 (zi_at zh_dX13_number_14_16 14 rfl)
theorem dX13_number_31 : decode cX13_number 31 = .ok (.iload_n 3, 1) := zo_29 (zi_at zh_dX13_number_14_16 15 rfl)
theorem dX13_number_32 : decode cX13_number 32 = .ok (.invokevirtual 387, 3) := zo_182 (zi_at zh_dX13_number_32_32 0 rfl) (zi_at zh_dX13_number_32_32 1 rfl) (zi_at zh_dX13_number_32_32 2 rfl) rfl
theorem dX13_number_35 : decode cX13_number 35 = .ok (.goto 4, 3) := zo_167 (zi_at zh_dX13_number_32_32 3 rfl) (zi_at zh_dX13_number_32_32 4 rfl) (zi_at zh_dX13_number_32_32 5 rfl) rfl
theorem dX13_number_38 : decode cX13_number 38 = .ok (.iconst (-1), 1) := zo_2 (zi_at zh_dX13_number_32_32 6 rfl)
theorem dX13_number_39 : decode cX13_number 39 = .ok (.ireturn, 1) := zo_172 (zi_at zh_dX13_number_32_32 7 rfl)
theorem hz_yX13_numberOf_3 : yX13_numberOf.cls ≠ "java/lang/invoke/MethodHandle" ∧ yX13_numberOf.cls ≠ "java/lang/invoke/VarHandle" ∧ (parseMethodDescriptor yX13_numberOf.desc).map (fun d => d.parameters.length) = some 3 := by decide +kernel
theorem hz_yX10_asRules_2 : yX10_asRules.cls ≠ "java/lang/invoke/MethodHandle" ∧ yX10_asRules.cls ≠ "java/lang/invoke/VarHandle" ∧ (parseMethodDescriptor yX10_asRules.desc).map (fun d => d.parameters.length) = some 2 := by decide +kernel

def v_clearX : List Cond := .code yX13_clear cX13_clear 2 none :: vA
abbrev rm_clearX : Room := { frames := 0, cells := 0, slots := 0, locals := 0 }
def w_clearX : Nat → Nat → Bool := wl [12] []
set_option maxHeartbeats 4000000 in
set_option maxRecDepth 100000 in
theorem q_clearX (l : Launch) (dC : Nat → ClassId) (dI : Nat → Nat → Nat) (cT : Nat → ClassId) (ad : Nat → Nat) (E : Nat → va_E) (sz : Nat)  (hI0 : IX cT shM spM 72 ad E)  : Met l yX13_clear v_clearX rm_clearX (va_Pc [.ref (ad 0)] (HW dC dI (TYM cT) 72 ad E sz)) (va_Qv (S := Nat → va_E) (fun u => IX cT shM spM 72 ad u ∧ Kp w_clearX E u ∧ ((mLt u = lz))) (HB dC dI 72 ad) (va_A (WX 72 ad E) sz)) 0 0 (va_A (WX 72 ad E) sz) := by
  refine Met.ofW (cc := cX13_clear) (maxL := 2) (ret := none) (by decide) rfl ?_
  intro p e s m args below meth c s₁ B hml hv
  obtain ⟨hargs, hsz, hP, hK, hD0, hEV⟩ := hv
  subst hsz
  have hx := B.exec
  have hb := B.bytes
  have hr := B.returns
  have hts := atoms_spec (ws := v_clearX) B.pre
  have hown : s.vm.findClass RX13 = some m.cls := findClass_of_methodNamed B.named
  have hlocks := B.notSynchronized
  have hinX13 : ∀ w ∈ u_ws RX13 TX13 97, w ∈ v_clearX := fun w h => vA_in _ w (in_X13 w h)
  generalize hAe : va_A (WX 72 ad E) s.heap.size = A at hEV ⊢
  have hA : ∀ q : Nat, s.heap.size ≤ q → A q := fun q h => by rw [← hAe]; exact Or.inr h
  have hD : va_D A (WX 72 ad E) := by rw [← hAe]; exact hD0.self
  have hS : va_S A s.heap s.heap [] := va_S.rf
  have hI := hI0
  have hKp : Kp w_clearX E E := Kp.rf
  have hl := lv_entry ([.ref (ad 0)]) (n := 2) (Nat.le_of_ble_eq_true rfl)
  obtain ⟨Q, hQ⟩ : ∃ Q, Q = MQ below (va_Qv (S := Nat → va_E) (fun u => IX cT shM spM 72 ad u ∧ Kp w_clearX E u ∧ ((mLt u = lz))) (HB dC dI 72 ad) (A)) args s 0 0 (A) := ⟨_, rfl⟩
  rw [← hQ, show entryFrame m args 2 = _ from (congrArg (fun z => entryFrame m z 2) hargs).trans (lg_entry_eq _ _ _)]
  generalize (lg_sl ([.ref (ad 0)]) ++ List.replicate (2 - (lg_sl ([.ref (ad 0)])).length) Slot.unset).toArray = ls at hl ⊢
  have hl : lv_has ls 2 [(0, .ref (ad 0))] := hl
  refine lv_iconst (v := 0) hx hb dX13_clear_0 (by decide) ?_
  refine lv_istore_n (lv' := [(1, .int 0), (0, .ref (ad 0))]) hx hb dX13_clear_1 rfl hl (by decide) rfl (fun ls hl => ?_)
  have hL2 : ∀ d : Nat, ∀ (v2_1 : Int32) (E2_ : Nat → va_E) (H : Heap) (locs : List Loc) (ls : Array Slot), 0 ≤ v2_1.toInt ∧ v2_1.toInt ≤ 128 → (∀ j9, j9 < v2_1.toNatClampNeg → xi (E2_ 12) j9 = 0) → 128 - v2_1.toInt < (d : Int) → IX cT shM spM 72 ad E2_ → Kp w_clearX E E2_ → va_P (dC, dI) vwCl (WX 72 ad E2_) H → va_S A s.heap H locs → lv_has ls 2 [(1, .int v2_1), (0, .ref (ad 0))] → W p l e (headSpec v_clearX rm_clearX).room s m args below meth c H locs 0 0 Q (F0 m 2 ls []) := by
    intro d
    induction d with
    | zero =>
      intro v2_1 E2_ H locs ls hv2_1 hx2_0 hx2_1 hI hKp hP hS hl
      exact absurd hx2_1 (by first | exact ms_zu hv2_1.2 | omega)
    | succ d ih2 =>
      intro v2_1 E2_ H locs ls hv2_1 hx2_0 hx2_1 hI hKp hP hS hl
      refine lv_iload_n hx hb dX13_clear_2 rfl (lv_at hl 0 rfl) ?_
      refine lv_sipush (v := 128) hx hb dX13_clear_3 (by decide) ?_
      refine lv_icmp_ge (tgt := 22) hx hb dX13_clear_6 (by decide) (fun c1 => ?_) (fun c1 => ?_)
      · --6 taken
        have t2 : (128 : Int) ≤ v2_1.toInt := ti_le c1
        have i3 : 128 ≤ v2_1.toInt ∧ v2_1.toInt ≤ 128 := iv_le_r t2 (il_ 128) hv2_1 (by decide)
        rw [hQ]
        exact W.vret hx hb hr (fun t ht hW => ⟨⟨E2_, rfl, ⟨hI, hKp, mL_0 (fun j9 hj9 => hx2_0 j9 (by rw [tn_]; omega))⟩, by show va_P (dC, dI) vwCl (WX 72 ad E2_) t.heap; rw [ht]; exact hP⟩, hS.F ht⟩) hS.2.2 dX13_clear_22
      · --6 not
        have t4 : v2_1.toInt < 128 := ti_nle c1
        have i5 : 0 ≤ v2_1.toInt ∧ v2_1.toInt ≤ 127 := iv_lt_l t4 hv2_1 (il_ 128) (by decide)
        refine lv_aload_n hx hb dX13_clear_9 rfl (lv_at hl 1 rfl) ?_
        refine th_get (ci := 14) (C := RX13) (T := TX13) (N := 97) (v := .ref (ad 12)) hx hb hts hinX13 hown hK hP hI 0 (Nat.le_of_ble_eq_true rfl) rfl rfl 15 (Nat.le_of_ble_eq_true rfl) (hts _ (vA_in _ _ (in_25 _ (zs16 (zs16 (zs4 (zs1 (zs0)))))))) (fun _ h9 => h9) (hI.fr 0 (Nat.le_of_ble_eq_true rfl) rfl (Nat.le_of_ble_eq_true rfl) 12 rfl) dX13_clear_10 ?_
        refine lv_iload_n hx hb dX13_clear_13 rfl (lv_at hl 0 rfl) ?_
        refine lv_iconst (v := 0) hx hb dX13_clear_14 (by decide) ?_
        have n6 : vp_in v2_1 128 := (iv_in (n := 128) i5 (by decide))
        refine th_iast hx hb hK hP (WX_D hD) hS hI 12 (Nat.le_of_ble_eq_true rfl) rfl rfl n6 (okI rfl (iv_w ln_0 (by decide))) dX13_clear_15 (fun H locs E7 pw8 hI hP hS => ?_)
        have hKp := hKp.pw pw8 rfl
        obtain ⟨y9, ey9⟩ : ∃ y : Int32, y = v2_1 + (1 : Int32) := ⟨_, rfl⟩
        obtain ⟨ty9, iy9⟩ := ti_add (e := 1) (f := 128) i5 ln_1 ey9 (by decide)
        have ty9 : y9.toInt = v2_1.toInt + 1 := ty9
        have iy9 : 1 ≤ y9.toInt ∧ y9.toInt ≤ 128 := iy9
        refine lv_iinc (v := y9) (lv' := [(1, .int y9), (0, .ref (ad 0))]) hx hb dX13_clear_16 hl (k := 0) rfl (by rw [ey9]; rfl) (by decide) rfl (fun ls hl => ?_)
        refine lv_goto (tgt := 2) hx hb dX13_clear_19 (by decide) ?_
        exact ih2 y9 E7 _ _ _ (iv_w iy9 (by decide)) (fl_s hx2_0 pw8 ty9 (by omega)) (by first | exact ms_su hx2_1 ty9 (by decide) | omega) hI hKp hP hS (lv_sub hl [0, 1] rfl)
  exact hL2 (129) (0 : Int32) E _ _ _ (iv_w ln_0 (by decide)) (fun j9 hj9 => absurd hj9 (by rw [tn_]; exact Nat.not_lt_zero _)) (by have h9 := ln_0; first | exact ms_bu h9.1 (by decide) | omega) hI hKp hP hS (lv_sub hl [0, 1] rfl)
def v_worthM : List Cond := .code yX13_worth cX13_worth 5 (some .int) :: vA
abbrev rm_worthM : Room := { frames := 70, cells := 0, slots := 0, locals := 2800 }
def w_worthM : Nat → Nat → Bool := wl [] [(0, 18), (0, 19), (0, 20), (0, 21), (0, 22), (0, 23), (0, 24), (0, 25), (0, 26)]
set_option maxHeartbeats 4000000 in
set_option maxRecDepth 100000 in
theorem q_worthM (l : Launch) (dC : Nat → ClassId) (dI : Nat → Nat → Nat) (cT : Nat → ClassId) (ad : Nat → Nat) (E : Nat → va_E) (sz : Nat) (a0 : Int32) (a1 : Int32) (a2 : Int32) (hI0 : IX cT shM spM 72 ad E) (hh0 : 0 ≤ a0.toInt ∧ a0.toInt ≤ 127) (hh1 : TXM E) : Met l yX13_worth v_worthM rm_worthM (va_Pc [.ref (ad 0), .int a0, .int a1, .int a2] (HW dC dI (TYM cT) 72 ad E sz)) (va_Qi (S := Nat → va_E) (fun r u => IX cT shM spM 72 ad u ∧ Kp w_worthM E u ∧ ((r = wML (mLt E) E a0.toInt (lawM E a1 a2)))) (HB dC dI 72 ad) (va_A (WX 72 ad E) sz)) 0 0 (va_A (WX 72 ad E) sz) := by
  refine Met.ofW (cc := cX13_worth) (maxL := 5) (ret := (some .int)) (by decide) rfl ?_
  intro p e s m args below meth c s₁ B hml hv
  obtain ⟨hargs, hsz, hP, hK, hD0, hEV⟩ := hv
  subst hsz
  have hx := B.exec
  have hb := B.bytes
  have hr := B.returns
  have hts := atoms_spec (ws := v_worthM) B.pre
  have hown : s.vm.findClass RX13 = some m.cls := findClass_of_methodNamed B.named
  have hlocks := B.notSynchronized
  have hinX13 : ∀ w ∈ u_ws RX13 TX13 97, w ∈ v_worthM := fun w h => vA_in _ w (in_X13 w h)
  generalize hAe : va_A (WX 72 ad E) s.heap.size = A at hEV ⊢
  have hA : ∀ q : Nat, s.heap.size ≤ q → A q := fun q h => by rw [← hAe]; exact Or.inr h
  have hD : va_D A (WX 72 ad E) := by rw [← hAe]; exact hD0.self
  have hS : va_S A s.heap s.heap [] := va_S.rf
  have hI := hI0
  have hKp : Kp w_worthM E E := Kp.rf
  have hl := lv_entry ([.ref (ad 0), .int a0, .int a1, .int a2]) (n := 5) (Nat.le_of_ble_eq_true rfl)
  obtain ⟨Q, hQ⟩ : ∃ Q, Q = MQ below (va_Qi (S := Nat → va_E) (fun r u => IX cT shM spM 72 ad u ∧ Kp w_worthM E u ∧ ((r = wML (mLt E) E a0.toInt (lawM E a1 a2)))) (HB dC dI 72 ad) (A)) args s 0 0 (A) := ⟨_, rfl⟩
  rw [← hQ, show entryFrame m args 5 = _ from (congrArg (fun z => entryFrame m z 5) hargs).trans (lg_entry_eq _ _ _)]
  generalize (lg_sl ([.ref (ad 0), .int a0, .int a1, .int a2]) ++ List.replicate (5 - (lg_sl ([.ref (ad 0), .int a0, .int a1, .int a2])).length) Slot.unset).toArray = ls at hl ⊢
  have hl : lv_has ls 5 [(0, .ref (ad 0)), (1, .int a0), (2, .int a1), (3, .int a2)] := hl
  refine lv_aload_n hx hb dX13_worth_0 rfl (lv_at hl 0 rfl) ?_
  refine lv_iload_n hx hb dX13_worth_1 rfl (lv_at hl 2 rfl) ?_
  refine lv_iload_n hx hb dX13_worth_2 rfl (lv_at hl 3 rfl) ?_
  refine th_ri (va_runV (As := [.int a1, .int a2]) (rest := []) ⟨hx, hb, hml, hown, hts⟩ (q_rulesOnMX l dC dI cT ad E s.heap.size a1 a2 hI) (cwV 2 hts (gi_V (in_29 _ (zs1 (zs0))) (in_29 _ (zs1 (zs1 (zs0)))) (in_29 _ (zs1 (zs1 (zs1 (zs0))))) (in_24 _ (zs4 (zs4 (zs4 (zs1 (zs1 (zs1 (zs0)))))))) (in_29 _ (zs4 (zs0)))) rfl rfl rfl ⟨rfl, hz_yX13_rulesOn_2⟩ ⟨Nat.le_of_ble_eq_true rfl, Nat.le_of_ble_eq_true rfl⟩) ⟨HW_bl, va_recv hK hP (ci := 14) (q0 := 0) rfl (hI.ob 0 (Nat.le_of_ble_eq_true rfl) rfl), (HW_wi hP hK (WX_D hD) hS hA hEV)⟩ rfl rfl hl.1 rfl (lv_room (Nat.le_of_ble_eq_true rfl)) dX13_worth_3 ⟨Nat.le_of_ble_eq_true rfl, Nat.le_of_ble_eq_true rfl⟩) hS hP (fun r1 H locs hw hP hS => ?_)
  obtain ⟨f2, f3⟩ := hw
  have i4 : 0 ≤ (xi (E 0) 17).toInt ∧ (xi (E 0) 17).toInt ≤ 16 := (show 0 ≤ (xi (E 0) 17).toInt ∧ (xi (E 0) 17).toInt ≤ 16 from hI0.iv 0 (Nat.le_of_ble_eq_true rfl) rfl (Nat.le_of_ble_eq_true rfl) rfl)
  have k5 : r1 = lawM E a1 a2 := f3
  have hru : 0 ≤ (xi (E 0) 17).toInt ∧ (xi (E 0) 17).toInt ≤ 16 := hI0.iv 0 (Nat.le_of_ble_eq_true rfl) rfl (Nat.le_of_ble_eq_true rfl) rfl
  have hci := cO_in (gB := fun _ => 0) (gF := xi (E 10)) (gT := xi (E 11)) (boat := 0) (day := a1) (q := a2) (xi (E 0) 17).toNatClampNeg (by rw [tn_]; omega)
  rw [show cO (fun _ => 0) (xi (E 10)) (xi (E 11)) 0 a1 a2 (xi (E 0) 17).toNatClampNeg = r1 from k5.symm, tn_] at hci
  refine lv_istore (lv' := [(4, .int r1), (0, .ref (ad 0)), (1, .int a0), (2, .int a1), (3, .int a2)]) hx hb dX13_worth_6 hl (by decide) rfl (fun ls hl => ?_)
  refine lv_iload hx hb dX13_worth_8 (lv_at hl 0 rfl) ?_
  refine lv_iconst (v := -1) hx hb dX13_worth_10 (by decide) ?_
  refine lv_icmp_ne (tgt := 28) hx hb dX13_worth_11 (by decide) (fun c6 => ?_) (fun c6 => ?_)
  · --11 taken
    have t7 : ¬ r1.toInt = -1 := ti_ne c6
    have i8 : 0 ≤ r1.toInt ∧ r1.toInt ≤ 15 := iv_ne_l t7 f2 (il_ (-1))
    refine lv_aload_n hx hb dX13_worth_28 rfl (lv_at hl 1 rfl) ?_
    refine lv_aload_n hx hb dX13_worth_29 rfl (lv_at hl 1 rfl) ?_
    refine th_get (ci := 14) (C := RX13) (T := TX13) (N := 97) (v := .ref (ad 8)) hx hb hts hinX13 hown hK hP hI 0 (Nat.le_of_ble_eq_true rfl) rfl rfl 11 (Nat.le_of_ble_eq_true rfl) (hts _ (vA_in _ _ (in_28 _ (zs16 (zs16 (zs4 (zs1 (zs1 (zs0))))))))) (fun _ h9 => h9) (hI.fr 0 (Nat.le_of_ble_eq_true rfl) rfl (Nat.le_of_ble_eq_true rfl) 8 rfl) dX13_worth_30 ?_
    refine lv_sipush (v := 200) hx hb dX13_worth_33 (by decide) ?_
    refine lv_iload hx hb dX13_worth_36 (lv_at hl 0 rfl) ?_
    refine lv_imul hx hb dX13_worth_38 ?_
    refine lv_topi (fun y9 ey9 => ?_)
    obtain ⟨ty9, iy9⟩ := ti_mul (e := 0) (f := 3000) ln_200 i8 ey9 (by decide)
    have ty9 : y9.toInt = 200 * r1.toInt := ty9
    have iy9 : 0 ≤ y9.toInt ∧ y9.toInt ≤ 3000 := iy9
    refine lv_aload_n hx hb dX13_worth_39 rfl (lv_at hl 1 rfl) ?_
    refine th_get (ci := 14) (C := RX13) (T := TX13) (N := 97) (v := .ref (ad 9)) hx hb hts hinX13 hown hK hP hI 0 (Nat.le_of_ble_eq_true rfl) rfl rfl 12 (Nat.le_of_ble_eq_true rfl) (hts _ (vA_in _ _ (in_28 _ (zs16 (zs16 (zs4 (zs1 (zs1 (zs1 (zs0)))))))))) (fun _ h9 => h9) (hI.fr 0 (Nat.le_of_ble_eq_true rfl) rfl (Nat.le_of_ble_eq_true rfl) 9 rfl) dX13_worth_40 ?_
    refine lv_iload hx hb dX13_worth_43 (lv_at hl 0 rfl) ?_
    have n11 : vp_in r1 16 := (iv_in (n := 16) i8 (by decide))
    refine th_iald hx hb hK hP hI 9 (Nat.le_of_ble_eq_true rfl) rfl rfl n11 dX13_worth_45 (fun y10 ey10 => ?_)
    have iy10 : 0 ≤ y10.toInt ∧ y10.toInt ≤ 200 := hI.el 9 (Nat.le_of_ble_eq_true rfl) rfl n11 (fun _ => rfl) ey10
    have ey10 := ey10.trans (hKp.ei 9 _ rfl)
    refine lv_iload_n hx hb dX13_worth_46 rfl (lv_at hl 2 rfl) ?_
    refine th_v (va_runV (As := [.ref (ad 8), .int y9, .int y10, .int a0]) (rest := []) ⟨hx, hb, hml, hown, hts⟩ (q_goThroughRW l dC dI cT ad E H.size y9 y10 a0 hI iy9 iy10 hh0) (cwV 4 hts (gi_V (in_29 _ (zs4 (zs4 (zs0)))) (in_29 _ (zs4 (zs4 (zs1 (zs0))))) (in_29 _ (zs4 (zs4 (zs1 (zs1 (zs0)))))) (in_24 _ (zs4 (zs4 (zs4 (zs1 (zs1 (zs1 (zs0)))))))) (in_29 _ (zs4 (zs4 (zs1 (zs1 (zs1 (zs0)))))))) rfl rfl rfl ⟨rfl, hz_yX13_goThrough_4⟩ ⟨Nat.le_of_ble_eq_true rfl, Nat.le_of_ble_eq_true rfl⟩) ⟨HW_bl, va_recv hK hP (ci := 14) (q0 := 0) rfl (hI.ob 0 (Nat.le_of_ble_eq_true rfl) rfl), (HW_wi hP hK (WX_D hD) hS hA hEV)⟩ rfl rfl hl.1 rfl (lv_room (Nat.le_of_ble_eq_true rfl)) dX13_worth_47 ⟨Nat.le_of_ble_eq_true rfl, Nat.le_of_ble_eq_true rfl⟩) (WX_D hD) hS hA (fun E13 H locs hw hP hS => ?_)
    obtain ⟨hI, kq14, hw⟩ := hw
    have hKb := hKp
    have hKp := hKp.tr kq14 (wl_sub rfl rfl)
    obtain ⟨y15, ey15⟩ : ∃ y, xi (E13 0) 22 = y := ⟨_, rfl⟩
    have fy15 : xv (E13 0) 22 = .int y15 := (hI.fi 0 (Nat.le_of_ble_eq_true rfl) rfl (Nat.le_of_ble_eq_true rfl) rfl).trans (congrArg Value.int ey15)
    have iy15 : -1 ≤ y15.toInt ∧ y15.toInt ≤ 201 := by rw [← ey15]; exact hI.iv 0 (Nat.le_of_ble_eq_true rfl) rfl (Nat.le_of_ble_eq_true rfl) rfl
    obtain ⟨f16, f17⟩ := hw
    refine lv_aload_n hx hb dX13_worth_50 rfl (lv_at hl 1 rfl) ?_
    obtain ⟨y18, ey18⟩ : ∃ y, xi (E13 0) 25 = y := ⟨_, rfl⟩
    have fy18 : xv (E13 0) 25 = .int y18 := (hI.fi 0 (Nat.le_of_ble_eq_true rfl) rfl (Nat.le_of_ble_eq_true rfl) rfl).trans (congrArg Value.int ey18)
    refine th_get (ci := 14) (C := RX13) (T := TX13) (N := 97) (v := .int y18) hx hb hts hinX13 hown hK hP hI 0 (Nat.le_of_ble_eq_true rfl) rfl rfl 25 (Nat.le_of_ble_eq_true rfl) (hts _ (vA_in _ _ (in_29 _ zs0))) (fun _ h9 => h9) fy18 dX13_worth_51 ?_
    rw [hQ]
    exact W.iret (v := y18) hx hb hr (fun t ht hW => ⟨⟨y18, E13, rfl, ⟨hI, hKp, (by rw [← k5]; refine wML_1 (by omega) hh1 (by omega) (fun a9 C9 h9 => ?_); have h8 := f17 a9 C9 (by unfold mTx at h9; rw [mB_n (n := 200 * r1.toNatClampNeg) (by rw [tn_, tn_]; omega), show y10.toNatClampNeg = (xi (E 9) r1.toNatClampNeg).toNatClampNeg by rw [ey10]]; exact h9); exact ((show y18 = xi (E13 0) 25 from (vi_e fy18).symm)).trans h8)⟩, by show va_P (dC, dI) vwCl (WX 72 ad E13) t.heap; rw [ht]; exact hP⟩, hS.F ht⟩) hS.2.2 dX13_worth_54
  · --11 not
    have t19 : r1.toInt = -1 := ti_eq c6
    have i20 : -1 ≤ r1.toInt ∧ r1.toInt ≤ -1 := iv_eqi t19 f2 (il_ (-1)) (by decide)
    refine lv_iload_n hx hb dX13_worth_14 rfl (lv_at hl 2 rfl) ?_
    refine lv_bipush (v := 110) hx hb dX13_worth_15 (by decide) ?_
    refine lv_icmp_ne (tgt := 26) hx hb dX13_worth_17 (by decide) (fun c21 => ?_) (fun c21 => ?_)
    · --17 taken
      have t22 : ¬ a0.toInt = 110 := ti_ne c21
      refine lv_iconst (v := 0) hx hb dX13_worth_26 (by decide) ?_
      rw [hQ]
      exact W.iret (v := 0) hx hb hr (fun t ht hW => ⟨⟨0, E, rfl, ⟨hI, hKp, (by rw [← k5]; exact wML_0 (by omega) ((if_neg (by omega)).symm))⟩, by show va_P (dC, dI) vwCl (WX 72 ad E) t.heap; rw [ht]; exact hP⟩, hS.F ht⟩) hS.2.2 dX13_worth_27
    · --17 not
      have t23 : a0.toInt = 110 := ti_eq c21
      have i24 : 110 ≤ a0.toInt ∧ a0.toInt ≤ 110 := iv_eqi t23 hh0 (il_ 110) (by decide)
      refine lv_sipush (v := 1000) hx hb dX13_worth_20 (by decide) ?_
      refine lv_goto (tgt := 27) hx hb dX13_worth_23 (by decide) ?_
      rw [hQ]
      exact W.iret (v := 1000) hx hb hr (fun t ht hW => ⟨⟨1000, E, rfl, ⟨hI, hKp, (by rw [← k5]; exact wML_0 (by omega) ((if_pos (by omega)).symm))⟩, by show va_P (dC, dI) vwCl (WX 72 ad E) t.heap; rw [ht]; exact hP⟩, hS.F ht⟩) hS.2.2 dX13_worth_27
def v_numberOfM : List Cond := .code yX13_numberOf cX13_numberOf 5 (some .int) :: vA
abbrev rm_numberOfM : Room := { frames := 71, cells := 0, slots := 0, locals := 2840 }
def w_numberOfM : Nat → Nat → Bool := wl [12] [(0, 18), (0, 19), (0, 20), (0, 21), (0, 22), (0, 23), (0, 24), (0, 25), (0, 26)]
set_option maxHeartbeats 4000000 in
set_option maxRecDepth 100000 in
theorem q_numberOfM (l : Launch) (dC : Nat → ClassId) (dI : Nat → Nat → Nat) (cT : Nat → ClassId) (ad : Nat → Nat) (E : Nat → va_E) (sz : Nat) (a0 : Int32) (a1 : Int32) (a2 : Int32) (hI0 : IX cT shM spM 72 ad E) (hh0 : TXM E) : Met l yX13_numberOf v_numberOfM rm_numberOfM (va_Pc [.ref (ad 0), .int a0, .int a1, .int a2] (HW dC dI (TYM cT) 72 ad E sz)) (va_Qi (S := Nat → va_E) (fun r u => IX cT shM spM 72 ad u ∧ Kp w_numberOfM E u ∧ ((r.toInt = numM E a0 a1 a2))) (HB dC dI 72 ad) (va_A (WX 72 ad E) sz)) 0 0 (va_A (WX 72 ad E) sz) := by
  refine Met.ofW (cc := cX13_numberOf) (maxL := 5) (ret := (some .int)) (by decide) rfl ?_
  intro p e s m args below meth c s₁ B hml hv
  obtain ⟨hargs, hsz, hP, hK, hD0, hEV⟩ := hv
  subst hsz
  have hx := B.exec
  have hb := B.bytes
  have hr := B.returns
  have hts := atoms_spec (ws := v_numberOfM) B.pre
  have hown : s.vm.findClass RX13 = some m.cls := findClass_of_methodNamed B.named
  have hlocks := B.notSynchronized
  have hinX13 : ∀ w ∈ u_ws RX13 TX13 97, w ∈ v_numberOfM := fun w h => vA_in _ w (in_X13 w h)
  generalize hAe : va_A (WX 72 ad E) s.heap.size = A at hEV ⊢
  have hA : ∀ q : Nat, s.heap.size ≤ q → A q := fun q h => by rw [← hAe]; exact Or.inr h
  have hD : va_D A (WX 72 ad E) := by rw [← hAe]; exact hD0.self
  have hS : va_S A s.heap s.heap [] := va_S.rf
  have hI := hI0
  have hKp : Kp w_numberOfM E E := Kp.rf
  have hl := lv_entry ([.ref (ad 0), .int a0, .int a1, .int a2]) (n := 5) (Nat.le_of_ble_eq_true rfl)
  obtain ⟨Q, hQ⟩ : ∃ Q, Q = MQ below (va_Qi (S := Nat → va_E) (fun r u => IX cT shM spM 72 ad u ∧ Kp w_numberOfM E u ∧ ((r.toInt = numM E a0 a1 a2))) (HB dC dI 72 ad) (A)) args s 0 0 (A) := ⟨_, rfl⟩
  rw [← hQ, show entryFrame m args 5 = _ from (congrArg (fun z => entryFrame m z 5) hargs).trans (lg_entry_eq _ _ _)]
  generalize (lg_sl ([.ref (ad 0), .int a0, .int a1, .int a2]) ++ List.replicate (5 - (lg_sl ([.ref (ad 0), .int a0, .int a1, .int a2])).length) Slot.unset).toArray = ls at hl ⊢
  have hl : lv_has ls 5 [(0, .ref (ad 0)), (1, .int a0), (2, .int a1), (3, .int a2)] := hl
  refine lv_aload_n hx hb dX13_numberOf_0 rfl (lv_at hl 0 rfl) ?_
  refine lv_iload_n hx hb dX13_numberOf_1 rfl (lv_at hl 1 rfl) ?_
  refine lv_iload_n hx hb dX13_numberOf_2 rfl (lv_at hl 2 rfl) ?_
  refine lv_iload_n hx hb dX13_numberOf_3 rfl (lv_at hl 3 rfl) ?_
  refine th_ri (va_runV (As := [.int a0, .int a1, .int a2]) (rest := []) ⟨hx, hb, hml, hown, hts⟩ (q_certOn l dC dI cT ad E s.heap.size a0 a1 a2 hI) (cwV 3 hts (gi_V (in_28 _ (zs16 (zs4 (zs4 (zs1 (zs1 (zs1 (zs0)))))))) (in_28 _ (zs16 (zs4 (zs4 (zs4 (zs0)))))) (in_28 _ (zs16 (zs4 (zs4 (zs4 (zs1 (zs0))))))) (in_24 _ (zs4 (zs4 (zs4 (zs1 (zs1 (zs1 (zs0)))))))) (in_27 _ (zs4 (zs4 (zs0))))) rfl rfl rfl ⟨rfl, hz_yX13_certOn_3⟩ ⟨Nat.le_of_ble_eq_true rfl, Nat.le_of_ble_eq_true rfl⟩) ⟨HW_bl, va_recv hK hP (ci := 14) (q0 := 0) rfl (hI.ob 0 (Nat.le_of_ble_eq_true rfl) rfl), (HW_wi hP hK (WX_D hD) hS hA hEV)⟩ rfl rfl hl.1 rfl (lv_room (Nat.le_of_ble_eq_true rfl)) dX13_numberOf_4 ⟨Nat.le_of_ble_eq_true rfl, Nat.le_of_ble_eq_true rfl⟩) hS hP (fun r1 H locs hw hP hS => ?_)
  obtain ⟨f2, f3⟩ := hw
  have i4 : 0 ≤ (xi (E 0) 9).toInt ∧ (xi (E 0) 9).toInt ≤ 80 := (show 0 ≤ (xi (E 0) 9).toInt ∧ (xi (E 0) 9).toInt ≤ 80 from hI0.iv 0 (Nat.le_of_ble_eq_true rfl) rfl (Nat.le_of_ble_eq_true rfl) rfl)
  have k5 : r1 = papM E a0 a1 a2 := f3
  refine lv_istore (lv' := [(4, .int r1), (0, .ref (ad 0)), (1, .int a0), (2, .int a1), (3, .int a2)]) hx hb dX13_numberOf_7 hl (by decide) rfl (fun ls hl => ?_)
  refine lv_iload hx hb dX13_numberOf_9 (lv_at hl 0 rfl) ?_
  refine lv_iconst (v := -1) hx hb dX13_numberOf_11 (by decide) ?_
  refine lv_icmp_ne (tgt := 19) hx hb dX13_numberOf_12 (by decide) (fun c6 => ?_) (fun c6 => ?_)
  · --12 taken
    have t7 : ¬ r1.toInt = -1 := ti_ne c6
    have i8 : 0 ≤ r1.toInt ∧ r1.toInt ≤ 79 := iv_ne_l t7 f2 (il_ (-1))
    refine lv_aload_n hx hb dX13_numberOf_19 rfl (lv_at hl 1 rfl) ?_
    refine th_v (va_runV (As := []) (rest := []) ⟨hx, hb, hml, hown, hts⟩ (q_clearX l dC dI cT ad E H.size hI) (cwV 0 hts (gi_V (in_28 _ (zs16 (zs4 (zs4 (zs4 (zs1 (zs1 (zs0)))))))) (in_28 _ (zs16 (zs4 (zs4 (zs4 (zs1 (zs1 (zs1 (zs0))))))))) (in_28 _ (zs16 (zs16 (zs0)))) (in_24 _ (zs4 (zs4 (zs4 (zs1 (zs1 (zs1 (zs0)))))))) (in_28 _ (zs16 (zs16 (zs1 (zs0)))))) rfl rfl rfl ⟨rfl, hz_yX13_clear_0⟩ ⟨Nat.le_of_ble_eq_true rfl, Nat.le_of_ble_eq_true rfl⟩) ⟨HW_bl, va_recv hK hP (ci := 14) (q0 := 0) rfl (hI.ob 0 (Nat.le_of_ble_eq_true rfl) rfl), (HW_wi hP hK (WX_D hD) hS hA hEV)⟩ rfl rfl hl.1 rfl (lv_room (Nat.le_of_ble_eq_true rfl)) dX13_numberOf_20 ⟨Nat.le_of_ble_eq_true rfl, Nat.le_of_ble_eq_true rfl⟩) (WX_D hD) hS hA (fun E10 H locs hw hP hS => ?_)
    obtain ⟨hI, kq11, hw⟩ := hw
    have hKb := hKp
    have hKp := hKp.tr kq11 (wl_sub rfl rfl)
    have f12 := hw
    refine lv_aload_n hx hb dX13_numberOf_23 rfl (lv_at hl 1 rfl) ?_
    refine th_get (ci := 14) (C := RX13) (T := TX13) (N := 97) (v := .ref (ad 12)) hx hb hts hinX13 hown hK hP hI 0 (Nat.le_of_ble_eq_true rfl) rfl rfl 15 (Nat.le_of_ble_eq_true rfl) (hts _ (vA_in _ _ (in_25 _ (zs16 (zs16 (zs4 (zs1 (zs0)))))))) (fun _ h9 => h9) (hI.fr 0 (Nat.le_of_ble_eq_true rfl) rfl (Nat.le_of_ble_eq_true rfl) 12 rfl) dX13_numberOf_24 ?_
    refine lv_bipush (v := 108) hx hb dX13_numberOf_27 (by decide) ?_
    refine lv_aload_n hx hb dX13_numberOf_29 rfl (lv_at hl 1 rfl) ?_
    refine th_get (ci := 14) (C := RX13) (T := TX13) (N := 97) (v := .ref (ad 3)) hx hb hts hinX13 hown hK hP hI 0 (Nat.le_of_ble_eq_true rfl) rfl rfl 4 (Nat.le_of_ble_eq_true rfl) (hts _ (vA_in _ _ (in_27 _ (zs4 (zs4 (zs4 (zs1 (zs1 (zs0))))))))) (fun _ h9 => h9) (hI.fr 0 (Nat.le_of_ble_eq_true rfl) rfl (Nat.le_of_ble_eq_true rfl) 3 rfl) dX13_numberOf_30 ?_
    refine lv_iload hx hb dX13_numberOf_33 (lv_at hl 0 rfl) ?_
    have n14 : vp_in r1 80 := (iv_in (n := 80) i8 (by decide))
    refine th_iald hx hb hK hP hI 3 (Nat.le_of_ble_eq_true rfl) rfl rfl n14 dX13_numberOf_35 (fun y13 ey13 => ?_)
    have iy13 : 0 ≤ y13.toInt ∧ y13.toInt ≤ 400 := hI.el 3 (Nat.le_of_ble_eq_true rfl) rfl n14 (fun _ => rfl) ey13
    have ey13 := ey13.trans (hKp.ei 3 _ rfl)
    have n15 : vp_in (108 : Int32) 128 := (iv_in (n := 128) ln_108 (by decide))
    refine th_iast hx hb hK hP (WX_D hD) hS hI 12 (Nat.le_of_ble_eq_true rfl) rfl rfl n15 (okI rfl (iv_w iy13 (by decide))) dX13_numberOf_36 (fun H locs E16 pw17 hI hP hS => ?_)
    have hKp := hKp.pw pw17 rfl
    have k18 : mLt E16 = lset lz 0 y13 := (mL_set (k := 0) pw17 (by decide) rfl).trans (by rw [f12])
    refine lv_aload_n hx hb dX13_numberOf_37 rfl (lv_at hl 1 rfl) ?_
    refine th_get (ci := 14) (C := RX13) (T := TX13) (N := 97) (v := .ref (ad 12)) hx hb hts hinX13 hown hK hP hI 0 (Nat.le_of_ble_eq_true rfl) rfl rfl 15 (Nat.le_of_ble_eq_true rfl) (hts _ (vA_in _ _ (in_25 _ (zs16 (zs16 (zs4 (zs1 (zs0)))))))) (fun _ h9 => h9) (hI.fr 0 (Nat.le_of_ble_eq_true rfl) rfl (Nat.le_of_ble_eq_true rfl) 12 rfl) dX13_numberOf_38 ?_
    refine lv_bipush (v := 115) hx hb dX13_numberOf_41 (by decide) ?_
    refine lv_aload_n hx hb dX13_numberOf_43 rfl (lv_at hl 1 rfl) ?_
    refine th_get (ci := 14) (C := RX13) (T := TX13) (N := 97) (v := .ref (ad 4)) hx hb hts hinX13 hown hK hP hI 0 (Nat.le_of_ble_eq_true rfl) rfl rfl 5 (Nat.le_of_ble_eq_true rfl) (hts _ (vA_in _ _ (in_27 _ (zs4 (zs4 (zs4 (zs1 (zs1 (zs1 (zs0)))))))))) (fun _ h9 => h9) (hI.fr 0 (Nat.le_of_ble_eq_true rfl) rfl (Nat.le_of_ble_eq_true rfl) 4 rfl) dX13_numberOf_44 ?_
    refine lv_iload hx hb dX13_numberOf_47 (lv_at hl 0 rfl) ?_
    have n20 : vp_in r1 80 := (iv_in (n := 80) i8 (by decide))
    refine th_iald hx hb hK hP hI 4 (Nat.le_of_ble_eq_true rfl) rfl rfl n20 dX13_numberOf_49 (fun y19 ey19 => ?_)
    have iy19 : 0 ≤ y19.toInt ∧ y19.toInt ≤ 4000 := hI.el 4 (Nat.le_of_ble_eq_true rfl) rfl n20 (fun _ => rfl) ey19
    have ey19 := ey19.trans (hKp.ei 4 _ rfl)
    have n21 : vp_in (115 : Int32) 128 := (iv_in (n := 128) ln_115 (by decide))
    refine th_iast hx hb hK hP (WX_D hD) hS hI 12 (Nat.le_of_ble_eq_true rfl) rfl rfl n21 (okI rfl (iv_w iy19 (by decide))) dX13_numberOf_50 (fun H locs E22 pw23 hI hP hS => ?_)
    have hKp := hKp.pw pw23 rfl
    have k24 : mLt E22 = lset (lset lz 0 y13) 1 y19 := (mL_set (k := 1) pw23 (by decide) rfl).trans (by rw [k18])
    refine lv_aload_n hx hb dX13_numberOf_51 rfl (lv_at hl 1 rfl) ?_
    refine th_get (ci := 14) (C := RX13) (T := TX13) (N := 97) (v := .ref (ad 12)) hx hb hts hinX13 hown hK hP hI 0 (Nat.le_of_ble_eq_true rfl) rfl rfl 15 (Nat.le_of_ble_eq_true rfl) (hts _ (vA_in _ _ (in_25 _ (zs16 (zs16 (zs4 (zs1 (zs0)))))))) (fun _ h9 => h9) (hI.fr 0 (Nat.le_of_ble_eq_true rfl) rfl (Nat.le_of_ble_eq_true rfl) 12 rfl) dX13_numberOf_52 ?_
    refine lv_bipush (v := 119) hx hb dX13_numberOf_55 (by decide) ?_
    refine lv_aload_n hx hb dX13_numberOf_57 rfl (lv_at hl 1 rfl) ?_
    refine th_get (ci := 14) (C := RX13) (T := TX13) (N := 97) (v := .ref (ad 5)) hx hb hts hinX13 hown hK hP hI 0 (Nat.le_of_ble_eq_true rfl) rfl rfl 6 (Nat.le_of_ble_eq_true rfl) (hts _ (vA_in _ _ (in_27 _ (zs16 (zs0))))) (fun _ h9 => h9) (hI.fr 0 (Nat.le_of_ble_eq_true rfl) rfl (Nat.le_of_ble_eq_true rfl) 5 rfl) dX13_numberOf_58 ?_
    refine lv_iload hx hb dX13_numberOf_61 (lv_at hl 0 rfl) ?_
    have n26 : vp_in r1 80 := (iv_in (n := 80) i8 (by decide))
    refine th_iald hx hb hK hP hI 5 (Nat.le_of_ble_eq_true rfl) rfl rfl n26 dX13_numberOf_63 (fun y25 ey25 => ?_)
    have iy25 : 0 ≤ y25.toInt ∧ y25.toInt ≤ 900 := hI.el 5 (Nat.le_of_ble_eq_true rfl) rfl n26 (fun _ => rfl) ey25
    have ey25 := ey25.trans (hKp.ei 5 _ rfl)
    have n27 : vp_in (119 : Int32) 128 := (iv_in (n := 128) ln_119 (by decide))
    refine th_iast hx hb hK hP (WX_D hD) hS hI 12 (Nat.le_of_ble_eq_true rfl) rfl rfl n27 (okI rfl (iv_w iy25 (by decide))) dX13_numberOf_64 (fun H locs E28 pw29 hI hP hS => ?_)
    have hKp := hKp.pw pw29 rfl
    have k30 : mLt E28 = lset (lset (lset lz 0 y13) 1 y19) 2 y25 := (mL_set (k := 2) pw29 (by decide) rfl).trans (by rw [k24])
    refine lv_sipush (v := 500) hx hb dX13_numberOf_65 (by decide) ?_
    refine lv_sipush (v := 2000) hx hb dX13_numberOf_68 (by decide) ?_
    refine lv_aload_n hx hb dX13_numberOf_71 rfl (lv_at hl 1 rfl) ?_
    refine lv_bipush (v := 110) hx hb dX13_numberOf_72 (by decide) ?_
    refine lv_iload_n hx hb dX13_numberOf_74 rfl (lv_at hl 3 rfl) ?_
    refine lv_iload_n hx hb dX13_numberOf_75 rfl (lv_at hl 4 rfl) ?_
    have z110 := ln_110
    refine th_i (va_runV (As := [.int 110, .int a1, .int a2]) (rest := [.int 2000, .int 500]) ⟨hx, hb, hml, hown, hts⟩ (q_worthM l dC dI cT ad E28 H.size (110 : Int32) a1 a2 hI (iv_w ln_110 (by decide)) (by exact hh0.cg (fun j9 => hKp.ei 8 j9 rfl) (fun j9 => hKp.ei 9 j9 rfl) (hKp.ei 0 17 rfl))) (cwV 3 hts (gi_V (in_28 _ (zs16 (zs16 (zs1 (zs1 (zs0)))))) (in_28 _ (zs16 (zs16 (zs1 (zs1 (zs1 (zs0))))))) (in_28 _ (zs16 (zs16 (zs4 (zs0))))) (in_24 _ (zs4 (zs4 (zs4 (zs1 (zs1 (zs1 (zs0)))))))) (in_28 _ (zs16 (zs16 (zs4 (zs1 (zs0))))))) rfl rfl rfl ⟨rfl, hz_yX13_worth_3⟩ ⟨Nat.le_of_ble_eq_true rfl, Nat.le_of_ble_eq_true rfl⟩) ⟨HW_bl, va_recv hK hP (ci := 14) (q0 := 0) rfl (hI.ob 0 (Nat.le_of_ble_eq_true rfl) rfl), (HW_wi hP hK (WX_D hD) hS hA hEV)⟩ rfl rfl hl.1 rfl (lv_room (Nat.le_of_ble_eq_true rfl)) dX13_numberOf_76 ⟨Nat.le_of_ble_eq_true rfl, Nat.le_of_ble_eq_true rfl⟩) (WX_D hD) hS hA (fun r31 E32 H locs hw hP hS => ?_)
    obtain ⟨hI, kq33, hw⟩ := hw
    have hKb := hKp
    have hKp := hKp.tr kq33 (wl_sub rfl rfl)
    have f34 := hw
    have i35 : 0 ≤ (xi (E 0) 17).toInt ∧ (xi (E 0) 17).toInt ≤ 16 := (show 0 ≤ (xi (E 0) 17).toInt ∧ (xi (E 0) 17).toInt ≤ 16 from hI0.iv 0 (Nat.le_of_ble_eq_true rfl) rfl (Nat.le_of_ble_eq_true rfl) rfl)
    have k36 : lawM E28 a1 a2 = lawM E a1 a2 := by unfold lawM; rw [show xi (E28 10) = xi (E 10) from hKb.ef _ (fun _ => rfl), show xi (E28 11) = xi (E 11) from hKb.ef _ (fun _ => rfl), show xi (E28 0) 17 = xi (E 0) 17 from hKb.ei 0 _ rfl]
    have k37 : r31 = wML (lset (lset (lset lz 0 y13) 1 y19) 2 y25) E 110 (lawM E a1 a2) := f34.trans (by rw [k36, k30, wML_cg (E := E) (fun j9 => hKb.ei 8 j9 rfl) (fun j9 => hKb.ei 9 j9 rfl)]; rfl)
    refine va_mmin hx hb (by rw [hml]; exact hl.1.symm) hown (hts _ (vA_in _ _ (in_28 _ (zs16 (zs4 (zs4 (zs1 (zs1 (zs0))))))))) (hts _ (vA_in _ _ (in_0 _ (zs16 (zs16 (zs4 (zs0))))))) (hts _ (vA_in _ _ (in_0 _ (zs16 (zs16 (zs1 (zs0))))))) (hts _ (vA_in _ _ (in_0 _ (zs16 (zs16 (zs4 (zs1 (zs0)))))))) (Nat.le_of_ble_eq_true rfl) (Nat.le_of_ble_eq_true rfl) (Nat.le_of_ble_eq_true rfl) (Nat.le_of_ble_eq_true rfl) dX13_numberOf_79 ?_
    have z2000 := ln_2000
    refine lv_topi (fun y38 ey38 => ?_)
    obtain ⟨ty38, iy38⟩ := ti_min (e := (-2147483648)) (f := 2000) ln_2000 (iv_all _) ey38 (by decide)
    have iy38 : -2147483648 ≤ y38.toInt ∧ y38.toInt ≤ 2000 := iy38
    refine va_mmax hx hb (by rw [hml]; exact hl.1.symm) hown (hts _ (vA_in _ _ (in_25 _ (zs16 (zs4 (zs4 (zs1 (zs1 (zs1 (zs0)))))))))) (hts _ (vA_in _ _ (in_0 _ (zs16 (zs16 (zs0)))))) (hts _ (vA_in _ _ (in_0 _ (zs16 (zs16 (zs1 (zs0))))))) (hts _ (vA_in _ _ (in_0 _ (zs16 (zs16 (zs1 (zs1 (zs0)))))))) (Nat.le_of_ble_eq_true rfl) (Nat.le_of_ble_eq_true rfl) (Nat.le_of_ble_eq_true rfl) (Nat.le_of_ble_eq_true rfl) dX13_numberOf_82 ?_
    have z500 := ln_500
    refine lv_topi (fun y39 ey39 => ?_)
    obtain ⟨ty39, iy39⟩ := ti_max (e := 500) (f := 2000) ln_500 iy38 ey39 (by decide)
    have iy39 : 500 ≤ y39.toInt ∧ y39.toInt ≤ 2000 := iy39
    rw [hQ]
    exact W.iret (v := y39) hx hb hr (fun t ht hW => ⟨⟨y39, E32, rfl, ⟨hI, hKp, numM_1 (w := r31) k5 (by omega) (k37.trans (by rw [ey13, ey19, ey25])) (by have z1 := ln_500; have z2 := ln_2000; omega)⟩, by show va_P (dC, dI) vwCl (WX 72 ad E32) t.heap; rw [ht]; exact hP⟩, hS.F ht⟩) hS.2.2 dX13_numberOf_85
  · --12 not
    have t40 : r1.toInt = -1 := ti_eq c6
    have i41 : -1 ≤ r1.toInt ∧ r1.toInt ≤ -1 := iv_eqi t40 f2 (il_ (-1)) (by decide)
    refine lv_sipush (v := 1000) hx hb dX13_numberOf_15 (by decide) ?_
    rw [hQ]
    exact W.iret (v := 1000) hx hb hr (fun t ht hW => ⟨⟨1000, E, rfl, ⟨hI, hKp, numM_0 (by rw [← k5]; omega)⟩, by show va_P (dC, dI) vwCl (WX 72 ad E) t.heap; rw [ht]; exact hP⟩, hS.F ht⟩) hS.2.2 dX13_numberOf_18
def v_numberM : List Cond := .code yX13_number cX13_number 4 (some .int) :: vA
abbrev rm_numberM : Room := { frames := 72, cells := 0, slots := 0, locals := 2880 }
def w_numberM : Nat → Nat → Bool := wl [12] [(0, 0), (0, 18), (0, 19), (0, 20), (0, 21), (0, 22), (0, 23), (0, 24), (0, 25), (0, 26)]
set_option maxHeartbeats 4000000 in
set_option maxRecDepth 100000 in
theorem q_numberM (l : Launch) (dC : Nat → ClassId) (dI : Nat → Nat → Nat) (cT : Nat → ClassId) (ad : Nat → Nat) (E : Nat → va_E) (sz : Nat) (a0 : Int32) (a1 : Int32) (a2 : Int32) (hI0 : IX cT shM spM 72 ad E) (hh0 : TXM E) : Met l yX13_number v_numberM rm_numberM (va_Pc [.ref (ad 0), .int a0, .int a1, .int a2] (HW dC dI (TYM cT) 72 ad E sz)) (va_Qi (S := Nat → va_E) (fun r u => IX cT shM spM 72 ad u ∧ Kp w_numberM E u ∧ ((((((0 ≤ a0.toInt ∧ a0.toInt < (xi (E 0) 8).toInt) ∧ (0 ≤ a1.toInt ∧ a1.toInt ≤ 400) ∧ (0 ≤ a2.toInt ∧ a2.toInt ≤ (xi (E 0) 1).toInt)) → (r.toInt = numM E a0 a1 a2)) ∧ (¬ ((0 ≤ a0.toInt ∧ a0.toInt < (xi (E 0) 8).toInt) ∧ (0 ≤ a1.toInt ∧ a1.toInt ≤ 400) ∧ (0 ≤ a2.toInt ∧ a2.toInt ≤ (xi (E 0) 1).toInt)) → (r.toInt = -1)))))) (HB dC dI 72 ad) (va_A (WX 72 ad E) sz)) 0 0 (va_A (WX 72 ad E) sz) := by
  refine Met.ofW (cc := cX13_number) (maxL := 4) (ret := (some .int)) (by decide) rfl ?_
  intro p e s m args below meth c s₁ B hml hv
  obtain ⟨hargs, hsz, hP, hK, hD0, hEV⟩ := hv
  subst hsz
  have hx := B.exec
  have hb := B.bytes
  have hr := B.returns
  have hts := atoms_spec (ws := v_numberM) B.pre
  have hown : s.vm.findClass RX13 = some m.cls := findClass_of_methodNamed B.named
  have hlocks := B.notSynchronized
  have hinX13 : ∀ w ∈ u_ws RX13 TX13 97, w ∈ v_numberM := fun w h => vA_in _ w (in_X13 w h)
  generalize hAe : va_A (WX 72 ad E) s.heap.size = A at hEV ⊢
  have hA : ∀ q : Nat, s.heap.size ≤ q → A q := fun q h => by rw [← hAe]; exact Or.inr h
  have hD : va_D A (WX 72 ad E) := by rw [← hAe]; exact hD0.self
  have hS : va_S A s.heap s.heap [] := va_S.rf
  have hI := hI0
  have hKp : Kp w_numberM E E := Kp.rf
  have hl := lv_entry ([.ref (ad 0), .int a0, .int a1, .int a2]) (n := 4) (Nat.le_of_ble_eq_true rfl)
  obtain ⟨Q, hQ⟩ : ∃ Q, Q = MQ below (va_Qi (S := Nat → va_E) (fun r u => IX cT shM spM 72 ad u ∧ Kp w_numberM E u ∧ ((((((0 ≤ a0.toInt ∧ a0.toInt < (xi (E 0) 8).toInt) ∧ (0 ≤ a1.toInt ∧ a1.toInt ≤ 400) ∧ (0 ≤ a2.toInt ∧ a2.toInt ≤ (xi (E 0) 1).toInt)) → (r.toInt = numM E a0 a1 a2)) ∧ (¬ ((0 ≤ a0.toInt ∧ a0.toInt < (xi (E 0) 8).toInt) ∧ (0 ≤ a1.toInt ∧ a1.toInt ≤ 400) ∧ (0 ≤ a2.toInt ∧ a2.toInt ≤ (xi (E 0) 1).toInt)) → (r.toInt = -1)))))) (HB dC dI 72 ad) (A)) args s 0 0 (A) := ⟨_, rfl⟩
  rw [← hQ, show entryFrame m args 4 = _ from (congrArg (fun z => entryFrame m z 4) hargs).trans (lg_entry_eq _ _ _)]
  generalize (lg_sl ([.ref (ad 0), .int a0, .int a1, .int a2]) ++ List.replicate (4 - (lg_sl ([.ref (ad 0), .int a0, .int a1, .int a2])).length) Slot.unset).toArray = ls at hl ⊢
  have hl : lv_has ls 4 [(0, .ref (ad 0)), (1, .int a0), (2, .int a1), (3, .int a2)] := hl
  refine lv_aload_n hx hb dX13_number_0 rfl (lv_at hl 0 rfl) ?_
  refine lv_iconst (v := 0) hx hb dX13_number_1 (by decide) ?_
  refine th_put (ci := 14) (C := RX13) (T := TX13) (N := 97) (v := .int 0) (ty := .int) hx hb hts hinX13 tyX13 tyX13_ok nmX13 hown hK hP (WX_D hD) hS hI 0 (Nat.le_of_ble_eq_true rfl) rfl rfl 0 (Nat.le_of_ble_eq_true rfl) (hts _ (vA_in _ _ (in_24 _ (zs4 (zs4 (zs1 (zs1 (zs0)))))))) (fun _ h9 => h9) rfl (by decide +kernel) rfl rfl (okI rfl (iv_w ln_0 (by decide))) dX13_number_2 (fun H locs E1 pw2 hI hP hS => ?_)
  have hKp := hKp.pw pw2 rfl
  refine lv_aload_n hx hb dX13_number_5 rfl (lv_at hl 0 rfl) ?_
  refine lv_iload_n hx hb dX13_number_6 rfl (lv_at hl 1 rfl) ?_
  refine th_ri (va_runV (As := [.int a0]) (rest := []) ⟨hx, hb, hml, hown, hts⟩ (q_isBoat l dC dI cT ad E1 H.size a0 hI) (cwV 1 hts (gi_V (in_24 _ (zs16 (zs1 (zs1 (zs0))))) (in_24 _ (zs16 (zs1 (zs1 (zs1 (zs0)))))) (in_24 _ (zs16 (zs4 (zs0)))) (in_24 _ (zs4 (zs4 (zs4 (zs1 (zs1 (zs1 (zs0)))))))) (in_24 _ (zs16 (zs4 (zs1 (zs0)))))) rfl rfl rfl ⟨rfl, hz_yX13_isBoat_1⟩ ⟨Nat.le_of_ble_eq_true rfl, Nat.le_of_ble_eq_true rfl⟩) ⟨HW_bl, va_recv hK hP (ci := 14) (q0 := 0) rfl (hI.ob 0 (Nat.le_of_ble_eq_true rfl) rfl), (HW_wi hP hK (WX_D hD) hS hA hEV)⟩ rfl rfl hl.1 rfl (lv_room (Nat.le_of_ble_eq_true rfl)) dX13_number_7 ⟨Nat.le_of_ble_eq_true rfl, Nat.le_of_ble_eq_true rfl⟩) hS hP (fun r3 H locs hw hP hS => ?_)
  rcases hw with hw | hw
  · -- isBoat, case 0
    obtain ⟨rfl, f4, f5⟩ := hw
    have i6 : 0 ≤ (xi (E 0) 8).toInt ∧ (xi (E 0) 8).toInt ≤ 16 := (show 0 ≤ (xi (E 0) 8).toInt ∧ (xi (E 0) 8).toInt ≤ 16 from hI0.iv 0 (Nat.le_of_ble_eq_true rfl) rfl (Nat.le_of_ble_eq_true rfl) rfl)
    try rw [hKp.ei 0 8 rfl] at f4
    refine lv_if_eq (tgt := 38) hx hb dX13_number_10 (by decide) (fun c7 => ?_) (fun c7 => ?_)
    · --10 taken
      exact absurd c7 (by decide)
    · --10 not
      refine lv_iload_n hx hb dX13_number_13 rfl (lv_at hl 2 rfl) ?_
      refine th_pi (va_runS (As := [.int a1]) (rest := []) ⟨hx, hb, hml, hown, hts⟩ (q_isDay l a1) (va_cwS 1 hts (gi_S (in_27 _ (zs16 (zs1 (zs0)))) (in_27 _ (zs16 (zs1 (zs1 (zs0))))) (in_24 _ (zs4 (zs4 (zs4 (zs1 (zs1 (zs1 (zs0)))))))) (in_27 _ (zs16 (zs1 (zs1 (zs1 (zs0))))))) rfl rfl rfl hz_yX13_isDay_1 ⟨Nat.le_of_ble_eq_true rfl, Nat.le_of_ble_eq_true rfl⟩) ⟨fun _ _ _ _ q => q, fun _ _ _ => ⟨rfl, trivial⟩⟩ rfl rfl hl.1 rfl (lv_room (Nat.le_of_ble_eq_true rfl)) dX13_number_14 ⟨Nat.le_of_ble_eq_true rfl, Nat.le_of_ble_eq_true rfl⟩) hS (fun r8 H1 locs1 hw hk1 hS => ?_)
      have hP := ub_keep hP hk1
      generalize H1 = H at hP hS ⊢
      generalize locs1 = locs at hS ⊢
      rcases hw with hw | hw
      · -- isDay, case 0
        obtain ⟨rfl, f9⟩ := hw
        have t10 : (0 : Int) ≤ a1.toInt := f9.1
        have t11 : a1.toInt ≤ 400 := f9.2
        have i12 : 0 ≤ a1.toInt ∧ a1.toInt ≤ 2147483647 := iv_le_r t10 (il_ 0) (iv_all _) (by decide)
        have i13 : 0 ≤ a1.toInt ∧ a1.toInt ≤ 400 := iv_le_l t11 i12 (il_ 400) (by decide)
        refine lv_if_eq (tgt := 38) hx hb dX13_number_17 (by decide) (fun c14 => ?_) (fun c14 => ?_)
        · --17 taken
          exact absurd c14 (by decide)
        · --17 not
          refine lv_aload_n hx hb dX13_number_20 rfl (lv_at hl 0 rfl) ?_
          refine lv_iload_n hx hb dX13_number_21 rfl (lv_at hl 3 rfl) ?_
          refine th_ri (va_runV (As := [.int a2]) (rest := []) ⟨hx, hb, hml, hown, hts⟩ (q_isKnown l dC dI cT ad E1 H.size a2 hI) (cwV 1 hts (gi_V (in_24 _ (zs16 (zs4 (zs1 (zs1 (zs1 (zs0))))))) (in_24 _ (zs16 (zs4 (zs4 (zs0))))) (in_24 _ (zs16 (zs4 (zs4 (zs1 (zs0)))))) (in_24 _ (zs4 (zs4 (zs4 (zs1 (zs1 (zs1 (zs0)))))))) (in_24 _ (zs16 (zs4 (zs4 (zs1 (zs1 (zs0)))))))) rfl rfl rfl ⟨rfl, hz_yX13_isKnown_1⟩ ⟨Nat.le_of_ble_eq_true rfl, Nat.le_of_ble_eq_true rfl⟩) ⟨HW_bl, va_recv hK hP (ci := 14) (q0 := 0) rfl (hI.ob 0 (Nat.le_of_ble_eq_true rfl) rfl), (HW_wi hP hK (WX_D hD) hS hA hEV)⟩ rfl rfl hl.1 rfl (lv_room (Nat.le_of_ble_eq_true rfl)) dX13_number_22 ⟨Nat.le_of_ble_eq_true rfl, Nat.le_of_ble_eq_true rfl⟩) hS hP (fun r15 H locs hw hP hS => ?_)
          rcases hw with hw | hw
          · -- isKnown, case 0
            obtain ⟨rfl, f16⟩ := hw
            have i17 : 0 ≤ (xi (E 0) 1).toInt ∧ (xi (E 0) 1).toInt ≤ 400 := (show 0 ≤ (xi (E 0) 1).toInt ∧ (xi (E 0) 1).toInt ≤ 400 from hI0.iv 0 (Nat.le_of_ble_eq_true rfl) rfl (Nat.le_of_ble_eq_true rfl) rfl)
            try rw [hKp.ei 0 1 rfl] at f16
            have t18 : (0 : Int) ≤ a2.toInt := f16.1
            have t19 : a2.toInt ≤ (xi (E 0) 1).toInt := f16.2
            have i20 : 0 ≤ a2.toInt ∧ a2.toInt ≤ 2147483647 := iv_le_r t18 (il_ 0) (iv_all _) (by decide)
            have i21 : 0 ≤ a2.toInt ∧ a2.toInt ≤ 400 := iv_le_l t19 i20 i17 (by decide)
            refine lv_if_eq (tgt := 38) hx hb dX13_number_25 (by decide) (fun c22 => ?_) (fun c22 => ?_)
            · --25 taken
              exact absurd c22 (by decide)
            · --25 not
              refine lv_aload_n hx hb dX13_number_28 rfl (lv_at hl 0 rfl) ?_
              refine lv_iload_n hx hb dX13_number_29 rfl (lv_at hl 1 rfl) ?_
              refine lv_iload_n hx hb dX13_number_30 rfl (lv_at hl 2 rfl) ?_
              refine lv_iload_n hx hb dX13_number_31 rfl (lv_at hl 3 rfl) ?_
              refine th_i (va_runV (As := [.int a0, .int a1, .int a2]) (rest := []) ⟨hx, hb, hml, hown, hts⟩ (q_numberOfM l dC dI cT ad E1 H.size a0 a1 a2 hI (by exact hh0.cg (fun j9 => hKp.ei 8 j9 rfl) (fun j9 => hKp.ei 9 j9 rfl) (hKp.ei 0 17 rfl))) (cwV 3 hts (gi_V (in_28 _ (zs16 (zs4 (zs1 (zs1 (zs0)))))) (in_28 _ (zs16 (zs4 (zs1 (zs1 (zs1 (zs0))))))) (in_28 _ (zs16 (zs4 (zs4 (zs0))))) (in_24 _ (zs4 (zs4 (zs4 (zs1 (zs1 (zs1 (zs0)))))))) (in_28 _ (zs16 (zs4 (zs4 (zs1 (zs0))))))) rfl rfl rfl ⟨rfl, hz_yX13_numberOf_3⟩ ⟨Nat.le_of_ble_eq_true rfl, Nat.le_of_ble_eq_true rfl⟩) ⟨HW_bl, va_recv hK hP (ci := 14) (q0 := 0) rfl (hI.ob 0 (Nat.le_of_ble_eq_true rfl) rfl), (HW_wi hP hK (WX_D hD) hS hA hEV)⟩ rfl rfl hl.1 rfl (lv_room (Nat.le_of_ble_eq_true rfl)) dX13_number_32 ⟨Nat.le_of_ble_eq_true rfl, Nat.le_of_ble_eq_true rfl⟩) (WX_D hD) hS hA (fun r23 E24 H locs hw hP hS => ?_)
              obtain ⟨hI, kq25, hw⟩ := hw
              have hKb := hKp
              have hKp := hKp.tr kq25 (wl_sub rfl rfl)
              have f26 := hw
              have i27 : 0 ≤ (xi (E 0) 9).toInt ∧ (xi (E 0) 9).toInt ≤ 80 := (show 0 ≤ (xi (E 0) 9).toInt ∧ (xi (E 0) 9).toInt ≤ 80 from hI0.iv 0 (Nat.le_of_ble_eq_true rfl) rfl (Nat.le_of_ble_eq_true rfl) rfl)
              have k28 : r23.toInt = numM E a0 a1 a2 := f26.trans (numM_kp (E := E) hKb (by intro o9 ho9 j9; simp only [List.mem_cons, List.not_mem_nil, or_false] at ho9; rcases ho9 with rfl | rfl | rfl | rfl | rfl | rfl | rfl | rfl | rfl | rfl <;> rfl) rfl rfl)
              refine lv_goto (tgt := 39) hx hb dX13_number_35 (by decide) ?_
              rw [hQ]
              exact W.iret (v := r23) hx hb hr (fun t ht hW => ⟨⟨r23, E24, rfl, ⟨hI, hKp, (by have h9 := k28; all_goals omega)⟩, by show va_P (dC, dI) vwCl (WX 72 ad E24) t.heap; rw [ht]; exact hP⟩, hS.F ht⟩) hS.2.2 dX13_number_39
          · -- isKnown, case 1
            obtain ⟨rfl, f29⟩ := hw
            have i30 : 0 ≤ (xi (E 0) 1).toInt ∧ (xi (E 0) 1).toInt ≤ 400 := (show 0 ≤ (xi (E 0) 1).toInt ∧ (xi (E 0) 1).toInt ≤ 400 from hI0.iv 0 (Nat.le_of_ble_eq_true rfl) rfl (Nat.le_of_ble_eq_true rfl) rfl)
            try rw [hKp.ei 0 1 rfl] at f29
            have t31 : ¬ ((0 : Int) ≤ a2.toInt ∧ a2.toInt ≤ (xi (E 0) 1).toInt) := f29
            refine lv_if_eq (tgt := 38) hx hb dX13_number_25 (by decide) (fun c32 => ?_) (fun c32 => ?_)
            · --25 taken
              refine lv_iconst (v := -1) hx hb dX13_number_38 (by decide) ?_
              rw [hQ]
              exact W.iret (v := (-1)) hx hb hr (fun t ht hW => ⟨⟨(-1), E1, rfl, ⟨hI, hKp, (by have h8 := ln_m1; all_goals omega)⟩, by show va_P (dC, dI) vwCl (WX 72 ad E1) t.heap; rw [ht]; exact hP⟩, hS.F ht⟩) hS.2.2 dX13_number_39
            · --25 not
              exact absurd c32 (by decide)
      · -- isDay, case 1
        obtain ⟨rfl, f33⟩ := hw
        have t34 : ¬ ((0 : Int) ≤ a1.toInt ∧ a1.toInt ≤ 400) := f33
        refine lv_if_eq (tgt := 38) hx hb dX13_number_17 (by decide) (fun c35 => ?_) (fun c35 => ?_)
        · --17 taken
          refine lv_iconst (v := -1) hx hb dX13_number_38 (by decide) ?_
          rw [hQ]
          exact W.iret (v := (-1)) hx hb hr (fun t ht hW => ⟨⟨(-1), E1, rfl, ⟨hI, hKp, (by have h8 := ln_m1; all_goals omega)⟩, by show va_P (dC, dI) vwCl (WX 72 ad E1) t.heap; rw [ht]; exact hP⟩, hS.F ht⟩) hS.2.2 dX13_number_39
        · --17 not
          exact absurd c35 (by decide)
  · -- isBoat, case 1
    obtain ⟨rfl, f36⟩ := hw
    have i37 : 0 ≤ (xi (E 0) 8).toInt ∧ (xi (E 0) 8).toInt ≤ 16 := (show 0 ≤ (xi (E 0) 8).toInt ∧ (xi (E 0) 8).toInt ≤ 16 from hI0.iv 0 (Nat.le_of_ble_eq_true rfl) rfl (Nat.le_of_ble_eq_true rfl) rfl)
    try rw [hKp.ei 0 8 rfl] at f36
    refine lv_if_eq (tgt := 38) hx hb dX13_number_10 (by decide) (fun c38 => ?_) (fun c38 => ?_)
    · --10 taken
      refine lv_iconst (v := -1) hx hb dX13_number_38 (by decide) ?_
      rw [hQ]
      exact W.iret (v := (-1)) hx hb hr (fun t ht hW => ⟨⟨(-1), E1, rfl, ⟨hI, hKp, (by have h8 := ln_m1; all_goals omega)⟩, by show va_P (dC, dI) vwCl (WX 72 ad E1) t.heap; rw [ht]; exact hP⟩, hS.F ht⟩) hS.2.2 dX13_number_39
    · --10 not
      exact absurd c38 (by decide)
section
/-! ===== a TEXT hangs on its bytes alone ===== -/
section TCG
variable {t t' : Nat → Int} {n : Nat}
theorem skF_cg (h : ∀ j, j < n → t j = t' j) : ∀ f a, skF t n f a = skF t' n f a := by
  intro f
  induction f with
  | zero => exact fun _ => rfl
  | succ f ih =>
    intro a
    show (if a < n ∧ t a = 32 then skF t n f (a + 1) else a) = (if a < n ∧ t' a = 32 then skF t' n f (a + 1) else a)
    by_cases c : a < n
    · rw [h a c, ih]
    · rw [if_neg (fun q => c q.1), if_neg (fun q => c q.1)]
theorem sk_cg (h : ∀ j, j < n → t j = t' j) : sk t n = sk t' n := funext (fun a => skF_cg h _ _)
theorem pk_cg (h : ∀ j, j < n → t j = t' j) : pk t n = pk t' n := funext (fun a => by
  unfold pk
  rw [sk_cg h]
  by_cases c : sk t' n a < n
  · rw [if_pos c, if_pos c, h _ c]
  · rw [if_neg c, if_neg c])
theorem numF_cg (h : ∀ j, j < n → t j = t' j) : ∀ f a v, numF t n f a v = numF t' n f a v := by
  intro f
  induction f with
  | zero => exact fun _ _ => rfl
  | succ f ih =>
    intro a v
    show (if a < n ∧ dgt (t a) then numF t n f (a + 1) (10 * v + (t a - 48)) else (a, v)) = (if a < n ∧ dgt (t' a) then numF t' n f (a + 1) (10 * v + (t' a - 48)) else (a, v))
    by_cases c : a < n
    · rw [h a c, ih]
    · rw [if_neg (fun q => c q.1), if_neg (fun q => c q.1)]
theorem numS_cg (h : ∀ j, j < n → t j = t' j) (b : Bool) : numS b t n = numS b t' n := funext (fun a => by
  unfold numS
  rw [numF_cg h]
  by_cases c : (numF t' n 5 a 0).1 < n
  · rw [h _ c]
  · rw [if_neg (fun q => c q.2.1), if_neg (fun q => c q.2.1)])
theorem opF_cg {α : Type} (h : ∀ j, j < n → t j = t' j) {op : Int → Bool} {cb : α → Int → α → α} {rd rd' : Nat → PR α} (hr : rd = rd') : ∀ f a c, opF t n op cb rd f a c = opF t' n op cb rd' f a c := by
  subst hr
  intro f
  induction f with
  | zero =>
    intro a c
    show PR.good (sk t n a) c = PR.good (sk t' n a) c
    rw [sk_cg h]
  | succ f ih =>
    intro a c
    show (if op (pk t n a) = true then (rd (sk t n a + 1)).andThen (fun a2 c2 => opF t n op cb rd f a2 (cb c (pk t n a) c2)) else PR.good (sk t n a) c) = (if op (pk t' n a) = true then (rd (sk t' n a + 1)).andThen (fun a2 c2 => opF t' n op cb rd f a2 (cb c (pk t' n a) c2)) else PR.good (sk t' n a) c)
    rw [sk_cg h, pk_cg h, show (fun a2 c2 => opF t n op cb rd f a2 (cb c (pk t' n a) c2)) = (fun a2 c2 => opF t' n op cb rd f a2 (cb c (pk t' n a) c2)) from funext (fun a2 => funext (fun c2 => ih a2 _))]
theorem opL_cg {α : Type} (h : ∀ j, j < n → t j = t' j) {op : Int → Bool} {cb : α → Int → α → α} {rd rd' : Nat → PR α} (hr : rd = rd') : opL t n op cb rd = opL t' n op cb rd' := funext (fun a => funext (fun c => opF_cg h hr _ a c))
theorem clo_cg {α : Type} (h : ∀ j, j < n → t j = t' j) (s : Int) : (clo t n s : Nat → α → PR α) = clo t' n s := funext (fun a => funext (fun c => by
  unfold clo
  rw [sk_cg h, pk_cg h]))
theorem atomO_cg (h : ∀ j, j < n → t j = t' j) (b : Bool) {i i' : Nat → PR (List Int)} (hi : i = i') : atomO b t n i = atomO b t' n i' := funext (fun a => by
  unfold atomO
  rw [sk_cg h, pk_cg h, numS_cg h, hi])
theorem termO_cg (h : ∀ j, j < n → t j = t' j) (b : Bool) {i i' : Nat → PR (List Int)} (hi : i = i') : termO b t n i = termO b t' n i' := funext (fun a => by
  unfold termO
  rw [atomO_cg h b hi, opL_cg h rfl])
theorem sumO_cg (h : ∀ j, j < n → t j = t' j) (b : Bool) {i i' : Nat → PR (List Int)} (hi : i = i') : sumO b t n i = sumO b t' n i' := funext (fun a => by
  unfold sumO
  rw [termO_cg h b hi, opL_cg h rfl])
theorem sumS_cg (h : ∀ j, j < n → t j = t' j) (b : Bool) : ∀ d, sumS b t n d = sumS b t' n d := by
  intro d
  induction d with
  | zero => exact sumO_cg h b rfl
  | succ d ih => exact sumO_cg h b (funext (fun s => by rw [ih, clo_cg h]))
theorem cmpS_cg (h : ∀ j, j < n → t j = t' j) (b : Bool) (d : Nat) : cmpS b t n d = cmpS b t' n d := funext (fun a => by
  unfold cmpS
  rw [sk_cg h, pk_cg h, sumS_cg h])
theorem unitO_cg (h : ∀ j, j < n → t j = t' j) (b : Bool) (d : Nat) {u u' c c' : Nat → PR (List Int)} (hu : u = u') (hc : c = c') : unitO b t n d u c = unitO b t' n d u' c' := funext (fun a => by
  unfold unitO
  rw [sk_cg h, pk_cg h, sumS_cg h, cmpS_cg h, hu, hc])
theorem partO_cg (h : ∀ j, j < n → t j = t' j) {u u' : Nat → PR (List Int)} (hu : u = u') : partO t n u = partO t' n u' := funext (fun a => by
  unfold partO
  rw [hu, opL_cg h rfl])
theorem condO_cg (h : ∀ j, j < n → t j = t' j) {u u' : Nat → PR (List Int)} (hu : u = u') : condO t n u = condO t' n u' := funext (fun a => by
  unfold condO
  rw [partO_cg h hu, opL_cg h rfl])
theorem unitS_cg (h : ∀ j, j < n → t j = t' j) (b : Bool) : ∀ d, unitS b t n d = unitS b t' n d := by
  intro d
  induction d with
  | zero => exact unitO_cg h b 0 rfl rfl
  | succ d ih => exact unitO_cg h b (d + 1) (funext (fun s => by rw [ih])) (funext (fun s => by rw [condO_cg h ih, clo_cg h]))
theorem condS_cg (h : ∀ j, j < n → t j = t' j) (b : Bool) (d : Nat) : condS b t n d = condS b t' n d := condO_cg h (unitS_cg h b d)
theorem partB_cg (h : ∀ j, j < n → t j = t' j) (b : Bool) (d : Nat) : partB b t n d = partB b t' n d := funext (fun a => by
  unfold partB
  rw [cmpS_cg h, opL_cg h (unitS_cg h b d)])
theorem condB_cg (h : ∀ j, j < n → t j = t' j) (b : Bool) (d : Nat) : condB b t n d = condB b t' n d := funext (fun a => by
  unfold condB
  rw [partB_cg h, opL_cg h (show partS b t n d = partS b t' n d from partO_cg h (unitS_cg h b d))])
theorem clauseV_cg (h : ∀ j, j < n → t j = t' j) (b : Bool) (a : Nat) (lab : Int) : clauseV b t n a lab = clauseV b t' n a lab := by
  unfold clauseV
  rw [sk_cg h, pk_cg h, sumS_cg h, condS_cg h, condB_cg h, clo_cg h]
theorem clauseS_cg (h : ∀ j, j < n → t j = t' j) (b : Bool) : clauseS b t n = clauseS b t' n := funext (fun a => by
  unfold clauseS
  rw [sk_cg h, pk_cg h, clo_cg h, show (fun a2 (_ : Unit) => clauseV b t n a2 (pk t' n a)) = (fun a2 _ => clauseV b t' n a2 (pk t' n a)) from funext (fun a2 => funext (fun _ => clauseV_cg h b a2 _))])
theorem textS_cg (h : ∀ j, j < n → t j = t' j) (b : Bool) : textS b t n = textS b t' n := by
  unfold textS textL
  rw [sk_cg h, pk_cg h, clauseS_cg h, opL_cg h rfl]
end TCG
/-! ===== RULES that are told ===== -/
/-- the class's new RULES hold the TEXT of the TAPE -/
def RuNew (E : Nat → va_E) (cf cf' : Nat → Nat) (E' : Nat → va_E) : Prop := ∃ a C, textS false (tT E) (tN E) = .good a C ∧ cf' (8 + 2 * cf 1) = C.length ∧ cf' (9 + 2 * cf 1) = totL C ∧ clE E' (cf 1) C.length = C ∧ RulOk E' (cf 1) C.length (totL C)
theorem RuNew.of {cf : Nat → Nat} {E E5 E9 E10 : Nat → va_E} {nc ns : Nat} {f0 f1 f2 f3 : Nat → Int32} {v : Value} (hT : Txt E E5) (hf : tF E5 = -1) (hns : ns = (xi (E5 2) 5).toNatClampNeg) (hnc : nc = (xi (E5 2) 9).toNatClampNeg) (hf0 : ∀ j, j < (xi (E5 2) 5).toNatClampNeg → f0 j = xi (E5 22) j) (hf1 : ∀ j, j < nc → f1 j = xi (E5 23) j) (hf2 : ∀ j, j < nc + 1 → f2 j = xi (E5 24) j) (hf3 : ∀ j, j < nc → f3 j = xi (E5 25) j) (o0 : ∀ j, xi (E9 (64 * (cf 1 + 1) + 2)) j = f0 j) (o1 : ∀ j, xi (E9 (64 * (cf 1 + 1) + 3)) j = f1 j) (o2 : ∀ j, xi (E9 (64 * (cf 1 + 1) + 4)) j = f2 j) (o3 : ∀ j, xi (E9 (64 * (cf 1 + 1) + 5)) j = f3 j) (p : Pw E9 E10 2 1 v) : RuNew E cf (cfR cf nc ns) E10 := by
  obtain ⟨a, C, h1, h2, h3⟩ := hT hf
  have es : ns = totL C := hns.trans h2.1
  have ec : nc = C.length := hnc.trans h2.2.1
  have k : ∀ o, 64 ≤ o → ∀ j, xi (E10 o) j = xi (E9 o) j := fun o ho j => congrArg vi (p.2 o j (by omega))
  rw [ec] at hf1 hf2 hf3
  rw [← hns, es] at hf0
  have h4 := lay_cls (st := rSt E10 (cf 1)) (la := rLa E10 (cf 1)) (be := rBe E10 (cf 1)) (su := rSu E10 (cf 1)) h2 h3 (fun j hj => congrArg Int32.toInt (((k _ (by omega) j).trans (o0 j)).trans (hf0 j hj))) (fun j hj => congrArg Int32.toInt (((k _ (by omega) j).trans (o1 j)).trans (hf1 j hj))) (fun j hj => congrArg Int32.toInt (((k _ (by omega) j).trans (o2 j)).trans (hf2 j hj))) (fun j hj => congrArg Int32.toInt (((k _ (by omega) j).trans (o3 j)).trans (hf3 j hj)))
  exact ⟨a, C, h1, cfR_c.trans ec, cfR_s.trans es, h4.1, h4.2⟩
/-- the reference copies the TAPE -/
def CpI (n v : Nat) (E E1 : Nat → va_E) : Prop := ∀ j, (xi (E1 8) j).toInt % 256 = if 200 * n ≤ j ∧ j < 200 * n + v then (xi (E 7) (j - 200 * n)).toInt % 256 else (xi (E 8) j).toInt % 256
theorem CpI.rf {n : Nat} {E : Nat → va_E} : CpI n 0 E E := fun j => (if_neg (by omega)).symm
theorem CpI.step {n v v' : Nat} {E E1 E2 : Nat → va_E} {x z : Int32} (h : CpI n v E E1) (p : Pw E1 E2 8 x.toNatClampNeg (.int z)) (hx : x.toNatClampNeg = 200 * n + v) (hz : z.toInt % 256 = (xi (E 7) v).toInt % 256) (hv : v' = v + 1) : CpI n v' E E2 := fun j => by
  rw [hx] at p
  by_cases e : j = 200 * n + v
  · rw [e, show xi (E2 8) (200 * n + v) = z from vi_e p.1, if_pos ⟨by omega, by omega⟩, hz, show 200 * n + v - 200 * n = v by omega]
  · rw [show xi (E2 8) j = xi (E1 8) j from congrArg vi (p.2 8 j (fun r => e r.2)), h j]
    by_cases c : 200 * n ≤ j ∧ j < 200 * n + v
    · rw [if_pos c, if_pos ⟨c.1, by omega⟩]
    · rw [if_neg c, if_neg (by omega)]
theorem CpI.kp {n v : Nat} {E E1 E2 : Nat → va_E} (h : CpI n v E E1) (k : ∀ j, xi (E2 8) j = xi (E1 8) j) : CpI n v E E2 := fun j => by
  rw [k]
  exact h j
/-- the TEXTS behind it -/
theorem CpI.old {n v i : Nat} {E E1 : Nat → va_E} (h : CpI n v E E1) (hi : i < n) (hl : xi (E1 9) i = xi (E 9) i) (hb : (xi (E 9) i).toNatClampNeg ≤ 200) : mTx E1 i = mTx E i := by
  unfold mTx
  rw [hl]
  refine textS_cg (fun j hj => ?_) true
  show (xi (E1 8) (200 * i + j)).toInt % 256 = (xi (E 8) (200 * i + j)).toInt % 256
  rw [h (200 * i + j), if_neg (by omega)]
theorem CpI.new {n v : Nat} {E E1 : Nat → va_E} (h : CpI n v E E1) (hl : (xi (E1 9) n).toNatClampNeg = v) : mTx E1 n = textS true (mB (xi (E 7)) 0) v := by
  unfold mTx
  rw [hl]
  refine textS_cg (fun j hj => ?_) true
  show (xi (E1 8) (200 * n + j)).toInt % 256 = (xi (E 7) (0 + j)).toInt % 256
  rw [h (200 * n + j), if_pos ⟨by omega, by omega⟩, show 200 * n + j - 200 * n = 0 + j by omega]
end
section
def v_u_rulesV : List Cond := .code yX12_rules cX12_rules 2 (some .int) :: vA
abbrev rm_u_rulesV : Room := { frames := 72, cells := 6, slots := 3206, locals := 2880 }
def w_u_rulesV : Nat → Nat → Bool := wl [22, 23, 24, 25] [(2, 1), (2, 2), (2, 3), (2, 5), (2, 9)]
set_option maxHeartbeats 4000000 in
set_option maxRecDepth 100000 in
theorem q_u_rulesV (l : Launch) (dC : Nat → ClassId) (dI : Nat → Nat → Nat) (cT : Nat → ClassId) (cf : Nat → Nat) (hC : CF cf) (ad : Nat → Nat) (E : Nat → va_E) (sz : Nat) (a0 : Int32) (hI0 : IXL cT (shC cf) (spC cf) (LC cf) ad E)  : Met l yX12_rules v_u_rulesV rm_u_rulesV (va_Pc [.ref (ad 0), .int a0] (fun U => (HWL dC dI (TYC cT) cf ad E sz) U ∧ va_Nw (.castable "[I" "java/lang/Cloneable") U)) (va_Qi (S := (Nat → Nat) × (Nat → Nat) × (Nat → va_E)) (fun r u => MadeX 1 cT cf ad w_u_rulesV E u (r = -1 ∧ ¬ ((0 ≤ a0.toInt ∧ a0.toInt ≤ 400) ∧ cf 1 < 16 ∧ (textS false (tT E) (tN E)).flt = -1) ∧ TS E u.2.2) (fun _ => r.toInt = ((cf 1 : Nat) : Int) ∧ ((0 ≤ a0.toInt ∧ a0.toInt ≤ 400) ∧ cf 1 < 16 ∧ (textS false (tT E) (tN E)).flt = -1) ∧ xi (u.2.2 (64 * (cf 1 + 1) + 1)) 0 = a0 ∧ xi (u.2.2 (64 * (cf 1 + 1) + 1)) 1 = xi (E 1) 0 ∧ xi (u.2.2 2) 1 = 0 ∧ RuNew E cf u.1 u.2.2)) (fun u t => va_P (dC, dI) vwCl (WL (LC u.1) u.2.1 u.2.2) t.heap ∧ va_D (va_A (WL (LC cf) ad E) sz) (WL (LC u.1) u.2.1 u.2.2)) (va_A (WL (LC cf) ad E) sz)) 6 3206 (va_A (WL (LC cf) ad E) sz) := by
  obtain ⟨⟨hc0, hc1, hc2, hc3, hc4, hc5⟩, hcr⟩ := id hC
  refine Met.ofW (cc := cX12_rules) (maxL := 2) (ret := (some .int)) (by decide) rfl ?_
  intro p e s m args below meth c s₁ B hml hv
  obtain ⟨hargs, ⟨hsz, hP, hK, hD0, hEV⟩, hCL⟩ := hv
  subst hsz
  have hx := B.exec
  have hb := B.bytes
  have hr := B.returns
  have hts := atoms_spec (ws := v_u_rulesV) B.pre
  have hown : s.vm.findClass RX12 = some m.cls := findClass_of_methodNamed B.named
  have hlocks := B.notSynchronized
  have hinX0 : ∀ w ∈ u_ws RX0 TX0 11, w ∈ v_u_rulesV := fun w h => vA_in _ w (in_X0 w h)
  have hinX10 : ∀ w ∈ u_ws RX10 TX10 10, w ∈ v_u_rulesV := fun w h => vA_in _ w (in_X10 w h)
  have hinX12 : ∀ w ∈ u_ws RX12 TX12 6, w ∈ v_u_rulesV := fun w h => vA_in _ w (in_X12 w h)
  generalize hAe : va_A (WL (LC cf) ad E) s.heap.size = A at hEV ⊢
  have hA : ∀ q : Nat, s.heap.size ≤ q → A q := fun q h => by rw [← hAe]; exact Or.inr h
  have hD : va_D A (WL (LC cf) ad E) := by rw [← hAe]; exact hD0.self
  have hS : va_S A s.heap s.heap [] := va_S.rf
  have hI := hI0
  have hKp : Kp w_u_rulesV E E := Kp.rf
  have hl := lv_entry ([.ref (ad 0), .int a0]) (n := 2) (Nat.le_of_ble_eq_true rfl)
  obtain ⟨Q, hQ⟩ : ∃ Q, Q = MQ below (va_Qi (S := (Nat → Nat) × (Nat → Nat) × (Nat → va_E)) (fun r u => MadeX 1 cT cf ad w_u_rulesV E u (r = -1 ∧ ¬ ((0 ≤ a0.toInt ∧ a0.toInt ≤ 400) ∧ cf 1 < 16 ∧ (textS false (tT E) (tN E)).flt = -1) ∧ TS E u.2.2) (fun _ => r.toInt = ((cf 1 : Nat) : Int) ∧ ((0 ≤ a0.toInt ∧ a0.toInt ≤ 400) ∧ cf 1 < 16 ∧ (textS false (tT E) (tN E)).flt = -1) ∧ xi (u.2.2 (64 * (cf 1 + 1) + 1)) 0 = a0 ∧ xi (u.2.2 (64 * (cf 1 + 1) + 1)) 1 = xi (E 1) 0 ∧ xi (u.2.2 2) 1 = 0 ∧ RuNew E cf u.1 u.2.2)) (fun u t => va_P (dC, dI) vwCl (WL (LC u.1) u.2.1 u.2.2) t.heap ∧ va_D A (WL (LC u.1) u.2.1 u.2.2)) (A)) args s 6 3206 (A) := ⟨_, rfl⟩
  rw [← hQ, show entryFrame m args 2 = _ from (congrArg (fun z => entryFrame m z 2) hargs).trans (lg_entry_eq _ _ _)]
  generalize (lg_sl ([.ref (ad 0), .int a0]) ++ List.replicate (2 - (lg_sl ([.ref (ad 0), .int a0])).length) Slot.unset).toArray = ls at hl ⊢
  have hl : lv_has ls 2 [(0, .ref (ad 0)), (1, .int a0)] := hl
  refine lv_iload_n hx hb dX12_rules_0 rfl (lv_at hl 1 rfl) ?_
  refine th_pi (va_runS (As := [.int a0]) (rest := []) ⟨hx, hb, hml, hown, hts⟩ (q_cisDay l a0) (va_cwS 1 hts (gi_S (in_10 _ (zs16 (zs4 (zs4 (zs4 (zs0)))))) (in_10 _ (zs16 (zs4 (zs4 (zs4 (zs1 (zs0))))))) (in_4 _ (zs16 (zs4 (zs1 (zs1 (zs1 (zs0))))))) (in_10 _ (zs16 (zs4 (zs4 (zs4 (zs1 (zs1 (zs0))))))))) rfl rfl rfl hz_yX12_isDay_1 ⟨Nat.le_of_ble_eq_true rfl, Nat.le_of_ble_eq_true rfl⟩) ⟨fun _ _ _ _ q => q, fun _ _ _ => ⟨rfl, trivial⟩⟩ rfl rfl hl.1 rfl (lv_room (Nat.le_of_ble_eq_true rfl)) dX12_rules_1 ⟨Nat.le_of_ble_eq_true rfl, Nat.le_of_ble_eq_true rfl⟩) hS (fun r1 H1 locs1 hw hk1 hS => ?_)
  have hP := ub_keep hP hk1
  generalize H1 = H at hP hS ⊢
  generalize locs1 = locs at hS ⊢
  rcases hw with hw | hw
  · -- cisDay, case 0
    obtain ⟨rfl, f2⟩ := hw
    have t3 : (0 : Int) ≤ a0.toInt := f2.1
    have t4 : a0.toInt ≤ 400 := f2.2
    have i5 : 0 ≤ a0.toInt ∧ a0.toInt ≤ 2147483647 := iv_le_r t3 (il_ 0) (iv_all _) (by decide)
    have i6 : 0 ≤ a0.toInt ∧ a0.toInt ≤ 400 := iv_le_l t4 i5 (il_ 400) (by decide)
    refine lv_if_eq (tgt := 22) hx hb dX12_rules_4 (by decide) (fun c7 => ?_) (fun c7 => ?_)
    · --4 taken
      exact absurd c7 (by decide)
    · --4 not
      refine lv_aload_n hx hb dX12_rules_7 rfl (lv_at hl 0 rfl) ?_
      refine th_getL (ci := 13) (C := RX12) (T := TX12) (N := 6) (v := .ref (ad 1)) hx hb hts hinX12 hown hK hP hI 0 (mF 0 rfl) rfl rfl 0 (Nat.le_of_ble_eq_true rfl) (hts _ (vA_in _ _ (in_10 _ (zs16 (zs1 (zs0)))))) (fun _ h9 => h9) (hI.fr 0 (mF 0 rfl) rfl (Nat.le_of_ble_eq_true rfl) 1 rfl) dX12_rules_8 ?_
      refine th_getL (ci := 1) (C := RX0) (T := TX0) (N := 11) (v := .ref (ad 8)) hx hb hts hinX0 hown hK hP hI 1 (mF 1 rfl) rfl rfl 4 (Nat.le_of_ble_eq_true rfl) (hts _ (vA_in _ _ (in_14 _ (zs4 (zs1 (zs1 (zs0))))))) (fun _ h9 => h9) (hI.fr 1 (mF 1 rfl) rfl (Nat.le_of_ble_eq_true rfl) 8 rfl) dX12_rules_11 ?_
      refine th_riL (va_runV (As := []) (rest := []) ⟨hx, hb, hml, hown, hts⟩ (q_size1 l dC dI cT cf hC ad E H.size hI) (cwV 0 hts (gi_V (in_10 _ (zs16 (zs16 (zs0)))) (in_4 _ (zs16 (zs16 (zs1 (zs1 (zs1 (zs0))))))) (in_4 _ (zs16 (zs16 (zs4 (zs0))))) (in_3 _ (zs16 (zs1 (zs1 (zs0))))) (in_4 _ (zs16 (zs1 (zs1 (zs1 (zs0))))))) rfl rfl rfl ⟨rfl, hz_yJx4a65c_size_8abf5_0⟩ ⟨Nat.le_of_ble_eq_true rfl, Nat.le_of_ble_eq_true rfl⟩) ⟨HWL_bl, va_recv hK hP (ci := 0) (q0 := posL 8 (LC cf)) rfl (hI.ob 8 (mF 8 rfl) rfl), (HWL_wi hP hK (WL_D hD) hS hA hEV)⟩ rfl rfl hl.1 rfl (lv_room (Nat.le_of_ble_eq_true rfl)) dX12_rules_14 ⟨Nat.le_of_ble_eq_true rfl, Nat.le_of_ble_eq_true rfl⟩) hS hP (fun r8 H locs hw hP hS => ?_)
      obtain ⟨f9, f10⟩ := hw
      refine lv_bipush (v := 16) hx hb dX12_rules_17 (by decide) ?_
      refine lv_icmp_lt (tgt := 24) hx hb dX12_rules_19 (by decide) (fun c11 => ?_) (fun c11 => ?_)
      · --19 taken
        have t12 : r8.toInt < 16 := ti_lt c11
        have i13 : 0 ≤ r8.toInt ∧ r8.toInt ≤ 15 := iv_lt_l t12 f9 (il_ 16) (by decide)
        refine lv_aload_n hx hb dX12_rules_24 rfl (lv_at hl 0 rfl) ?_
        refine th_getL (ci := 13) (C := RX12) (T := TX12) (N := 6) (v := .ref (ad 2)) hx hb hts hinX12 hown hK hP hI 0 (mF 0 rfl) rfl rfl 1 (Nat.le_of_ble_eq_true rfl) (hts _ (vA_in _ _ (in_14 _ (zs4 (zs4 (zs1 (zs1 (zs1 (zs0))))))))) (fun _ h9 => h9) (hI.fr 0 (mF 0 rfl) rfl (Nat.le_of_ble_eq_true rfl) 2 rfl) dX12_rules_25 ?_
        refine th_iL (va_runV (As := []) (rest := []) ⟨hx, hb, hml, hown, hts⟩ (q_readV l dC dI cT cf hC ad E H.size hI) (cwV 0 hts (gi_V (in_18 _ (zs4 (zs1 (zs1 (zs1 (zs0)))))) (in_18 _ (zs4 (zs4 (zs0)))) (in_18 _ (zs4 (zs4 (zs1 (zs0))))) (in_8 _ (zs4 (zs4 (zs4 (zs1 (zs1 (zs0))))))) (in_8 _ (zs16 (zs4 (zs1 (zs1 (zs0))))))) rfl rfl rfl ⟨rfl, hz_yX10_read_0⟩ ⟨Nat.le_of_ble_eq_true rfl, Nat.le_of_ble_eq_true rfl⟩) ⟨HWL_bl, va_recv hK hP (ci := 11) (q0 := posL 2 (LC cf)) rfl (hI.ob 2 (mF 2 rfl) rfl), (HWL_wi hP hK (WL_D hD) hS hA hEV)⟩ rfl rfl hl.1 rfl (lv_room (Nat.le_of_ble_eq_true rfl)) dX12_rules_28 ⟨Nat.le_of_ble_eq_true rfl, Nat.le_of_ble_eq_true rfl⟩) (WL_D hD) hS hA (fun r14 E15 H locs hw hP hS => ?_)
        obtain ⟨hI, kq16, hw⟩ := hw
        have hKb := hKp
        have hKp := hKp.tr kq16 (wl_sub rfl rfl)
        obtain ⟨f17, f18, f19, f20, f21⟩ := hw
        refine lv_iconst (v := -1) hx hb dX12_rules_31 (by decide) ?_
        refine lv_icmp_eq (tgt := 37) hx hb dX12_rules_32 (by decide) (fun c22 => ?_) (fun c22 => ?_)
        · --32 taken
          have t23 : r14.toInt = -1 := ti_eq c22
          have i24 : -1 ≤ r14.toInt ∧ r14.toInt ≤ -1 := iv_eqi t23 f17 (il_ (-1)) (by decide)
          refine lv_aload_n hx hb dX12_rules_37 rfl (lv_at hl 0 rfl) ?_
          refine th_getL (ci := 13) (C := RX12) (T := TX12) (N := 6) (v := .ref (ad 1)) hx hb hts hinX12 hown hK hP hI 0 (mF 0 rfl) rfl rfl 0 (Nat.le_of_ble_eq_true rfl) (hts _ (vA_in _ _ (in_10 _ (zs16 (zs1 (zs0)))))) (fun _ h9 => h9) (hI.fr 0 (mF 0 rfl) rfl (Nat.le_of_ble_eq_true rfl) 1 rfl) dX12_rules_38 ?_
          refine th_getL (ci := 1) (C := RX0) (T := TX0) (N := 11) (v := .ref (ad 8)) hx hb hts hinX0 hown hK hP hI 1 (mF 1 rfl) rfl rfl 4 (Nat.le_of_ble_eq_true rfl) (hts _ (vA_in _ _ (in_14 _ (zs4 (zs1 (zs1 (zs0))))))) (fun _ h9 => h9) (hI.fr 1 (mF 1 rfl) rfl (Nat.le_of_ble_eq_true rfl) 8 rfl) dX12_rules_41 ?_
          refine lv_aload_n hx hb dX12_rules_44 rfl (lv_at hl 0 rfl) ?_
          refine th_getL (ci := 13) (C := RX12) (T := TX12) (N := 6) (v := .ref (ad 2)) hx hb hts hinX12 hown hK hP hI 0 (mF 0 rfl) rfl rfl 1 (Nat.le_of_ble_eq_true rfl) (hts _ (vA_in _ _ (in_14 _ (zs4 (zs4 (zs1 (zs1 (zs1 (zs0))))))))) (fun _ h9 => h9) (hI.fr 0 (mF 0 rfl) rfl (Nat.le_of_ble_eq_true rfl) 2 rfl) dX12_rules_45 ?_
          refine lv_iload_n hx hb dX12_rules_48 rfl (lv_at hl 1 rfl) ?_
          refine lv_aload_n hx hb dX12_rules_49 rfl (lv_at hl 0 rfl) ?_
          refine th_getL (ci := 13) (C := RX12) (T := TX12) (N := 6) (v := .ref (ad 1)) hx hb hts hinX12 hown hK hP hI 0 (mF 0 rfl) rfl rfl 0 (Nat.le_of_ble_eq_true rfl) (hts _ (vA_in _ _ (in_10 _ (zs16 (zs1 (zs0)))))) (fun _ h9 => h9) (hI.fr 0 (mF 0 rfl) rfl (Nat.le_of_ble_eq_true rfl) 1 rfl) dX12_rules_50 ?_
          have i25 : 0 ≤ (xi (E 1) 0).toInt ∧ (xi (E 1) 0).toInt ≤ 400 := hI0.iv 1 (mF 1 rfl) rfl (Nat.le_of_ble_eq_true rfl) rfl
          refine th_getL (ci := 1) (C := RX0) (T := TX0) (N := 11) (v := .int (xi (E 1) 0)) hx hb hts hinX0 hown hK hP hI 1 (mF 1 rfl) rfl rfl 0 (Nat.le_of_ble_eq_true rfl) (hts _ (vA_in _ _ (in_10 _ (zs16 (zs4 (zs4 (zs1 (zs1 (zs0))))))))) (fun _ h9 => h9) (th_v0L hKp hI0 1 (mF 1 rfl) rfl (Nat.le_of_ble_eq_true rfl) rfl rfl) dX12_rules_53 ?_
          have hFW : ∀ z, va_A (WL (LC cf) ad E15) H.size z → A z := all_free (WL_D hD) hS hA
          have htp : TPok (xi (E15 24)) (xi (E15 25)) (xi (E15 2) 9) (xi (E15 2) 5) ∧ (xi (E15 24) (xi (E15 2) 9).toNatClampNeg).toInt ≤ (xi (E15 2) 5).toInt := by assumption
          have ins : 0 ≤ (xi (E15 2) 5).toInt ∧ (xi (E15 2) 5).toInt ≤ 200 := hI.iv 2 (mF 2 rfl) rfl (Nat.le_of_ble_eq_true rfl) rfl
          obtain ⟨ns, hnse⟩ : ∃ n : Nat, n = (xi (E15 2) 5).toNatClampNeg := ⟨_, rfl⟩
          have hnsi : (xi (E15 2) 5).toInt = ((ns : Nat) : Int) := by rw [hnse, tn_]; omega
          have hnsb : ns ≤ 200 := by omega
          have inc : 0 ≤ (xi (E15 2) 9).toInt ∧ (xi (E15 2) 9).toInt ≤ 51 := hI.iv 2 (mF 2 rfl) rfl (Nat.le_of_ble_eq_true rfl) rfl
          obtain ⟨nc, hnce⟩ : ∃ n : Nat, n = (xi (E15 2) 9).toNatClampNeg := ⟨_, rfl⟩
          have hnci : (xi (E15 2) 9).toInt = ((nc : Nat) : Int) := by rw [hnce, tn_]; omega
          have hncb : nc ≤ 51 := by omega
          refine va_callr (va_runV (As := [.int a0, .int (xi (E 1) 0)]) (rest := [.ref (ad 8)]) ⟨hx, hb, hml, hown, hts⟩ (q_u_asRules l dC dI cT cf hC ad E15 H.size a0 (xi (E 1) 0) hI) (cwV 2 hts (gi_V (in_22 _ (zs16 (zs16 (zs4 (zs0))))) (in_22 _ (zs16 (zs16 (zs4 (zs1 (zs0)))))) (in_22 _ (zs16 (zs16 (zs4 (zs1 (zs1 (zs0))))))) (in_8 _ (zs4 (zs4 (zs4 (zs1 (zs1 (zs0))))))) (in_7 _ (zs16 (zs16 (zs0))))) rfl rfl rfl ⟨rfl, hz_yX10_asRules_2⟩ ⟨Nat.le_of_ble_eq_true rfl, Nat.le_of_ble_eq_true rfl⟩) ⟨fun a U g mk q => by obtain ⟨e0, ⟨e1, qP, qK, qD, qE⟩, qC⟩ := q; exact ⟨e0, ⟨e1, qP, va_K.moved (u := U) (U := U.calling g mk a) (Vm.Alike.refl U.vm) qK, qD, EVC_c qE⟩, va_Nw.same (u := U) (U := U.calling g mk a) rfl rfl qC⟩, va_recv hK hP (ci := 11) (q0 := posL 2 (LC cf)) rfl (hI.ob 2 (mF 2 rfl) rfl), fun U hU hW => ⟨rfl, ⟨by rw [hU], by rw [hU]; exact hP, va_K.moved hW.alike hK, (WL_D hD).weaken (fun _ _ _ _ => trivial), EVC_w hU hW hS hFW hEV⟩, va_Nw.warmC hW hCL⟩⟩ rfl rfl hl.1 rfl (lv_room (Nat.le_of_ble_eq_true rfl)) dX12_rules_56 ⟨Nat.le_of_ble_eq_true rfl, Nat.le_of_ble_eq_true rfl⟩) hS (fun z _ h => hFW z h) hFW (fun u9 qn t H1 locs ht hvm hw hB hz1 hk1 hS => ?_)
          obtain ⟨y0, y1, y2, y3, f0, f1, f2, f3⟩ := u9
          obtain ⟨hP1, hD1⟩ := hB
          obtain ⟨hf0, hf1, hf2, hf3⟩ := hw
          rw [ht] at hP1
          dsimp only at hP1 hD1 hf0 hf1 hf2 hf3
          rw [← hnse, ← hnce] at hP1 hD1
          rw [← hnce] at hf1 hf2 hf3
          have hP2 : va_P (dC, dI) vwCl ([(qn, .inr (8, [.int a0, .int (xi (E 1) 0), .ref y0, .ref y1, .ref y2, .ref y3])), (y3, .inl (cT 0, nc, .inl f3)), (y2, .inl (cT 0, nc + 1, .inl f2)), (y1, .inl (cT 0, nc, .inl f1)), (y0, .inl (cT 0, ns, .inl f0))] ++ WL (LC cf) ad E15) H1 := hP1
          have hD2 : va_D A ([(qn, .inr (8, [.int a0, .int (xi (E 1) 0), .ref y0, .ref y1, .ref y2, .ref y3])), (y3, .inl (cT 0, nc, .inl f3)), (y2, .inl (cT 0, nc + 1, .inl f2)), (y1, .inl (cT 0, nc, .inl f1)), (y0, .inl (cT 0, ns, .inl f0))] ++ WL (LC cf) ad E15) := hD1.weaken (fun _ _ _ h => hFW _ h)
          generalize H1 = H at hP2 hS ⊢
          have hP : va_P (dC, dI) vwCl (WL (LC cf) ad E15) H := va_P_sub hP2 (fun x hx => List.mem_append_right _ hx)
          obtain ⟨ad1, had1⟩ : ∃ z, z = va_up (va_up (va_up (va_up (va_up ad (64 * (cf 1 + 1) + 1) qn) (64 * (cf 1 + 1) + 5) y3) (64 * (cf 1 + 1) + 4) y2) (64 * (cf 1 + 1) + 3) y1) (64 * (cf 1 + 1) + 2) y0 := ⟨_, rfl⟩
          obtain ⟨E1, hE1⟩ : ∃ z : Nat → va_E, z = va_up (va_up (va_up (va_up (va_up E15 (64 * (cf 1 + 1) + 1) (.inr (8, [.int a0, .int (xi (E 1) 0), .ref y0, .ref y1, .ref y2, .ref y3]))) (64 * (cf 1 + 1) + 5) (.inl (cT 0, nc, .inl f3))) (64 * (cf 1 + 1) + 4) (.inl (cT 0, nc + 1, .inl f2))) (64 * (cf 1 + 1) + 3) (.inl (cT 0, nc, .inl f1))) (64 * (cf 1 + 1) + 2) (.inl (cT 0, ns, .inl f0)) := ⟨_, rfl⟩
          have hKM := kmRules (n := cf 1)
          have hko : ∀ x, x ∈ [64 * (cf 1 + 1) + 1, 64 * (cf 1 + 1) + 5, 64 * (cf 1 + 1) + 4, 64 * (cf 1 + 1) + 3, 64 * (cf 1 + 1) + 2] → x ∉ LC cf := K_out (J := 1) (by decide) hKM
          have hko0 : (64 * (cf 1 + 1) + 1) ∉ LC cf := hko _ (by simp)
          have hko1 : (64 * (cf 1 + 1) + 5) ∉ LC cf := hko _ (by simp)
          have hko2 : (64 * (cf 1 + 1) + 4) ∉ LC cf := hko _ (by simp)
          have hko3 : (64 * (cf 1 + 1) + 3) ∉ LC cf := hko _ (by simp)
          have hko4 : (64 * (cf 1 + 1) + 2) ∉ LC cf := hko _ (by simp)
          have haa : ∀ o, o ∈ LC cf → ad1 o = ad o := fun o h => by have n0 : o ≠ (64 * (cf 1 + 1) + 1) := fun e => hko0 (e ▸ h); have n1 : o ≠ (64 * (cf 1 + 1) + 5) := fun e => hko1 (e ▸ h); have n2 : o ≠ (64 * (cf 1 + 1) + 4) := fun e => hko2 (e ▸ h); have n3 : o ≠ (64 * (cf 1 + 1) + 3) := fun e => hko3 (e ▸ h); have n4 : o ≠ (64 * (cf 1 + 1) + 2) := fun e => hko4 (e ▸ h); rw [had1, va_up_ne _ _ n4, va_up_ne _ _ n3, va_up_ne _ _ n2, va_up_ne _ _ n1, va_up_ne _ _ n0]
          have hee : ∀ o, o ∈ LC cf → E1 o = E15 o := fun o h => by have n0 : o ≠ (64 * (cf 1 + 1) + 1) := fun e => hko0 (e ▸ h); have n1 : o ≠ (64 * (cf 1 + 1) + 5) := fun e => hko1 (e ▸ h); have n2 : o ≠ (64 * (cf 1 + 1) + 4) := fun e => hko2 (e ▸ h); have n3 : o ≠ (64 * (cf 1 + 1) + 3) := fun e => hko3 (e ▸ h); have n4 : o ≠ (64 * (cf 1 + 1) + 2) := fun e => hko4 (e ▸ h); rw [hE1, va_up_ne _ _ n4, va_up_ne _ _ n3, va_up_ne _ _ n2, va_up_ne _ _ n1, va_up_ne _ _ n0]
          have aq0 : ad1 (64 * (cf 1 + 1) + 1) = qn := by rw [had1, va_up_ne _ _ (show (64 * (cf 1 + 1) + 1) ≠ (64 * (cf 1 + 1) + 2) by omega), va_up_ne _ _ (show (64 * (cf 1 + 1) + 1) ≠ (64 * (cf 1 + 1) + 3) by omega), va_up_ne _ _ (show (64 * (cf 1 + 1) + 1) ≠ (64 * (cf 1 + 1) + 4) by omega), va_up_ne _ _ (show (64 * (cf 1 + 1) + 1) ≠ (64 * (cf 1 + 1) + 5) by omega), va_up_self]
          have eq0 : E1 (64 * (cf 1 + 1) + 1) = .inr (8, [.int a0, .int (xi (E 1) 0), .ref y0, .ref y1, .ref y2, .ref y3]) := by rw [hE1, va_up_ne _ _ (show (64 * (cf 1 + 1) + 1) ≠ (64 * (cf 1 + 1) + 2) by omega), va_up_ne _ _ (show (64 * (cf 1 + 1) + 1) ≠ (64 * (cf 1 + 1) + 3) by omega), va_up_ne _ _ (show (64 * (cf 1 + 1) + 1) ≠ (64 * (cf 1 + 1) + 4) by omega), va_up_ne _ _ (show (64 * (cf 1 + 1) + 1) ≠ (64 * (cf 1 + 1) + 5) by omega), va_up_self]
          have aq1 : ad1 (64 * (cf 1 + 1) + 5) = y3 := by rw [had1, va_up_ne _ _ (show (64 * (cf 1 + 1) + 5) ≠ (64 * (cf 1 + 1) + 2) by omega), va_up_ne _ _ (show (64 * (cf 1 + 1) + 5) ≠ (64 * (cf 1 + 1) + 3) by omega), va_up_ne _ _ (show (64 * (cf 1 + 1) + 5) ≠ (64 * (cf 1 + 1) + 4) by omega), va_up_self]
          have eq1 : E1 (64 * (cf 1 + 1) + 5) = .inl (cT 0, nc, .inl f3) := by rw [hE1, va_up_ne _ _ (show (64 * (cf 1 + 1) + 5) ≠ (64 * (cf 1 + 1) + 2) by omega), va_up_ne _ _ (show (64 * (cf 1 + 1) + 5) ≠ (64 * (cf 1 + 1) + 3) by omega), va_up_ne _ _ (show (64 * (cf 1 + 1) + 5) ≠ (64 * (cf 1 + 1) + 4) by omega), va_up_self]
          have aq2 : ad1 (64 * (cf 1 + 1) + 4) = y2 := by rw [had1, va_up_ne _ _ (show (64 * (cf 1 + 1) + 4) ≠ (64 * (cf 1 + 1) + 2) by omega), va_up_ne _ _ (show (64 * (cf 1 + 1) + 4) ≠ (64 * (cf 1 + 1) + 3) by omega), va_up_self]
          have eq2 : E1 (64 * (cf 1 + 1) + 4) = .inl (cT 0, nc + 1, .inl f2) := by rw [hE1, va_up_ne _ _ (show (64 * (cf 1 + 1) + 4) ≠ (64 * (cf 1 + 1) + 2) by omega), va_up_ne _ _ (show (64 * (cf 1 + 1) + 4) ≠ (64 * (cf 1 + 1) + 3) by omega), va_up_self]
          have aq3 : ad1 (64 * (cf 1 + 1) + 3) = y1 := by rw [had1, va_up_ne _ _ (show (64 * (cf 1 + 1) + 3) ≠ (64 * (cf 1 + 1) + 2) by omega), va_up_self]
          have eq3 : E1 (64 * (cf 1 + 1) + 3) = .inl (cT 0, nc, .inl f1) := by rw [hE1, va_up_ne _ _ (show (64 * (cf 1 + 1) + 3) ≠ (64 * (cf 1 + 1) + 2) by omega), va_up_self]
          have aq4 : ad1 (64 * (cf 1 + 1) + 2) = y0 := by rw [had1, va_up_self]
          have eq4 : E1 (64 * (cf 1 + 1) + 2) = .inl (cT 0, ns, .inl f0) := by rw [hE1, va_up_self]
          have hw9 : WL ([64 * (cf 1 + 1) + 1, 64 * (cf 1 + 1) + 5, 64 * (cf 1 + 1) + 4, 64 * (cf 1 + 1) + 3, 64 * (cf 1 + 1) + 2] ++ LC cf) ad1 E1 = [(qn, .inr (8, [.int a0, .int (xi (E 1) 0), .ref y0, .ref y1, .ref y2, .ref y3])), (y3, .inl (cT 0, nc, .inl f3)), (y2, .inl (cT 0, nc + 1, .inl f2)), (y1, .inl (cT 0, nc, .inl f1)), (y0, .inl (cT 0, ns, .inl f0))] ++ WL (LC cf) ad E15 := by
            show (ad1 (64 * (cf 1 + 1) + 1), E1 (64 * (cf 1 + 1) + 1)) :: (ad1 (64 * (cf 1 + 1) + 5), E1 (64 * (cf 1 + 1) + 5)) :: (ad1 (64 * (cf 1 + 1) + 4), E1 (64 * (cf 1 + 1) + 4)) :: (ad1 (64 * (cf 1 + 1) + 3), E1 (64 * (cf 1 + 1) + 3)) :: (ad1 (64 * (cf 1 + 1) + 2), E1 (64 * (cf 1 + 1) + 2)) :: WL (LC cf) ad1 E1 = _
            rw [aq0, eq0, aq1, eq1, aq2, eq2, aq3, eq3, aq4, eq4, WL_congr (ad' := ad) (E' := E15) fun o h => ⟨haa o h, hee o h⟩]
            rfl
          rw [← hw9] at hP2 hD2
          have hI1 := IX_ad hI hC haa hee
          have hlt : cf 1 < 16 := by omega
          obtain ⟨hG, hCn⟩ := cfR_up hC hlt hncb hnsb
          have z0 := ln_0
          have hnowi : 0 ≤ (xi (E 1) 0).toInt ∧ (xi (E 1) 0).toInt ≤ 400 := i25
          have hfrm : 0 ≤ a0.toInt ∧ a0.toInt ≤ 400 := i6
          have ec : cfR cf nc ns (8 + 2 * cf 1) = nc := cfR_c
          have es : cfR cf nc ns (9 + 2 * cf 1) = ns := cfR_s
          have hb1 : ∀ j : Nat, j < nc → 0 ≤ (xi (E15 23) j).toInt ∧ (xi (E15 23) j).toInt ≤ 255 := fun j hj => hI.iv 23 (mF 23 rfl) rfl (show j < 51 by omega) rfl
          have hb2 : ∀ j : Nat, j < nc + 1 → 0 ≤ (xi (E15 24) j).toInt ∧ (xi (E15 24) j).toInt ≤ 200 := fun j hj => hI.iv 24 (mF 24 rfl) rfl (show j < 52 by omega) rfl
          have hb3 : ∀ j : Nat, j < nc → 0 ≤ (xi (E15 25) j).toInt ∧ (xi (E15 25) j).toInt ≤ 200 := fun j hj => hI.iv 25 (mF 25 rfl) rfl (show j < 51 by omega) rfl
          have hnew : ∀ t', t' < 15 → kl t' = 1 → okS cT (shP (cfR cf nc ns) t' (cf 1)) (E1 (64 * (cf 1 + 1) + t')) ∧ ∀ j, j < (shP (cfR cf nc ns) t' (cf 1)).2.2 → okV ad1 (spP (cfR cf nc ns) t' (cf 1) j) (xv (E1 (64 * (cf 1 + 1) + t')) j) := by
            intro t' h1 h2
            have h3 : ∀ t, t < 15 → kl t = 1 → 1 ≤ t ∧ t ≤ 5 := by decide
            have h3 := h3 t' h1 h2
            rcases (show t' = 1 ∨ t' = 2 ∨ t' = 3 ∨ t' = 4 ∨ t' = 5 by omega) with rfl | rfl | rfl | rfl | rfl
            · rw [eq0]
              refine ⟨rfl, fun j hj => ?_⟩
              have hj : j < 6 := hj
              rcases (show j = 0 ∨ j = 1 ∨ j = 2 ∨ j = 3 ∨ j = 4 ∨ j = 5 by omega) with rfl | rfl | rfl | rfl | rfl | rfl
              · exact okI rfl hfrm
              · exact okI rfl hnowi
              · exact congrArg Value.ref aq4.symm
              · exact congrArg Value.ref aq3.symm
              · exact congrArg Value.ref aq2.symm
              · exact congrArg Value.ref aq1.symm
            · rw [eq4]
              refine ⟨by show _ = Sum.inl (cT 0, cfR cf nc ns (9 + 2 * cf 1), _); rw [es]; rfl, fun j hj => ?_⟩
              exact okI (x := f0 j) rfl (iv_all _)
            · rw [eq3]
              refine ⟨by show _ = Sum.inl (cT 0, cfR cf nc ns (8 + 2 * cf 1), _); rw [ec]; rfl, fun j hj => ?_⟩
              have hj : j < cfR cf nc ns (8 + 2 * cf 1) := hj
              rw [ec] at hj
              exact okI (x := f1 j) rfl (by rw [hf1 j hj]; exact hb1 j hj)
            · rw [eq2]
              refine ⟨by show _ = Sum.inl (cT 0, cfR cf nc ns (8 + 2 * cf 1) + 1, _); rw [ec]; rfl, fun j hj => ?_⟩
              have hj : j < cfR cf nc ns (8 + 2 * cf 1) + 1 := hj
              rw [ec] at hj
              refine okI (x := f2 j) (lo := 0) (hi := ((cfR cf nc ns (9 + 2 * cf 1) : Nat) : Int)) rfl ?_
              rw [es, hf2 j hj]
              have h7 := hb2 j hj
              by_cases e7 : j < nc
              · have h8 := (htp.1 j (by omega)).1
                omega
              · obtain rfl : j = nc := by omega
                have h8 := htp.2
                rw [← hnce] at h8
                omega
            · rw [eq1]
              refine ⟨by show _ = Sum.inl (cT 0, cfR cf nc ns (8 + 2 * cf 1), _); rw [ec]; rfl, fun j hj => ?_⟩
              have hj : j < cfR cf nc ns (8 + 2 * cf 1) := hj
              rw [ec] at hj
              refine okI (x := f3 j) (lo := 0) (hi := ((cfR cf nc ns (9 + 2 * cf 1) : Nat) : Int)) rfl ?_
              rw [es, hf3 j hj]
              have h7 := hb3 j hj
              have h8 := (htp.1 j (by omega)).2
              omega
          have hM := k_addW l dC dI cT cf hC ad1 E1 (cfR cf nc ns) 1 (by decide) hG (by omega) [64 * (cf 1 + 1) + 1, 64 * (cf 1 + 1) + 5, 64 * (cf 1 + 1) + 4, 64 * (cf 1 + 1) + 3, 64 * (cf 1 + 1) + 2] ndRules hKM 8 RX7 TX7 6 _ rfl (fun _ => rfl) (List.mem_of_getElem? (i := 1) rfl) eq0 H.size hI1 hnew
          rw [show ad1 (7 + 1) = ad 8 from haa _ (mF _ rfl), show ad1 (64 * (cf 1 + 1) + lkd 1) = qn from aq0] at hM
          have hFA := all_free hD2 hS hA
          refine va_calli (va_runV (As := [.ref qn]) (rest := []) ⟨hx, hb, hml, hown, hts⟩ hM (cwV 1 hts (gi_V (in_11 _ (zs1 (zs1 (zs1 (zs0))))) (in_11 _ (zs4 (zs0))) (in_11 _ (zs4 (zs1 (zs0)))) (in_3 _ (zs16 (zs1 (zs1 (zs0))))) (in_3 _ (zs16 (zs16 (zs0))))) rfl rfl rfl (by decide +kernel) ⟨Nat.le_of_ble_eq_true rfl, Nat.le_of_ble_eq_true rfl⟩) ⟨fun a U g mk q => by obtain ⟨e0, e1, qP, qK, qD, qE⟩ := q; exact ⟨e0, e1, qP, va_K.moved (u := U) (U := U.calling g mk a) (Vm.Alike.refl U.vm) qK, qD, EVC_c qE⟩, va_recv hK hP (ci := 0) (q0 := posL 8 (LC cf)) rfl (hI.ob 8 (mF 8 rfl) rfl), fun U hU hW => ⟨rfl, by rw [hU], by rw [hU]; exact hP2, va_K.moved hW.alike hK, hD2.weaken (fun _ _ _ _ => trivial), EVC_w hU hW hS hFA hEV⟩⟩ rfl rfl hl.1 rfl (lv_room (Nat.le_of_ble_eq_true rfl)) dX12_rules_59 ⟨Nat.le_of_ble_eq_true rfl, Nat.le_of_ble_eq_true rfl⟩) hS (fun z _ h => hFA z h) hFA (fun r9 u9 t H1 locs ht hvm hw hB hz1 hk1 hS => ?_)
          obtain ⟨rfl, hI9, a9, e9⟩ := hw
          obtain ⟨hP9, hD9⟩ := hB
          rw [ht] at hP9
          have hD9 := hD9.weaken (B := A) (fun _ _ _ h => hFA _ h)
          generalize H1 = H at hP9 hS ⊢
          obtain ⟨ad9, E9⟩ := u9
          dsimp only at hI9 a9 e9 hP9 hD9
          have had9 : ∀ o, o ≠ 13 + 1 → (∀ t, t < 15 → kl t = 1 → o ≠ 64 * (cf 1 + 1) + t) → ad9 o = ad o := fun o h1 h2 => (a9 o h1).trans (by rw [had1, va_up_ne _ _ (h2 2 (by decide) rfl), va_up_ne _ _ (h2 3 (by decide) rfl), va_up_ne _ _ (h2 4 (by decide) rfl), va_up_ne _ _ (h2 5 (by decide) rfl), va_up_ne _ _ (h2 1 (by decide) rfl)])
          have hkg : KpG 1 cf w_u_rulesV E E9 := fun o j h1 h2 h3 h4 => by have h5 := hKp o j h4; rw [← h5]; rw [e9 o h1 h2, hE1, va_up_ne _ _ (h3 2 (by decide) rfl), va_up_ne _ _ (h3 3 (by decide) rfl), va_up_ne _ _ (h3 4 (by decide) rfl), va_up_ne _ _ (h3 5 (by decide) rfl), va_up_ne _ _ (h3 1 (by decide) rfl)]
          have ob0 : E9 (64 * (cf 1 + 1) + 1) = .inr (8, [.int a0, .int (xi (E 1) 0), .ref y0, .ref y1, .ref y2, .ref y3]) := (e9 _ (by omega) (by omega)).trans eq0
          have ob1 : E9 (64 * (cf 1 + 1) + 5) = .inl (cT 0, nc, .inl f3) := (e9 _ (by omega) (by omega)).trans eq1
          have ob2 : E9 (64 * (cf 1 + 1) + 4) = .inl (cT 0, nc + 1, .inl f2) := (e9 _ (by omega) (by omega)).trans eq2
          have ob3 : E9 (64 * (cf 1 + 1) + 3) = .inl (cT 0, nc, .inl f1) := (e9 _ (by omega) (by omega)).trans eq3
          have ob4 : E9 (64 * (cf 1 + 1) + 2) = .inl (cT 0, ns, .inl f0) := (e9 _ (by omega) (by omega)).trans eq4
          refine lv_pop hx hb dX12_rules_62 rfl ?_
          refine lv_aload_n hx hb dX12_rules_63 rfl (lv_at hl 0 rfl) ?_
          rw [show ad 0 = ad9 0 from (had9 0 (by decide) (fun t h1 h2 => by omega)).symm]
          refine th_getL (ci := 13) (C := RX12) (T := TX12) (N := 6) (v := .ref (ad9 2)) hx hb hts hinX12 hown hK hP9 hI9 0 (mF 0 rfl) rfl rfl 1 (Nat.le_of_ble_eq_true rfl) (hts _ (vA_in _ _ (in_14 _ (zs4 (zs4 (zs1 (zs1 (zs1 (zs0))))))))) (fun _ h9 => h9) (hI9.fr 0 (mF 0 rfl) rfl (Nat.le_of_ble_eq_true rfl) 2 rfl) dX12_rules_64 ?_
          refine lv_iconst (v := 0) hx hb dX12_rules_67 (by decide) ?_
          refine th_putL (ci := 11) (C := RX10) (T := TX10) (N := 10) (v := .int 0) (ty := .int) hx hb hts hinX10 tyX10 tyX10_ok nmX10 hown hK hP9 hD9 hS hI9 2 (mF 2 rfl) rfl rfl 1 (Nat.le_of_ble_eq_true rfl) (hts _ (vA_in _ _ (in_14 _ (zs4 (zs4 (zs4 (zs0))))))) (fun _ h9 => h9) rfl (by decide +kernel) rfl rfl (okI rfl (iv_w ln_0 (by decide))) dX12_rules_68 (fun H locs E10 pw10 hI9 hP9 hS => ?_)
          have hD9 : va_D A (WL (LC (cfR cf nc ns)) ad9 E10) := WL_D hD9
          have hkg := hkg.pw pw10 rfl
          refine lv_aload_n hx hb dX12_rules_71 rfl (lv_at hl 0 rfl) ?_
          rw [show ad 0 = ad9 0 from (had9 0 (by decide) (fun t h1 h2 => by omega)).symm]
          refine th_getL (ci := 13) (C := RX12) (T := TX12) (N := 6) (v := .ref (ad9 1)) hx hb hts hinX12 hown hK hP9 hI9 0 (mF 0 rfl) rfl rfl 0 (Nat.le_of_ble_eq_true rfl) (hts _ (vA_in _ _ (in_10 _ (zs16 (zs1 (zs0)))))) (fun _ h9 => h9) (hI9.fr 0 (mF 0 rfl) rfl (Nat.le_of_ble_eq_true rfl) 1 rfl) dX12_rules_72 ?_
          refine th_getL (ci := 1) (C := RX0) (T := TX0) (N := 11) (v := .ref (ad9 8)) hx hb hts hinX0 hown hK hP9 hI9 1 (mF 1 rfl) rfl rfl 4 (Nat.le_of_ble_eq_true rfl) (hts _ (vA_in _ _ (in_14 _ (zs4 (zs1 (zs1 (zs0))))))) (fun _ h9 => h9) (hI9.fr 1 (mF 1 rfl) rfl (Nat.le_of_ble_eq_true rfl) 8 rfl) dX12_rules_75 ?_
          refine th_riL (va_runV (As := []) (rest := []) ⟨hx, hb, hml, hown, hts⟩ (q_size1 l dC dI cT ((cfR cf nc ns)) hCn ad9 E10 H.size hI9) (cwV 0 hts (gi_V (in_10 _ (zs16 (zs16 (zs0)))) (in_4 _ (zs16 (zs16 (zs1 (zs1 (zs1 (zs0))))))) (in_4 _ (zs16 (zs16 (zs4 (zs0))))) (in_3 _ (zs16 (zs1 (zs1 (zs0))))) (in_4 _ (zs16 (zs1 (zs1 (zs1 (zs0))))))) rfl rfl rfl ⟨rfl, hz_yJx4a65c_size_8abf5_0⟩ ⟨Nat.le_of_ble_eq_true rfl, Nat.le_of_ble_eq_true rfl⟩) ⟨HWL_bl, va_recv hK hP9 (ci := 0) (q0 := posL 8 (LC (cfR cf nc ns))) rfl (hI9.ob 8 (mF 8 rfl) rfl), HWL_wi hP9 hK hD9 hS hA (by rw [show ((cfR cf nc ns)) 6 = cf 6 from hG.2.2.1]; exact hEV)⟩ rfl rfl hl.1 rfl (lv_room (Nat.le_of_ble_eq_true rfl)) dX12_rules_78 ⟨Nat.le_of_ble_eq_true rfl, Nat.le_of_ble_eq_true rfl⟩) hS hP9 (fun r8 H locs hw8 hP9 hS => ?_)
          obtain ⟨i8, t8⟩ := hw8
          rw [show ((cfR cf nc ns)) 1 = cf 1 + 1 from hG.1] at t8
          refine lv_iconst (v := 1) hx hb dX12_rules_81 (by decide) ?_
          refine lv_isub hx hb dX12_rules_82 ?_
          refine lv_topi (fun y8 e8 => ?_)
          obtain ⟨ty8, iy8⟩ := ti_sub (e := -1) (f := 300) i8 ln_1 e8 (by decide)
          have l1 : (1 : Int32).toInt = 1 := rfl
          rw [hQ]
          refine W.widen (k := 6) (n := 3206) (by first | exact Nat.le_of_ble_eq_true rfl | omega) (by first | exact Nat.le_of_ble_eq_true rfl | omega) ?_
          exact W.iret (v := y8) hx hb hr (fun t ht hW => ⟨⟨y8, ((cfR cf nc ns), ad9, E10), rfl, ⟨hCn, hI9, Or.inr ⟨hG, had9, hkg, (by omega), ⟨hfrm, hlt, (by have b1 := f19.2; have b2 := f20; omega)⟩, ((congrArg vi (pw10.2 (64 * (cf 1 + 1) + 1) 0 (by omega))).trans (by rw [ob0]; rfl)), ((congrArg vi (pw10.2 (64 * (cf 1 + 1) + 1) 1 (by omega))).trans (by rw [ob0]; rfl)), (vi_e pw10.1), (RuNew.of f21 (by have b2 := f20; omega) hnse hnce hf0 hf1 hf2 hf3 (fun j9 => by rw [ob4]; rfl) (fun j9 => by rw [ob3]; rfl) (fun j9 => by rw [ob2]; rfl) (fun j9 => by rw [ob1]; rfl) pw10)⟩⟩, by rw [ht]; exact hP9, hD9⟩, hS.F ht⟩) hS.2.2 dX12_rules_83
        · --32 not
          have t26 : ¬ r14.toInt = -1 := ti_ne c22
          have i27 : 0 ≤ r14.toInt ∧ r14.toInt ≤ 200 := iv_ne_l t26 f17 (il_ (-1))
          refine lv_iconst (v := -1) hx hb dX12_rules_35 (by decide) ?_
          rw [hQ]
          refine W.widen (k := 6) (n := 3206) (by first | exact Nat.le_of_ble_eq_true rfl | omega) (by first | exact Nat.le_of_ble_eq_true rfl | omega) ?_
          exact W.iret (v := (-1)) hx hb hr (fun t ht hW => ⟨⟨(-1), (cf, ad, E15), rfl, ⟨hC, hI, Or.inl ⟨rfl, rfl, hKp, ⟨rfl, (fun g9 => by obtain ⟨q1, q2, q3⟩ := g9; have b1 := f19.2; have b2 := f20; omega), f19.1⟩⟩⟩, by rw [ht]; exact hP, (WL_D hD)⟩, hS.F ht⟩) hS.2.2 dX12_rules_36
      · --19 not
        have t28 : (16 : Int) ≤ r8.toInt := ti_nlt c11
        have i29 : 16 ≤ r8.toInt ∧ r8.toInt ≤ 16 := iv_le_r t28 (il_ 16) f9 (by decide)
        refine lv_iconst (v := -1) hx hb dX12_rules_22 (by decide) ?_
        rw [hQ]
        refine W.widen (k := 6) (n := 3206) (by first | exact Nat.le_of_ble_eq_true rfl | omega) (by first | exact Nat.le_of_ble_eq_true rfl | omega) ?_
        exact W.iret (v := (-1)) hx hb hr (fun t ht hW => ⟨⟨(-1), (cf, ad, E), rfl, ⟨hC, hI, Or.inl ⟨rfl, rfl, hKp, ⟨rfl, (fun g9 => by obtain ⟨q1, q2, q3⟩ := g9; omega), TS.rf⟩⟩⟩, by rw [ht]; exact hP, (WL_D hD)⟩, hS.F ht⟩) hS.2.2 dX12_rules_23
  · -- cisDay, case 1
    obtain ⟨rfl, f30⟩ := hw
    have t31 : ¬ ((0 : Int) ≤ a0.toInt ∧ a0.toInt ≤ 400) := f30
    refine lv_if_eq (tgt := 22) hx hb dX12_rules_4 (by decide) (fun c32 => ?_) (fun c32 => ?_)
    · --4 taken
      refine lv_iconst (v := -1) hx hb dX12_rules_22 (by decide) ?_
      rw [hQ]
      refine W.widen (k := 6) (n := 3206) (by first | exact Nat.le_of_ble_eq_true rfl | omega) (by first | exact Nat.le_of_ble_eq_true rfl | omega) ?_
      exact W.iret (v := (-1)) hx hb hr (fun t ht hW => ⟨⟨(-1), (cf, ad, E), rfl, ⟨hC, hI, Or.inl ⟨rfl, rfl, hKp, ⟨rfl, (fun g9 => by obtain ⟨q1, q2, q3⟩ := g9; omega), TS.rf⟩⟩⟩, by rw [ht]; exact hP, (WL_D hD)⟩, hS.F ht⟩) hS.2.2 dX12_rules_23
    · --4 not
      exact absurd c32 (by decide)
end

