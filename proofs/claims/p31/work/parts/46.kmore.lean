set_option maxRecDepth 100000 in
theorem zh_dX12_start_0_0 : zc cX12_start 0 [42, 180, 0, 10, 27, 28, 182, 0, 146, 153, 0, 25, 29, 3, 16, 9] = true := by decide +kernel
set_option maxRecDepth 100000 in
theorem zh_dX12_start_16_16 : zc cX12_start 16 [184, 0, 59, 153, 0, 15, 21, 4, 3, 17, 2, 88, 184, 0, 59, 154] = true := by decide +kernel
set_option maxRecDepth 100000 in
theorem zh_dX12_start_31_32 : zc cX12_start 32 [0, 5, 3, 172, 42, 180, 0, 10, 180, 0, 127, 27, 182, 0, 138, 192] = true := by decide +kernel
set_option maxRecDepth 100000 in
theorem zh_dX12_start_47_48 : zc cX12_start 48 [0, 130, 58, 5, 25, 5, 180, 1, 17, 28, 29, 79, 25, 5, 180, 1] = true := by decide +kernel
set_option maxRecDepth 100000 in
theorem zh_dX12_start_62_64 : zc cX12_start 64 [20, 28, 21, 4, 79, 4, 172] = true := by decide +kernel
set_option maxRecDepth 100000 in
theorem zh_dX13_swift_0_0 : zc cX13_swift 0 [42, 3, 181, 0, 228, 42, 27, 182, 1, 137, 153, 0, 13, 28, 4, 16] = true := by decide +kernel
set_option maxRecDepth 100000 in
theorem zh_dX13_swift_15_16 : zc cX13_swift 16 [9, 184, 0, 235, 154, 0, 5, 3, 172, 42, 180, 0, 68, 27, 28, 79] = true := by decide +kernel
set_option maxRecDepth 100000 in
theorem zh_dX13_swift_32_32 : zc cX13_swift 32 [4, 172] = true := by decide +kernel
set_option maxRecDepth 100000 in
theorem zh_dX13_start_0_0 : zc cX13_start 0 [42, 3, 181, 0, 228, 42, 27, 28, 182, 1, 146, 153, 0, 25, 29, 3] = true := by decide +kernel
set_option maxRecDepth 100000 in
theorem zh_dX13_start_16_16 : zc cX13_start 16 [16, 9, 184, 0, 235, 153, 0, 15, 21, 4, 3, 17, 2, 88, 184, 0] = true := by decide +kernel
set_option maxRecDepth 100000 in
theorem zh_dX13_start_30_32 : zc cX13_start 32 [235, 154, 0, 5, 3, 172, 42, 180, 0, 77, 16, 16, 27, 104, 28, 96] = true := by decide +kernel
set_option maxRecDepth 100000 in
theorem zh_dX13_start_48_48 : zc cX13_start 48 [29, 79, 42, 180, 0, 80, 16, 16, 27, 104, 28, 96, 21, 4, 79, 4] = true := by decide +kernel
set_option maxRecDepth 100000 in
theorem zh_dX13_start_64_64 : zc cX13_start 64 [172] = true := by decide +kernel
theorem dX12_start_0 : decode cX12_start 0 = .ok (.aload_n 0, 1) := zo_42 (zi_at zh_dX12_start_0_0 0 rfl)
theorem dX12_start_1 : decode cX12_start 1 = .ok (.getfield 10, 3) := zo_180 (zi_at zh_dX12_start_0_0 1 rfl) (zi_at zh_dX12_start_0_0 2 rfl) (zi_at zh_dX12_start_0_0 3 rfl) rfl
theorem dX12_start_4 : decode cX12_start 4 = .ok (.iload_n 1, 1) := zo_27 (zi_at zh_dX12_start_0_0 4 rfl)
theorem dX12_start_5 : decode cX12_start 5 = .ok (.iload_n 2, 1) := zo_28 (zi_at zh_dX12_start_0_0 5 rfl)
theorem dX12_start_6 : decode cX12_start 6 = .ok (.invokevirtual 146, 3) := zo_182 (zi_at zh_dX12_start_0_0 6 rfl) (zi_at zh_dX12_start_0_0 7 rfl) (zi_at zh_dX12_start_0_0 8 rfl) rfl
theorem dX12_start_9 : decode cX12_start 9 = .ok (.ifCond .eq 25, 3) := zo_153 (zi_at zh_dX12_start_0_0 9 rfl) (zi_at zh_dX12_start_0_0 10 rfl) (zi_at zh_dX12_start_0_0 11 rfl) rfl
theorem dX12_start_12 : decode cX12_start 12 = .ok (.iload_n 3, 1) := zo_29 (zi_at zh_dX12_start_0_0 12 rfl)
theorem dX12_start_13 : decode cX12_start 13 = .ok (.iconst 0, 1) := zo_3 (zi_at zh_dX12_start_0_0 13 rfl)
theorem dX12_start_14 : decode cX12_start 14 = .ok (.bipush 9, 2) := zo_16 (zi_at zh_dX12_start_0_0 14 rfl) (zi_at zh_dX12_start_0_0 15 rfl) rfl
theorem dX12_start_16 : decode cX12_start 16 = .ok (.invokestatic 59, 3) := zo_184 (zi_at zh_dX12_start_16_16 0 rfl) (zi_at zh_dX12_start_16_16 1 rfl) (zi_at zh_dX12_start_16_16 2 rfl) rfl
theorem dX12_start_19 : decode cX12_start 19 = .ok (.ifCond .eq 15, 3) := zo_153 (zi_at zh_dX12_start_16_16 3 rfl) (zi_at zh_dX12_start_16_16 4 rfl) (zi_at zh_dX12_start_16_16 5 rfl) rfl
theorem dX12_start_22 : decode cX12_start 22 = .ok (.iload 4, 2) := zo_21 (zi_at zh_dX12_start_16_16 6 rfl) (zi_at zh_dX12_start_16_16 7 rfl)
theorem dX12_start_24 : decode cX12_start 24 = .ok (.iconst 0, 1) := zo_3 (zi_at zh_dX12_start_16_16 8 rfl)
theorem dX12_start_25 : decode cX12_start 25 = .ok (.sipush 600, 3) := zo_17 (zi_at zh_dX12_start_16_16 9 rfl) (zi_at zh_dX12_start_16_16 10 rfl) (zi_at zh_dX12_start_16_16 11 rfl) rfl
theorem dX12_start_28 : decode cX12_start 28 = .ok (.invokestatic 59, 3) := zo_184 (zi_at zh_dX12_start_16_16 12 rfl) (zi_at zh_dX12_start_16_16 13 rfl) (zi_at zh_dX12_start_16_16 14 rfl) rfl
theorem dX12_start_31 : decode cX12_start 31 = .ok (.ifCond .ne 5, 3) := zo_154 (zi_at zh_dX12_start_16_16 15 rfl) (zi_at zh_dX12_start_31_32 0 rfl) (zi_at zh_dX12_start_31_32 1 rfl) rfl
theorem dX12_start_34 : decode cX12_start 34 = .ok (.iconst 0, 1) := zo_3 (zi_at zh_dX12_start_31_32 2 rfl)
theorem dX12_start_35 : decode cX12_start 35 = .ok (.ireturn, 1) := zo_172 (zi_at zh_dX12_start_31_32 3 rfl)
theorem dX12_start_36 : decode cX12_start 36 = .ok (.aload_n 0, 1) := zo_42 (zi_at zh_dX12_start_31_32 4 rfl)
theorem dX12_start_37 : decode cX12_start 37 = .ok (.getfield 10, 3) := zo_180 (zi_at zh_dX12_start_31_32 5 rfl) (zi_at zh_dX12_start_31_32 6 rfl) (zi_at zh_dX12_start_31_32 7 rfl) rfl
theorem dX12_start_40 : decode cX12_start 40 = .ok (.getfield 127, 3) := zo_180 (zi_at zh_dX12_start_31_32 8 rfl) (zi_at zh_dX12_start_31_32 9 rfl) (zi_at zh_dX12_start_31_32 10 rfl) rfl
theorem dX12_start_43 : decode cX12_start 43 = .ok (.iload_n 1, 1) := zo_27 (zi_at zh_dX12_start_31_32 11 rfl)
theorem dX12_start_44 : decode cX12_start 44 = .ok (.invokevirtual 138, 3) := zo_182 (zi_at zh_dX12_start_31_32 12 rfl) (zi_at zh_dX12_start_31_32 13 rfl) (zi_at zh_dX12_start_31_32 14 rfl) rfl
theorem dX12_start_47 : decode cX12_start 47 = .ok (.checkcast 130, 3) := zo_192 (zi_at zh_dX12_start_31_32 15 rfl) (zi_at zh_dX12_start_47_48 0 rfl) (zi_at zh_dX12_start_47_48 1 rfl) rfl
theorem dX12_start_50 : decode cX12_start 50 = .ok (.astore 5, 2) := zo_58 (zi_at zh_dX12_start_47_48 2 rfl) (zi_at zh_dX12_start_47_48 3 rfl)
theorem dX12_start_52 : decode cX12_start 52 = .ok (.aload 5, 2) := zo_25 (zi_at zh_dX12_start_47_48 4 rfl) (zi_at zh_dX12_start_47_48 5 rfl)
theorem dX12_start_54 : decode cX12_start 54 = .ok (.getfield 273, 3) := zo_180 (zi_at zh_dX12_start_47_48 6 rfl) (zi_at zh_dX12_start_47_48 7 rfl) (zi_at zh_dX12_start_47_48 8 rfl) rfl
theorem dX12_start_57 : decode cX12_start 57 = .ok (.iload_n 2, 1) := zo_28 (zi_at zh_dX12_start_47_48 9 rfl)
theorem dX12_start_58 : decode cX12_start 58 = .ok (.iload_n 3, 1) := zo_29 (zi_at zh_dX12_start_47_48 10 rfl)
theorem dX12_start_59 : decode cX12_start 59 = .ok (.iastore, 1) := zo_79 (zi_at zh_dX12_start_47_48 11 rfl)
theorem dX12_start_60 : decode cX12_start 60 = .ok (.aload 5, 2) := zo_25 (zi_at zh_dX12_start_47_48 12 rfl) (zi_at zh_dX12_start_47_48 13 rfl)
theorem dX12_start_62 : decode cX12_start 62 = .ok (.getfield 276, 3) := zo_180 (zi_at zh_dX12_start_47_48 14 rfl) (zi_at zh_dX12_start_47_48 15 rfl) (zi_at zh_dX12_start_62_64 0 rfl) rfl
theorem dX12_start_65 : decode cX12_start 65 = .ok (.iload_n 2, 1) := zo_28 (zi_at zh_dX12_start_62_64 1 rfl)
theorem dX12_start_66 : decode cX12_start 66 = .ok (.iload 4, 2) := zo_21 (zi_at zh_dX12_start_62_64 2 rfl) (zi_at zh_dX12_start_62_64 3 rfl)
theorem dX12_start_68 : decode cX12_start 68 = .ok (.iastore, 1) := zo_79 (zi_at zh_dX12_start_62_64 4 rfl)
theorem dX12_start_69 : decode cX12_start 69 = .ok (.iconst 1, 1) := zo_4 (zi_at zh_dX12_start_62_64 5 rfl)
theorem dX12_start_70 : decode cX12_start 70 = .ok (.ireturn, 1) := zo_172 (zi_at zh_dX12_start_62_64 6 rfl)
theorem dX13_swift_0 : decode cX13_swift 0 = .ok (.aload_n 0, 1) := zo_42 (zi_at zh_dX13_swift_0_0 0 rfl)
theorem dX13_swift_1 : decode cX13_swift 1 = .ok (.iconst 0, 1) := zo_3 (zi_at zh_dX13_swift_0_0 1 rfl)
theorem dX13_swift_2 : decode cX13_swift 2 = .ok (.putfield 228, 3) := zo_181 (zi_at zh_dX13_swift_0_0 2 rfl) (zi_at zh_dX13_swift_0_0 3 rfl) (zi_at zh_dX13_swift_0_0 4 rfl) rfl
theorem dX13_swift_5 : decode cX13_swift 5 = .ok (.aload_n 0, 1) := zo_42 (zi_at zh_dX13_swift_0_0 5 rfl)
theorem dX13_swift_6 : decode cX13_swift 6 = .ok (.iload_n 1, 1) := zo_27 (zi_at zh_dX13_swift_0_0 6 rfl)
theorem dX13_swift_7 : decode cX13_swift 7 = .ok (.invokevirtual 393, 3) := zo_182 (zi_at zh_dX13_swift_0_0 7 rfl) (zi_at zh_dX13_swift_0_0 8 rfl) (zi_at zh_dX13_swift_0_0 9 rfl) rfl
theorem dX13_swift_10 : decode cX13_swift 10 = .ok (.ifCond .eq 13, 3) := zo_153 (zi_at zh_dX13_swift_0_0 10 rfl) (zi_at zh_dX13_swift_0_0 11 rfl) (zi_at zh_dX13_swift_0_0 12 rfl) rfl
theorem dX13_swift_13 : decode cX13_swift 13 = .ok (.iload_n 2, 1) := zo_28 (zi_at zh_dX13_swift_0_0 13 rfl)
theorem dX13_swift_14 : decode cX13_swift 14 = .ok (.iconst 1, 1) := zo_4 (zi_at zh_dX13_swift_0_0 14 rfl)
theorem dX13_swift_15 : decode cX13_swift 15 = .ok (.bipush 9, 2) := zo_16 (zi_at zh_dX13_swift_0_0 15 rfl) (zi_at zh_dX13_swift_15_16 0 rfl) rfl
theorem dX13_swift_17 : decode cX13_swift 17 = .ok (.invokestatic 235, 3) := zo_184 (zi_at zh_dX13_swift_15_16 1 rfl) (zi_at zh_dX13_swift_15_16 2 rfl) (zi_at zh_dX13_swift_15_16 3 rfl) rfl
theorem dX13_swift_20 : decode cX13_swift 20 = .ok (.ifCond .ne 5, 3) := zo_154 (zi_at zh_dX13_swift_15_16 4 rfl) (zi_at zh_dX13_swift_15_16 5 rfl) (zi_at zh_dX13_swift_15_16 6 rfl) rfl
theorem dX13_swift_23 : decode cX13_swift 23 = .ok (.iconst 0, 1) := zo_3 (zi_at zh_dX13_swift_15_16 7 rfl)
theorem dX13_swift_24 : decode cX13_swift 24 = .ok (.ireturn, 1) := zo_172 (zi_at zh_dX13_swift_15_16 8 rfl)
theorem dX13_swift_25 : decode cX13_swift 25 = .ok (.aload_n 0, 1) := zo_42 (zi_at zh_dX13_swift_15_16 9 rfl)
theorem dX13_swift_26 : decode cX13_swift 26 = .ok (.getfield 68, 3) := zo_180 (zi_at zh_dX13_swift_15_16 10 rfl) (zi_at zh_dX13_swift_15_16 11 rfl) (zi_at zh_dX13_swift_15_16 12 rfl) rfl
theorem dX13_swift_29 : decode cX13_swift 29 = .ok (.iload_n 1, 1) := zo_27 (zi_at zh_dX13_swift_15_16 13 rfl)
theorem dX13_swift_30 : decode cX13_swift 30 = .ok (.iload_n 2, 1) := zo_28 (zi_at zh_dX13_swift_15_16 14 rfl)
theorem dX13_swift_31 : decode cX13_swift 31 = .ok (.iastore, 1) := zo_79 (zi_at zh_dX13_swift_15_16 15 rfl)
theorem dX13_swift_32 : decode cX13_swift 32 = .ok (.iconst 1, 1) := zo_4 (zi_at zh_dX13_swift_32_32 0 rfl)
theorem dX13_swift_33 : decode cX13_swift 33 = .ok (.ireturn, 1) := zo_172 (zi_at zh_dX13_swift_32_32 1 rfl)
theorem dX13_start_0 : decode cX13_start 0 = .ok (.aload_n 0, 1) := zo_42 (zi_at zh_dX13_start_0_0 0 rfl)
theorem dX13_start_1 : decode cX13_start 1 = .ok (.iconst 0, 1) := zo_3 (zi_at zh_dX13_start_0_0 1 rfl)
theorem dX13_start_2 : decode cX13_start 2 = .ok (.putfield 228, 3) := zo_181 (zi_at zh_dX13_start_0_0 2 rfl) (zi_at zh_dX13_start_0_0 3 rfl) (zi_at zh_dX13_start_0_0 4 rfl) rfl
theorem dX13_start_5 : decode cX13_start 5 = .ok (.aload_n 0, 1) := zo_42 (zi_at zh_dX13_start_0_0 5 rfl)
theorem dX13_start_6 : decode cX13_start 6 = .ok (.iload_n 1, 1) := zo_27 (zi_at zh_dX13_start_0_0 6 rfl)
theorem dX13_start_7 : decode cX13_start 7 = .ok (.iload_n 2, 1) := zo_28 (zi_at zh_dX13_start_0_0 7 rfl)
theorem dX13_start_8 : decode cX13_start 8 = .ok (.invokevirtual 402, 3) := zo_182 (zi_at zh_dX13_start_0_0 8 rfl) (zi_at zh_dX13_start_0_0 9 rfl) (zi_at zh_dX13_start_0_0 10 rfl) rfl
theorem dX13_start_11 : decode cX13_start 11 = .ok (.ifCond .eq 25, 3) := zo_153 (zi_at zh_dX13_start_0_0 11 rfl) (zi_at zh_dX13_start_0_0 12 rfl) (zi_at zh_dX13_start_0_0 13 rfl) rfl
theorem dX13_start_14 : decode cX13_start 14 = .ok (.iload_n 3, 1) := zo_29 (zi_at zh_dX13_start_0_0 14 rfl)
theorem dX13_start_15 : decode cX13_start 15 = .ok (.iconst 0, 1) := zo_3 (zi_at zh_dX13_start_0_0 15 rfl)
theorem dX13_start_16 : decode cX13_start 16 = .ok (.bipush 9, 2) := zo_16 (zi_at zh_dX13_start_16_16 0 rfl) (zi_at zh_dX13_start_16_16 1 rfl) rfl
theorem dX13_start_18 : decode cX13_start 18 = .ok (.invokestatic 235, 3) := zo_184 (zi_at zh_dX13_start_16_16 2 rfl) (zi_at zh_dX13_start_16_16 3 rfl) (zi_at zh_dX13_start_16_16 4 rfl) rfl
theorem dX13_start_21 : decode cX13_start 21 = .ok (.ifCond .eq 15, 3) := zo_153 (zi_at zh_dX13_start_16_16 5 rfl) (zi_at zh_dX13_start_16_16 6 rfl) (zi_at zh_dX13_start_16_16 7 rfl) rfl
theorem dX13_start_24 : decode cX13_start 24 = .ok (.iload 4, 2) := zo_21 (zi_at zh_dX13_start_16_16 8 rfl) (zi_at zh_dX13_start_16_16 9 rfl)
theorem dX13_start_26 : decode cX13_start 26 = .ok (.iconst 0, 1) := zo_3 (zi_at zh_dX13_start_16_16 10 rfl)
theorem dX13_start_27 : decode cX13_start 27 = .ok (.sipush 600, 3) := zo_17 (zi_at zh_dX13_start_16_16 11 rfl) (zi_at zh_dX13_start_16_16 12 rfl) (zi_at zh_dX13_start_16_16 13 rfl) rfl
theorem dX13_start_30 : decode cX13_start 30 = .ok (.invokestatic 235, 3) := zo_184 (zi_at zh_dX13_start_16_16 14 rfl) (zi_at zh_dX13_start_16_16 15 rfl) (zi_at zh_dX13_start_30_32 0 rfl) rfl
theorem dX13_start_33 : decode cX13_start 33 = .ok (.ifCond .ne 5, 3) := zo_154 (zi_at zh_dX13_start_30_32 1 rfl) (zi_at zh_dX13_start_30_32 2 rfl) (zi_at zh_dX13_start_30_32 3 rfl) rfl
theorem dX13_start_36 : decode cX13_start 36 = .ok (.iconst 0, 1) := zo_3 (zi_at zh_dX13_start_30_32 4 rfl)
theorem dX13_start_37 : decode cX13_start 37 = .ok (.ireturn, 1) := zo_172 (zi_at zh_dX13_start_30_32 5 rfl)
theorem dX13_start_38 : decode cX13_start 38 = .ok (.aload_n 0, 1) := zo_42 (zi_at zh_dX13_start_30_32 6 rfl)
theorem dX13_start_39 : decode cX13_start 39 = .ok (.getfield 77, 3) := zo_180 (zi_at zh_dX13_start_30_32 7 rfl) (zi_at zh_dX13_start_30_32 8 rfl) (zi_at zh_dX13_start_30_32 9 rfl) rfl
theorem dX13_start_42 : decode cX13_start 42 = .ok (.bipush 16, 2) := zo_16 (zi_at zh_dX13_start_30_32 10 rfl) (zi_at zh_dX13_start_30_32 11 rfl) rfl
theorem dX13_start_44 : decode cX13_start 44 = .ok (.iload_n 1, 1) := zo_27 (zi_at zh_dX13_start_30_32 12 rfl)
theorem dX13_start_45 : decode cX13_start 45 = .ok (.imul, 1) := zo_104 (zi_at zh_dX13_start_30_32 13 rfl)
theorem dX13_start_46 : decode cX13_start 46 = .ok (.iload_n 2, 1) := zo_28 (zi_at zh_dX13_start_30_32 14 rfl)
theorem dX13_start_47 : decode cX13_start 47 = .ok (.iadd, 1) := zo_96 (zi_at zh_dX13_start_30_32 15 rfl)
theorem dX13_start_48 : decode cX13_start 48 = .ok (.iload_n 3, 1) := zo_29 (zi_at zh_dX13_start_48_48 0 rfl)
theorem dX13_start_49 : decode cX13_start 49 = .ok (.iastore, 1) := zo_79 (zi_at zh_dX13_start_48_48 1 rfl)
theorem dX13_start_50 : decode cX13_start 50 = .ok (.aload_n 0, 1) := zo_42 (zi_at zh_dX13_start_48_48 2 rfl)
theorem dX13_start_51 : decode cX13_start 51 = .ok (.getfield 80, 3) := zo_180 (zi_at zh_dX13_start_48_48 3 rfl) (zi_at zh_dX13_start_48_48 4 rfl) (zi_at zh_dX13_start_48_48 5 rfl) rfl
theorem dX13_start_54 : decode cX13_start 54 = .ok (.bipush 16, 2) := zo_16 (zi_at zh_dX13_start_48_48 6 rfl) (zi_at zh_dX13_start_48_48 7 rfl) rfl
theorem dX13_start_56 : decode cX13_start 56 = .ok (.iload_n 1, 1) := zo_27 (zi_at zh_dX13_start_48_48 8 rfl)
theorem dX13_start_57 : decode cX13_start 57 = .ok (.imul, 1) := zo_104 (zi_at zh_dX13_start_48_48 9 rfl)
theorem dX13_start_58 : decode cX13_start 58 = .ok (.iload_n 2, 1) := zo_28 (zi_at zh_dX13_start_48_48 10 rfl)
theorem dX13_start_59 : decode cX13_start 59 = .ok (.iadd, 1) := zo_96 (zi_at zh_dX13_start_48_48 11 rfl)
theorem dX13_start_60 : decode cX13_start 60 = .ok (.iload 4, 2) := zo_21 (zi_at zh_dX13_start_48_48 12 rfl) (zi_at zh_dX13_start_48_48 13 rfl)
theorem dX13_start_62 : decode cX13_start 62 = .ok (.iastore, 1) := zo_79 (zi_at zh_dX13_start_48_48 14 rfl)
theorem dX13_start_63 : decode cX13_start 63 = .ok (.iconst 1, 1) := zo_4 (zi_at zh_dX13_start_48_48 15 rfl)
theorem dX13_start_64 : decode cX13_start 64 = .ok (.ireturn, 1) := zo_172 (zi_at zh_dX13_start_64_64 0 rfl)

def v_swiftR : List Cond := .code yX13_swift cX13_swift 3 (some .boolean) :: vA
abbrev rm_swiftR : Room := { frames := 1, cells := 0, slots := 0, locals := 40 }
def w_swiftR : Nat → Nat → Bool := wl [19] [(0, 0)]
set_option maxHeartbeats 4000000 in
set_option maxRecDepth 100000 in
theorem q_swiftR (l : Launch) (dC : Nat → ClassId) (dI : Nat → Nat → Nat) (cT : Nat → ClassId) (ad : Nat → Nat) (E : Nat → va_E) (sz : Nat) (a0 : Int32) (a1 : Int32) (hI0 : IX cT shM spM 72 ad E)  : Met l yX13_swift v_swiftR rm_swiftR (va_Pc [.ref (ad 0), .int a0, .int a1] (HW dC dI (TYM cT) 72 ad E sz)) (va_Qi (S := Nat → va_E) (fun r u => IX cT shM spM 72 ad u ∧ Kp w_swiftR E u ∧ ((r = 1 ∧ ((0 ≤ a0.toInt ∧ a0.toInt < (xi (E 0) 46).toInt) ∧ (1 ≤ a1.toInt ∧ a1.toInt ≤ 9)) ∧ (xi (u 19) = upd (xi (E 19)) a0.toNatClampNeg a1)) ∨ (r = 0 ∧ (¬ ((0 ≤ a0.toInt ∧ a0.toInt < (xi (E 0) 46).toInt) ∧ (1 ≤ a1.toInt ∧ a1.toInt ≤ 9))) ∧ (xi (u 19) = xi (E 19))))) (HB dC dI 72 ad) (va_A (WX 72 ad E) sz)) 0 0 (va_A (WX 72 ad E) sz) := by
  refine Met.ofW (cc := cX13_swift) (maxL := 3) (ret := (some .boolean)) (by decide) rfl ?_
  intro p e s m args below meth c s₁ B hml hv
  obtain ⟨hargs, hsz, hP, hK, hD0, hEV⟩ := hv
  subst hsz
  have hx := B.exec
  have hb := B.bytes
  have hr := B.returns
  have hts := atoms_spec (ws := v_swiftR) B.pre
  have hown : s.vm.findClass RX13 = some m.cls := findClass_of_methodNamed B.named
  have hlocks := B.notSynchronized
  have hinX13 : ∀ w ∈ u_ws RX13 TX13 97, w ∈ v_swiftR := fun w h => vA_in _ w (in_X13 w h)
  generalize hAe : va_A (WX 72 ad E) s.heap.size = A at hEV ⊢
  have hA : ∀ q : Nat, s.heap.size ≤ q → A q := fun q h => by rw [← hAe]; exact Or.inr h
  have hD : va_D A (WX 72 ad E) := by rw [← hAe]; exact hD0.self
  have hS : va_S A s.heap s.heap [] := va_S.rf
  have hI := hI0
  have hKp : Kp w_swiftR E E := Kp.rf
  have hl := lv_entry ([.ref (ad 0), .int a0, .int a1]) (n := 3) (Nat.le_of_ble_eq_true rfl)
  obtain ⟨Q, hQ⟩ : ∃ Q, Q = MQ below (va_Qi (S := Nat → va_E) (fun r u => IX cT shM spM 72 ad u ∧ Kp w_swiftR E u ∧ ((r = 1 ∧ ((0 ≤ a0.toInt ∧ a0.toInt < (xi (E 0) 46).toInt) ∧ (1 ≤ a1.toInt ∧ a1.toInt ≤ 9)) ∧ (xi (u 19) = upd (xi (E 19)) a0.toNatClampNeg a1)) ∨ (r = 0 ∧ (¬ ((0 ≤ a0.toInt ∧ a0.toInt < (xi (E 0) 46).toInt) ∧ (1 ≤ a1.toInt ∧ a1.toInt ≤ 9))) ∧ (xi (u 19) = xi (E 19))))) (HB dC dI 72 ad) (A)) args s 0 0 (A) := ⟨_, rfl⟩
  rw [← hQ, show entryFrame m args 3 = _ from (congrArg (fun z => entryFrame m z 3) hargs).trans (lg_entry_eq _ _ _)]
  generalize (lg_sl ([.ref (ad 0), .int a0, .int a1]) ++ List.replicate (3 - (lg_sl ([.ref (ad 0), .int a0, .int a1])).length) Slot.unset).toArray = ls at hl ⊢
  have hl : lv_has ls 3 [(0, .ref (ad 0)), (1, .int a0), (2, .int a1)] := hl
  obtain ⟨g1, hg1⟩ : ∃ g, xi (E 19) = g := ⟨_, rfl⟩
  refine lv_aload_n hx hb dX13_swift_0 rfl (lv_at hl 0 rfl) ?_
  refine lv_iconst (v := 0) hx hb dX13_swift_1 (by decide) ?_
  refine th_put (ci := 14) (C := RX13) (T := TX13) (N := 97) (v := .int 0) (ty := .int) hx hb hts hinX13 tyX13 tyX13_ok nmX13 hown hK hP (WX_D hD) hS hI 0 (Nat.le_of_ble_eq_true rfl) rfl rfl 0 (Nat.le_of_ble_eq_true rfl) (hts _ (vA_in _ _ (in_24 _ (zs4 (zs4 (zs1 (zs1 (zs0)))))))) (fun _ h9 => h9) rfl (by decide +kernel) rfl rfl (okI rfl (iv_w ln_0 (by decide))) dX13_swift_2 (fun H locs E2 pw3 hI hP hS => ?_)
  have hKp := hKp.pw pw3 rfl
  refine lv_aload_n hx hb dX13_swift_5 rfl (lv_at hl 0 rfl) ?_
  refine lv_iload_n hx hb dX13_swift_6 rfl (lv_at hl 1 rfl) ?_
  refine th_ri (va_runV (As := [.int a0]) (rest := []) ⟨hx, hb, hml, hown, hts⟩ (q_isRace l dC dI cT ad E2 H.size a0 hI) (cwV 1 hts (gi_V (in_24 _ (zs4 (zs4 (zs4 (zs0))))) (in_24 _ (zs4 (zs4 (zs4 (zs1 (zs0)))))) (in_24 _ (zs4 (zs4 (zs4 (zs1 (zs1 (zs0))))))) (in_24 _ (zs4 (zs4 (zs4 (zs1 (zs1 (zs1 (zs0)))))))) (in_24 _ (zs16 (zs0)))) rfl rfl rfl ⟨rfl, hz_yX13_isRace_1⟩ ⟨Nat.le_of_ble_eq_true rfl, Nat.le_of_ble_eq_true rfl⟩) ⟨HW_bl, va_recv hK hP (ci := 14) (q0 := 0) rfl (hI.ob 0 (Nat.le_of_ble_eq_true rfl) rfl), (HW_wi hP hK (WX_D hD) hS hA hEV)⟩ rfl rfl hl.1 rfl (lv_room (Nat.le_of_ble_eq_true rfl)) dX13_swift_7 ⟨Nat.le_of_ble_eq_true rfl, Nat.le_of_ble_eq_true rfl⟩) hS hP (fun r4 H locs hw hP hS => ?_)
  rcases hw with hw | hw
  · -- isRace, case 0
    obtain ⟨rfl, f5, f6⟩ := hw
    have i7 : 0 ≤ (xi (E 0) 46).toInt ∧ (xi (E 0) 46).toInt ≤ 20 := (show 0 ≤ (xi (E 0) 46).toInt ∧ (xi (E 0) 46).toInt ≤ 20 from hI0.iv 0 (Nat.le_of_ble_eq_true rfl) rfl (Nat.le_of_ble_eq_true rfl) rfl)
    try rw [hKp.ei 0 46 rfl] at f5
    refine lv_if_eq (tgt := 23) hx hb dX13_swift_10 (by decide) (fun c8 => ?_) (fun c8 => ?_)
    · --10 taken
      exact absurd c8 (by decide)
    · --10 not
      refine lv_iload_n hx hb dX13_swift_13 rfl (lv_at hl 2 rfl) ?_
      refine lv_iconst (v := 1) hx hb dX13_swift_14 (by decide) ?_
      refine lv_bipush (v := 9) hx hb dX13_swift_15 (by decide) ?_
      refine th_pi (va_runS (As := [.int a1, .int 1, .int 9]) (rest := []) ⟨hx, hb, hml, hown, hts⟩ (q_isIn l a1 (1 : Int32) (9 : Int32)) (va_cwS 3 hts (gi_S (in_24 _ (zs16 (zs4 (zs4 (zs4 (zs0)))))) (in_24 _ (zs16 (zs4 (zs4 (zs4 (zs1 (zs0))))))) (in_24 _ (zs4 (zs4 (zs4 (zs1 (zs1 (zs1 (zs0)))))))) (in_24 _ (zs16 (zs4 (zs4 (zs4 (zs1 (zs1 (zs0))))))))) rfl rfl rfl hz_yX13_isIn_3 ⟨Nat.le_of_ble_eq_true rfl, Nat.le_of_ble_eq_true rfl⟩) ⟨fun _ _ _ _ q => q, fun _ _ _ => ⟨rfl, trivial⟩⟩ rfl rfl hl.1 rfl (lv_room (Nat.le_of_ble_eq_true rfl)) dX13_swift_17 ⟨Nat.le_of_ble_eq_true rfl, Nat.le_of_ble_eq_true rfl⟩) hS (fun r9 H1 locs1 hw hk1 hS => ?_)
      have hP := ub_keep hP hk1
      generalize H1 = H at hP hS ⊢
      generalize locs1 = locs at hS ⊢
      rcases hw with hw | hw
      · -- isIn, case 0
        obtain ⟨rfl, f10⟩ := hw
        have t11 : (1 : Int) ≤ a1.toInt := f10.1
        have t12 : a1.toInt ≤ 9 := f10.2
        have i13 : 1 ≤ a1.toInt ∧ a1.toInt ≤ 2147483647 := iv_le_r t11 (il_ 1) (iv_all _) (by decide)
        have i14 : 1 ≤ a1.toInt ∧ a1.toInt ≤ 9 := iv_le_l t12 i13 (il_ 9) (by decide)
        refine lv_if_ne (tgt := 25) hx hb dX13_swift_20 (by decide) (fun c15 => ?_) (fun c15 => ?_)
        · --20 taken
          refine lv_aload_n hx hb dX13_swift_25 rfl (lv_at hl 0 rfl) ?_
          refine th_get (ci := 14) (C := RX13) (T := TX13) (N := 97) (v := .ref (ad 19)) hx hb hts hinX13 hown hK hP hI 0 (Nat.le_of_ble_eq_true rfl) rfl rfl 33 (Nat.le_of_ble_eq_true rfl) (hts _ (vA_in _ _ (in_25 _ (zs16 (zs16 (zs1 (zs0))))))) (fun _ h9 => h9) (hI.fr 0 (Nat.le_of_ble_eq_true rfl) rfl (Nat.le_of_ble_eq_true rfl) 19 rfl) dX13_swift_26 ?_
          refine lv_iload_n hx hb dX13_swift_29 rfl (lv_at hl 1 rfl) ?_
          refine lv_iload_n hx hb dX13_swift_30 rfl (lv_at hl 2 rfl) ?_
          have n16 : vp_in a0 20 := (iv_in (n := 20) f6 (by decide))
          refine th_iast hx hb hK hP (WX_D hD) hS hI 19 (Nat.le_of_ble_eq_true rfl) rfl rfl n16 (okI rfl (iv_w i14 (by decide))) dX13_swift_31 (fun H locs E17 pw18 hI hP hS => ?_)
          have hKp := hKp.pw pw18 rfl
          obtain ⟨g19, eg19⟩ : ∃ z : Nat → Int32, z = upd g1 a0.toNatClampNeg a1 := ⟨_, rfl⟩
          have hg19 : xi (E17 19) = g19 := by rw [pw18.eu, ((pw3.ef 19 (Nat.ne_of_beq_eq_false rfl)).trans hg1), eg19]
          refine lv_iconst (v := 1) hx hb dX13_swift_32 (by decide) ?_
          rw [hQ]
          exact W.zret (v := 1) hx hb hr rfl (fun t ht hW => ⟨⟨1, E17, rfl, ⟨hI, hKp, Or.inl ⟨rfl, by have h8 := ln_1; all_goals omega, (show xi (E17 19) = g19 from hg19).trans (by rw [eg19, show xi (E 19) = g1 from hg1])⟩⟩, by show va_P (dC, dI) vwCl (WX 72 ad E17) t.heap; rw [ht]; exact hP⟩, hS.F ht⟩) hS.2.2 dX13_swift_33
        · --20 not
          exact absurd c15 (by decide)
      · -- isIn, case 1
        obtain ⟨rfl, f20⟩ := hw
        have t21 : ¬ ((1 : Int) ≤ a1.toInt ∧ a1.toInt ≤ 9) := f20
        refine lv_if_ne (tgt := 25) hx hb dX13_swift_20 (by decide) (fun c22 => ?_) (fun c22 => ?_)
        · --20 taken
          exact absurd c22 (by decide)
        · --20 not
          refine lv_iconst (v := 0) hx hb dX13_swift_23 (by decide) ?_
          rw [hQ]
          exact W.zret (v := 0) hx hb hr rfl (fun t ht hW => ⟨⟨0, E2, rfl, ⟨hI, hKp, Or.inr (⟨rfl, by have h8 := ln_0; all_goals omega, (show xi (E2 19) = g1 from ((pw3.ef 19 (Nat.ne_of_beq_eq_false rfl)).trans hg1)).trans (show xi (E 19) = g1 from hg1).symm⟩)⟩, by show va_P (dC, dI) vwCl (WX 72 ad E2) t.heap; rw [ht]; exact hP⟩, hS.F ht⟩) hS.2.2 dX13_swift_24
  · -- isRace, case 1
    obtain ⟨rfl, f23⟩ := hw
    have i24 : 0 ≤ (xi (E 0) 46).toInt ∧ (xi (E 0) 46).toInt ≤ 20 := (show 0 ≤ (xi (E 0) 46).toInt ∧ (xi (E 0) 46).toInt ≤ 20 from hI0.iv 0 (Nat.le_of_ble_eq_true rfl) rfl (Nat.le_of_ble_eq_true rfl) rfl)
    try rw [hKp.ei 0 46 rfl] at f23
    refine lv_if_eq (tgt := 23) hx hb dX13_swift_10 (by decide) (fun c25 => ?_) (fun c25 => ?_)
    · --10 taken
      refine lv_iconst (v := 0) hx hb dX13_swift_23 (by decide) ?_
      rw [hQ]
      exact W.zret (v := 0) hx hb hr rfl (fun t ht hW => ⟨⟨0, E2, rfl, ⟨hI, hKp, Or.inr (⟨rfl, by have h8 := ln_0; all_goals omega, (show xi (E2 19) = g1 from ((pw3.ef 19 (Nat.ne_of_beq_eq_false rfl)).trans hg1)).trans (show xi (E 19) = g1 from hg1).symm⟩)⟩, by show va_P (dC, dI) vwCl (WX 72 ad E2) t.heap; rw [ht]; exact hP⟩, hS.F ht⟩) hS.2.2 dX13_swift_24
    · --10 not
      exact absurd c25 (by decide)
def v_startR : List Cond := .code yX13_start cX13_start 5 (some .boolean) :: vA
abbrev rm_startR : Room := { frames := 2, cells := 0, slots := 0, locals := 80 }
def w_startR : Nat → Nat → Bool := wl [22, 23] [(0, 0)]
set_option maxHeartbeats 4000000 in
set_option maxRecDepth 100000 in
theorem q_startR (l : Launch) (dC : Nat → ClassId) (dI : Nat → Nat → Nat) (cT : Nat → ClassId) (ad : Nat → Nat) (E : Nat → va_E) (sz : Nat) (a0 : Int32) (a1 : Int32) (a2 : Int32) (a3 : Int32) (hI0 : IX cT shM spM 72 ad E)  : Met l yX13_start v_startR rm_startR (va_Pc [.ref (ad 0), .int a0, .int a1, .int a2, .int a3] (HW dC dI (TYM cT) 72 ad E sz)) (va_Qi (S := Nat → va_E) (fun r u => IX cT shM spM 72 ad u ∧ Kp w_startR E u ∧ ((r = 1 ∧ ((0 ≤ a0.toInt ∧ a0.toInt < (xi (E 0) 46).toInt) ∧ (0 ≤ a1.toInt ∧ a1.toInt < (xi (E 0) 8).toInt) ∧ (xi (E 21) (16 * a0.toInt + a1.toInt).toNat).toInt ≤ (xi (E 0) 1).toInt ∧ (0 ≤ a2.toInt ∧ a2.toInt ≤ 9) ∧ (0 ≤ a3.toInt ∧ a3.toInt ≤ 600)) ∧ (xi (u 22) = upd (xi (E 22)) (16 * a0.toInt + a1.toInt).toNat a2 ∧ xi (u 23) = upd (xi (E 23)) (16 * a0.toInt + a1.toInt).toNat a3)) ∨ (r = 0 ∧ (¬ ((0 ≤ a0.toInt ∧ a0.toInt < (xi (E 0) 46).toInt) ∧ (0 ≤ a1.toInt ∧ a1.toInt < (xi (E 0) 8).toInt) ∧ (xi (E 21) (16 * a0.toInt + a1.toInt).toNat).toInt ≤ (xi (E 0) 1).toInt ∧ (0 ≤ a2.toInt ∧ a2.toInt ≤ 9) ∧ (0 ≤ a3.toInt ∧ a3.toInt ≤ 600))) ∧ (xi (u 22) = xi (E 22) ∧ xi (u 23) = xi (E 23))))) (HB dC dI 72 ad) (va_A (WX 72 ad E) sz)) 0 0 (va_A (WX 72 ad E) sz) := by
  refine Met.ofW (cc := cX13_start) (maxL := 5) (ret := (some .boolean)) (by decide) rfl ?_
  intro p e s m args below meth c s₁ B hml hv
  obtain ⟨hargs, hsz, hP, hK, hD0, hEV⟩ := hv
  subst hsz
  have hx := B.exec
  have hb := B.bytes
  have hr := B.returns
  have hts := atoms_spec (ws := v_startR) B.pre
  have hown : s.vm.findClass RX13 = some m.cls := findClass_of_methodNamed B.named
  have hlocks := B.notSynchronized
  have hinX13 : ∀ w ∈ u_ws RX13 TX13 97, w ∈ v_startR := fun w h => vA_in _ w (in_X13 w h)
  generalize hAe : va_A (WX 72 ad E) s.heap.size = A at hEV ⊢
  have hA : ∀ q : Nat, s.heap.size ≤ q → A q := fun q h => by rw [← hAe]; exact Or.inr h
  have hD : va_D A (WX 72 ad E) := by rw [← hAe]; exact hD0.self
  have hS : va_S A s.heap s.heap [] := va_S.rf
  have hI := hI0
  have hKp : Kp w_startR E E := Kp.rf
  have hl := lv_entry ([.ref (ad 0), .int a0, .int a1, .int a2, .int a3]) (n := 5) (Nat.le_of_ble_eq_true rfl)
  obtain ⟨Q, hQ⟩ : ∃ Q, Q = MQ below (va_Qi (S := Nat → va_E) (fun r u => IX cT shM spM 72 ad u ∧ Kp w_startR E u ∧ ((r = 1 ∧ ((0 ≤ a0.toInt ∧ a0.toInt < (xi (E 0) 46).toInt) ∧ (0 ≤ a1.toInt ∧ a1.toInt < (xi (E 0) 8).toInt) ∧ (xi (E 21) (16 * a0.toInt + a1.toInt).toNat).toInt ≤ (xi (E 0) 1).toInt ∧ (0 ≤ a2.toInt ∧ a2.toInt ≤ 9) ∧ (0 ≤ a3.toInt ∧ a3.toInt ≤ 600)) ∧ (xi (u 22) = upd (xi (E 22)) (16 * a0.toInt + a1.toInt).toNat a2 ∧ xi (u 23) = upd (xi (E 23)) (16 * a0.toInt + a1.toInt).toNat a3)) ∨ (r = 0 ∧ (¬ ((0 ≤ a0.toInt ∧ a0.toInt < (xi (E 0) 46).toInt) ∧ (0 ≤ a1.toInt ∧ a1.toInt < (xi (E 0) 8).toInt) ∧ (xi (E 21) (16 * a0.toInt + a1.toInt).toNat).toInt ≤ (xi (E 0) 1).toInt ∧ (0 ≤ a2.toInt ∧ a2.toInt ≤ 9) ∧ (0 ≤ a3.toInt ∧ a3.toInt ≤ 600))) ∧ (xi (u 22) = xi (E 22) ∧ xi (u 23) = xi (E 23))))) (HB dC dI 72 ad) (A)) args s 0 0 (A) := ⟨_, rfl⟩
  rw [← hQ, show entryFrame m args 5 = _ from (congrArg (fun z => entryFrame m z 5) hargs).trans (lg_entry_eq _ _ _)]
  generalize (lg_sl ([.ref (ad 0), .int a0, .int a1, .int a2, .int a3]) ++ List.replicate (5 - (lg_sl ([.ref (ad 0), .int a0, .int a1, .int a2, .int a3])).length) Slot.unset).toArray = ls at hl ⊢
  have hl : lv_has ls 5 [(0, .ref (ad 0)), (1, .int a0), (2, .int a1), (3, .int a2), (4, .int a3)] := hl
  obtain ⟨g1, hg1⟩ : ∃ g, xi (E 22) = g := ⟨_, rfl⟩
  obtain ⟨g2, hg2⟩ : ∃ g, xi (E 23) = g := ⟨_, rfl⟩
  refine lv_aload_n hx hb dX13_start_0 rfl (lv_at hl 0 rfl) ?_
  refine lv_iconst (v := 0) hx hb dX13_start_1 (by decide) ?_
  refine th_put (ci := 14) (C := RX13) (T := TX13) (N := 97) (v := .int 0) (ty := .int) hx hb hts hinX13 tyX13 tyX13_ok nmX13 hown hK hP (WX_D hD) hS hI 0 (Nat.le_of_ble_eq_true rfl) rfl rfl 0 (Nat.le_of_ble_eq_true rfl) (hts _ (vA_in _ _ (in_24 _ (zs4 (zs4 (zs1 (zs1 (zs0)))))))) (fun _ h9 => h9) rfl (by decide +kernel) rfl rfl (okI rfl (iv_w ln_0 (by decide))) dX13_start_2 (fun H locs E3 pw4 hI hP hS => ?_)
  have hKp := hKp.pw pw4 rfl
  refine lv_aload_n hx hb dX13_start_5 rfl (lv_at hl 0 rfl) ?_
  refine lv_iload_n hx hb dX13_start_6 rfl (lv_at hl 1 rfl) ?_
  refine lv_iload_n hx hb dX13_start_7 rfl (lv_at hl 2 rfl) ?_
  refine th_ri (va_runV (As := [.int a0, .int a1]) (rest := []) ⟨hx, hb, hml, hown, hts⟩ (q_isEntry l dC dI cT ad E3 H.size a0 a1 hI) (cwV 2 hts (gi_V (in_33 _ (zs4 (zs4 (zs0)))) (in_33 _ (zs4 (zs4 (zs1 (zs0))))) (in_33 _ (zs4 (zs4 (zs1 (zs1 (zs0)))))) (in_24 _ (zs4 (zs4 (zs4 (zs1 (zs1 (zs1 (zs0)))))))) (in_32 _ (zs16 (zs4 (zs4 (zs0)))))) rfl rfl rfl ⟨rfl, hz_yX13_isEntry_2⟩ ⟨Nat.le_of_ble_eq_true rfl, Nat.le_of_ble_eq_true rfl⟩) ⟨HW_bl, va_recv hK hP (ci := 14) (q0 := 0) rfl (hI.ob 0 (Nat.le_of_ble_eq_true rfl) rfl), (HW_wi hP hK (WX_D hD) hS hA hEV)⟩ rfl rfl hl.1 rfl (lv_room (Nat.le_of_ble_eq_true rfl)) dX13_start_8 ⟨Nat.le_of_ble_eq_true rfl, Nat.le_of_ble_eq_true rfl⟩) hS hP (fun r5 H locs hw hP hS => ?_)
  rcases hw with hw | hw
  · -- isEntry, case 0
    obtain ⟨rfl, f6, f7, f8⟩ := hw
    have i9 : 0 ≤ (xi (E 0) 46).toInt ∧ (xi (E 0) 46).toInt ≤ 20 := (show 0 ≤ (xi (E 0) 46).toInt ∧ (xi (E 0) 46).toInt ≤ 20 from hI0.iv 0 (Nat.le_of_ble_eq_true rfl) rfl (Nat.le_of_ble_eq_true rfl) rfl)
    have i10 : 0 ≤ (xi (E 0) 8).toInt ∧ (xi (E 0) 8).toInt ≤ 16 := (show 0 ≤ (xi (E 0) 8).toInt ∧ (xi (E 0) 8).toInt ≤ 16 from hI0.iv 0 (Nat.le_of_ble_eq_true rfl) rfl (Nat.le_of_ble_eq_true rfl) rfl)
    have i11 : 0 ≤ (xi (E 0) 1).toInt ∧ (xi (E 0) 1).toInt ≤ 400 := (show 0 ≤ (xi (E 0) 1).toInt ∧ (xi (E 0) 1).toInt ≤ 400 from hI0.iv 0 (Nat.le_of_ble_eq_true rfl) rfl (Nat.le_of_ble_eq_true rfl) rfl)
    try rw [hKp.ei 0 46 rfl] at f6
    try rw [hKp.ei 0 8 rfl] at f6
    try rw [hKp.ei 0 1 rfl] at f6
    try rw [hKp.ef 21 (fun _ => rfl)] at f6
    refine lv_if_eq (tgt := 36) hx hb dX13_start_11 (by decide) (fun c12 => ?_) (fun c12 => ?_)
    · --11 taken
      exact absurd c12 (by decide)
    · --11 not
      refine lv_iload_n hx hb dX13_start_14 rfl (lv_at hl 3 rfl) ?_
      refine lv_iconst (v := 0) hx hb dX13_start_15 (by decide) ?_
      refine lv_bipush (v := 9) hx hb dX13_start_16 (by decide) ?_
      refine th_pi (va_runS (As := [.int a2, .int 0, .int 9]) (rest := []) ⟨hx, hb, hml, hown, hts⟩ (q_isIn l a2 (0 : Int32) (9 : Int32)) (va_cwS 3 hts (gi_S (in_24 _ (zs16 (zs4 (zs4 (zs4 (zs0)))))) (in_24 _ (zs16 (zs4 (zs4 (zs4 (zs1 (zs0))))))) (in_24 _ (zs4 (zs4 (zs4 (zs1 (zs1 (zs1 (zs0)))))))) (in_24 _ (zs16 (zs4 (zs4 (zs4 (zs1 (zs1 (zs0))))))))) rfl rfl rfl hz_yX13_isIn_3 ⟨Nat.le_of_ble_eq_true rfl, Nat.le_of_ble_eq_true rfl⟩) ⟨fun _ _ _ _ q => q, fun _ _ _ => ⟨rfl, trivial⟩⟩ rfl rfl hl.1 rfl (lv_room (Nat.le_of_ble_eq_true rfl)) dX13_start_18 ⟨Nat.le_of_ble_eq_true rfl, Nat.le_of_ble_eq_true rfl⟩) hS (fun r13 H1 locs1 hw hk1 hS => ?_)
      have hP := ub_keep hP hk1
      generalize H1 = H at hP hS ⊢
      generalize locs1 = locs at hS ⊢
      rcases hw with hw | hw
      · -- isIn, case 0
        obtain ⟨rfl, f14⟩ := hw
        have t15 : (0 : Int) ≤ a2.toInt := f14.1
        have t16 : a2.toInt ≤ 9 := f14.2
        have i17 : 0 ≤ a2.toInt ∧ a2.toInt ≤ 2147483647 := iv_le_r t15 (il_ 0) (iv_all _) (by decide)
        have i18 : 0 ≤ a2.toInt ∧ a2.toInt ≤ 9 := iv_le_l t16 i17 (il_ 9) (by decide)
        refine lv_if_eq (tgt := 36) hx hb dX13_start_21 (by decide) (fun c19 => ?_) (fun c19 => ?_)
        · --21 taken
          exact absurd c19 (by decide)
        · --21 not
          refine lv_iload hx hb dX13_start_24 (lv_at hl 4 rfl) ?_
          refine lv_iconst (v := 0) hx hb dX13_start_26 (by decide) ?_
          refine lv_sipush (v := 600) hx hb dX13_start_27 (by decide) ?_
          refine th_pi (va_runS (As := [.int a3, .int 0, .int 600]) (rest := []) ⟨hx, hb, hml, hown, hts⟩ (q_isIn l a3 (0 : Int32) (600 : Int32)) (va_cwS 3 hts (gi_S (in_24 _ (zs16 (zs4 (zs4 (zs4 (zs0)))))) (in_24 _ (zs16 (zs4 (zs4 (zs4 (zs1 (zs0))))))) (in_24 _ (zs4 (zs4 (zs4 (zs1 (zs1 (zs1 (zs0)))))))) (in_24 _ (zs16 (zs4 (zs4 (zs4 (zs1 (zs1 (zs0))))))))) rfl rfl rfl hz_yX13_isIn_3 ⟨Nat.le_of_ble_eq_true rfl, Nat.le_of_ble_eq_true rfl⟩) ⟨fun _ _ _ _ q => q, fun _ _ _ => ⟨rfl, trivial⟩⟩ rfl rfl hl.1 rfl (lv_room (Nat.le_of_ble_eq_true rfl)) dX13_start_30 ⟨Nat.le_of_ble_eq_true rfl, Nat.le_of_ble_eq_true rfl⟩) hS (fun r20 H1 locs1 hw hk1 hS => ?_)
          have hP := ub_keep hP hk1
          generalize H1 = H at hP hS ⊢
          generalize locs1 = locs at hS ⊢
          rcases hw with hw | hw
          · -- isIn, case 0
            obtain ⟨rfl, f21⟩ := hw
            have t22 : (0 : Int) ≤ a3.toInt := f21.1
            have t23 : a3.toInt ≤ 600 := f21.2
            have i24 : 0 ≤ a3.toInt ∧ a3.toInt ≤ 2147483647 := iv_le_r t22 (il_ 0) (iv_all _) (by decide)
            have i25 : 0 ≤ a3.toInt ∧ a3.toInt ≤ 600 := iv_le_l t23 i24 (il_ 600) (by decide)
            refine lv_if_ne (tgt := 38) hx hb dX13_start_33 (by decide) (fun c26 => ?_) (fun c26 => ?_)
            · --33 taken
              refine lv_aload_n hx hb dX13_start_38 rfl (lv_at hl 0 rfl) ?_
              refine th_get (ci := 14) (C := RX13) (T := TX13) (N := 97) (v := .ref (ad 22)) hx hb hts hinX13 hown hK hP hI 0 (Nat.le_of_ble_eq_true rfl) rfl rfl 36 (Nat.le_of_ble_eq_true rfl) (hts _ (vA_in _ _ (in_32 _ (zs4 (zs1 (zs1 (zs1 (zs0)))))))) (fun _ h9 => h9) (hI.fr 0 (Nat.le_of_ble_eq_true rfl) rfl (Nat.le_of_ble_eq_true rfl) 22 rfl) dX13_start_39 ?_
              refine lv_bipush (v := 16) hx hb dX13_start_42 (by decide) ?_
              refine lv_iload_n hx hb dX13_start_44 rfl (lv_at hl 1 rfl) ?_
              refine lv_imul hx hb dX13_start_45 ?_
              refine lv_topi (fun y27 ey27 => ?_)
              obtain ⟨ty27, iy27⟩ := ti_mul (e := 0) (f := 304) ln_16 f7 ey27 (by decide)
              have ty27 : y27.toInt = 16 * a0.toInt := ty27
              have iy27 : 0 ≤ y27.toInt ∧ y27.toInt ≤ 304 := iy27
              refine lv_iload_n hx hb dX13_start_46 rfl (lv_at hl 2 rfl) ?_
              refine lv_iadd hx hb dX13_start_47 ?_
              refine lv_topi (fun y28 ey28 => ?_)
              obtain ⟨ty28, iy28⟩ := ti_add (e := 0) (f := 319) iy27 f8 ey28 (by decide)
              have ty28 : y28.toInt = y27.toInt + a1.toInt := ty28
              have iy28 : 0 ≤ y28.toInt ∧ y28.toInt ≤ 319 := iy28
              refine lv_iload_n hx hb dX13_start_48 rfl (lv_at hl 3 rfl) ?_
              have n29 : vp_in y28 320 := (iv_in (n := 320) iy28 (by decide))
              refine th_iast hx hb hK hP (WX_D hD) hS hI 22 (Nat.le_of_ble_eq_true rfl) rfl rfl n29 (okI rfl (iv_w i18 (by decide))) dX13_start_49 (fun H locs E30 pw31 hI hP hS => ?_)
              have hKp := hKp.pw pw31 rfl
              obtain ⟨g32, eg32⟩ : ∃ z : Nat → Int32, z = upd g1 y28.toNatClampNeg a2 := ⟨_, rfl⟩
              have hg32 : xi (E30 22) = g32 := by rw [pw31.eu, ((pw4.ef 22 (Nat.ne_of_beq_eq_false rfl)).trans hg1), eg32]
              refine lv_aload_n hx hb dX13_start_50 rfl (lv_at hl 0 rfl) ?_
              refine th_get (ci := 14) (C := RX13) (T := TX13) (N := 97) (v := .ref (ad 23)) hx hb hts hinX13 hown hK hP hI 0 (Nat.le_of_ble_eq_true rfl) rfl rfl 37 (Nat.le_of_ble_eq_true rfl) (hts _ (vA_in _ _ (in_32 _ (zs4 (zs4 (zs0)))))) (fun _ h9 => h9) (hI.fr 0 (Nat.le_of_ble_eq_true rfl) rfl (Nat.le_of_ble_eq_true rfl) 23 rfl) dX13_start_51 ?_
              refine lv_bipush (v := 16) hx hb dX13_start_54 (by decide) ?_
              refine lv_iload_n hx hb dX13_start_56 rfl (lv_at hl 1 rfl) ?_
              refine lv_imul hx hb dX13_start_57 ?_
              refine lv_topi (fun y33 ey33 => ?_)
              obtain ⟨ty33, iy33⟩ := ti_mul (e := 0) (f := 304) ln_16 f7 ey33 (by decide)
              have ty33 : y33.toInt = 16 * a0.toInt := ty33
              have iy33 : 0 ≤ y33.toInt ∧ y33.toInt ≤ 304 := iy33
              refine lv_iload_n hx hb dX13_start_58 rfl (lv_at hl 2 rfl) ?_
              refine lv_iadd hx hb dX13_start_59 ?_
              refine lv_topi (fun y34 ey34 => ?_)
              obtain ⟨ty34, iy34⟩ := ti_add (e := 0) (f := 319) iy33 f8 ey34 (by decide)
              have ty34 : y34.toInt = y33.toInt + a1.toInt := ty34
              have iy34 : 0 ≤ y34.toInt ∧ y34.toInt ≤ 319 := iy34
              refine lv_iload hx hb dX13_start_60 (lv_at hl 4 rfl) ?_
              have n35 : vp_in y34 320 := (iv_in (n := 320) iy34 (by decide))
              refine th_iast hx hb hK hP (WX_D hD) hS hI 23 (Nat.le_of_ble_eq_true rfl) rfl rfl n35 (okI rfl i25) dX13_start_62 (fun H locs E36 pw37 hI hP hS => ?_)
              have hKp := hKp.pw pw37 rfl
              obtain ⟨g38, eg38⟩ : ∃ z : Nat → Int32, z = upd g2 y34.toNatClampNeg a3 := ⟨_, rfl⟩
              have hg38 : xi (E36 23) = g38 := by rw [pw37.eu, ((pw31.ef 23 (Nat.ne_of_beq_eq_false rfl)).trans ((pw4.ef 23 (Nat.ne_of_beq_eq_false rfl)).trans hg2)), eg38]
              refine lv_iconst (v := 1) hx hb dX13_start_63 (by decide) ?_
              rw [hQ]
              exact W.zret (v := 1) hx hb hr rfl (fun t ht hW => ⟨⟨1, E36, rfl, ⟨hI, hKp, Or.inl ⟨rfl, by have h8 := ln_1; all_goals omega, ⟨(show xi (E36 22) = g32 from ((pw37.ef 22 (Nat.ne_of_beq_eq_false rfl)).trans hg32)).trans (by rw [eg32, show xi (E 22) = g1 from hg1]; congr 1; rw [tn_]; omega), (show xi (E36 23) = g38 from hg38).trans (by rw [eg38, show xi (E 23) = g2 from hg2]; congr 1; rw [tn_]; omega)⟩⟩⟩, by show va_P (dC, dI) vwCl (WX 72 ad E36) t.heap; rw [ht]; exact hP⟩, hS.F ht⟩) hS.2.2 dX13_start_64
            · --33 not
              exact absurd c26 (by decide)
          · -- isIn, case 1
            obtain ⟨rfl, f39⟩ := hw
            have t40 : ¬ ((0 : Int) ≤ a3.toInt ∧ a3.toInt ≤ 600) := f39
            refine lv_if_ne (tgt := 38) hx hb dX13_start_33 (by decide) (fun c41 => ?_) (fun c41 => ?_)
            · --33 taken
              exact absurd c41 (by decide)
            · --33 not
              refine lv_iconst (v := 0) hx hb dX13_start_36 (by decide) ?_
              rw [hQ]
              exact W.zret (v := 0) hx hb hr rfl (fun t ht hW => ⟨⟨0, E3, rfl, ⟨hI, hKp, Or.inr (⟨rfl, by have h8 := ln_0; all_goals omega, ⟨(show xi (E3 22) = g1 from ((pw4.ef 22 (Nat.ne_of_beq_eq_false rfl)).trans hg1)).trans (show xi (E 22) = g1 from hg1).symm, (show xi (E3 23) = g2 from ((pw4.ef 23 (Nat.ne_of_beq_eq_false rfl)).trans hg2)).trans (show xi (E 23) = g2 from hg2).symm⟩⟩)⟩, by show va_P (dC, dI) vwCl (WX 72 ad E3) t.heap; rw [ht]; exact hP⟩, hS.F ht⟩) hS.2.2 dX13_start_37
      · -- isIn, case 1
        obtain ⟨rfl, f42⟩ := hw
        have t43 : ¬ ((0 : Int) ≤ a2.toInt ∧ a2.toInt ≤ 9) := f42
        refine lv_if_eq (tgt := 36) hx hb dX13_start_21 (by decide) (fun c44 => ?_) (fun c44 => ?_)
        · --21 taken
          refine lv_iconst (v := 0) hx hb dX13_start_36 (by decide) ?_
          rw [hQ]
          exact W.zret (v := 0) hx hb hr rfl (fun t ht hW => ⟨⟨0, E3, rfl, ⟨hI, hKp, Or.inr (⟨rfl, by have h8 := ln_0; all_goals omega, ⟨(show xi (E3 22) = g1 from ((pw4.ef 22 (Nat.ne_of_beq_eq_false rfl)).trans hg1)).trans (show xi (E 22) = g1 from hg1).symm, (show xi (E3 23) = g2 from ((pw4.ef 23 (Nat.ne_of_beq_eq_false rfl)).trans hg2)).trans (show xi (E 23) = g2 from hg2).symm⟩⟩)⟩, by show va_P (dC, dI) vwCl (WX 72 ad E3) t.heap; rw [ht]; exact hP⟩, hS.F ht⟩) hS.2.2 dX13_start_37
        · --21 not
          exact absurd c44 (by decide)
  · -- isEntry, case 1
    obtain ⟨rfl, f45⟩ := hw
    have i46 : 0 ≤ (xi (E 0) 46).toInt ∧ (xi (E 0) 46).toInt ≤ 20 := (show 0 ≤ (xi (E 0) 46).toInt ∧ (xi (E 0) 46).toInt ≤ 20 from hI0.iv 0 (Nat.le_of_ble_eq_true rfl) rfl (Nat.le_of_ble_eq_true rfl) rfl)
    have i47 : 0 ≤ (xi (E 0) 8).toInt ∧ (xi (E 0) 8).toInt ≤ 16 := (show 0 ≤ (xi (E 0) 8).toInt ∧ (xi (E 0) 8).toInt ≤ 16 from hI0.iv 0 (Nat.le_of_ble_eq_true rfl) rfl (Nat.le_of_ble_eq_true rfl) rfl)
    have i48 : 0 ≤ (xi (E 0) 1).toInt ∧ (xi (E 0) 1).toInt ≤ 400 := (show 0 ≤ (xi (E 0) 1).toInt ∧ (xi (E 0) 1).toInt ≤ 400 from hI0.iv 0 (Nat.le_of_ble_eq_true rfl) rfl (Nat.le_of_ble_eq_true rfl) rfl)
    try rw [hKp.ei 0 46 rfl] at f45
    try rw [hKp.ei 0 8 rfl] at f45
    try rw [hKp.ei 0 1 rfl] at f45
    try rw [hKp.ef 21 (fun _ => rfl)] at f45
    refine lv_if_eq (tgt := 36) hx hb dX13_start_11 (by decide) (fun c49 => ?_) (fun c49 => ?_)
    · --11 taken
      refine lv_iconst (v := 0) hx hb dX13_start_36 (by decide) ?_
      rw [hQ]
      exact W.zret (v := 0) hx hb hr rfl (fun t ht hW => ⟨⟨0, E3, rfl, ⟨hI, hKp, Or.inr (⟨rfl, by have h8 := ln_0; all_goals omega, ⟨(show xi (E3 22) = g1 from ((pw4.ef 22 (Nat.ne_of_beq_eq_false rfl)).trans hg1)).trans (show xi (E 22) = g1 from hg1).symm, (show xi (E3 23) = g2 from ((pw4.ef 23 (Nat.ne_of_beq_eq_false rfl)).trans hg2)).trans (show xi (E 23) = g2 from hg2).symm⟩⟩)⟩, by show va_P (dC, dI) vwCl (WX 72 ad E3) t.heap; rw [ht]; exact hP⟩, hS.F ht⟩) hS.2.2 dX13_start_37
    · --11 not
      exact absurd c49 (by decide)
def v_u_startR : List Cond := .code yX12_start cX12_start 6 (some .boolean) :: vA
abbrev rm_u_startR : Room := { frames := 4, cells := 0, slots := 0, locals := 160 }
set_option maxHeartbeats 4000000 in
set_option maxRecDepth 100000 in
theorem q_u_startR (l : Launch) (dC : Nat → ClassId) (dI : Nat → Nat → Nat) (cT : Nat → ClassId) (cf : Nat → Nat) (hC : CF cf) (ad : Nat → Nat) (E : Nat → va_E) (sz : Nat) (a0 : Int32) (a1 : Int32) (a2 : Int32) (a3 : Int32) (hI0 : IXL cT (shC cf) (spC cf) (LC cf) ad E)  : Met l yX12_start v_u_startR rm_u_startR (va_Pc [.ref (ad 0), .int a0, .int a1, .int a2, .int a3] (HWL dC dI (TYC cT) cf ad E sz)) (va_Qi (S := Nat → va_E) (fun r u => IXL cT (shC cf) (spC cf) (LC cf) ad u ∧ Kp (wl [64 * (a0.toNatClampNeg + 1) + 10, 64 * (a0.toNatClampNeg + 1) + 9] []) E u ∧ ((r = 1 ∧ ((0 ≤ a0.toInt ∧ a0.toInt < ((cf 2 : Nat) : Int)) ∧ (0 ≤ a1.toInt ∧ a1.toInt < (xi (E 1) 1).toInt) ∧ (¬ (xi (E (64 * (a0.toNatClampNeg + 1) + 7)) a1.toNatClampNeg).toInt = -1 ∧ (xi (E (64 * (a0.toNatClampNeg + 1) + 7)) a1.toNatClampNeg).toInt ≤ (xi (E 1) 0).toInt) ∧ (0 ≤ a2.toInt ∧ a2.toInt ≤ 9) ∧ (0 ≤ a3.toInt ∧ a3.toInt ≤ 600)) ∧ (xi (u (64 * (a0.toNatClampNeg + 1) + 9)) = upd (xi (E (64 * (a0.toNatClampNeg + 1) + 9))) a1.toNatClampNeg a2 ∧ xi (u (64 * (a0.toNatClampNeg + 1) + 10)) = upd (xi (E (64 * (a0.toNatClampNeg + 1) + 10))) a1.toNatClampNeg a3)) ∨ (r = 0 ∧ (¬ ((0 ≤ a0.toInt ∧ a0.toInt < ((cf 2 : Nat) : Int)) ∧ (0 ≤ a1.toInt ∧ a1.toInt < (xi (E 1) 1).toInt) ∧ (¬ (xi (E (64 * (a0.toNatClampNeg + 1) + 7)) a1.toNatClampNeg).toInt = -1 ∧ (xi (E (64 * (a0.toNatClampNeg + 1) + 7)) a1.toNatClampNeg).toInt ≤ (xi (E 1) 0).toInt) ∧ (0 ≤ a2.toInt ∧ a2.toInt ≤ 9) ∧ (0 ≤ a3.toInt ∧ a3.toInt ≤ 600))) ∧ (xi (u (64 * (a0.toNatClampNeg + 1) + 9)) = xi (E (64 * (a0.toNatClampNeg + 1) + 9)) ∧ xi (u (64 * (a0.toNatClampNeg + 1) + 10)) = xi (E (64 * (a0.toNatClampNeg + 1) + 10)))))) (HBL dC dI (LC cf) ad) (va_A (WL (LC cf) ad E) sz)) 0 0 (va_A (WL (LC cf) ad E) sz) := by
  obtain ⟨⟨hc0, hc1, hc2, hc3, hc4, hc5⟩, hcr⟩ := id hC
  refine Met.ofW (cc := cX12_start) (maxL := 6) (ret := (some .boolean)) (by decide) rfl ?_
  intro p e s m args below meth c s₁ B hml hv
  obtain ⟨hargs, hsz, hP, hK, hD0, hEV⟩ := hv
  subst hsz
  have hx := B.exec
  have hb := B.bytes
  have hr := B.returns
  have hts := atoms_spec (ws := v_u_startR) B.pre
  have hown : s.vm.findClass RX12 = some m.cls := findClass_of_methodNamed B.named
  have hlocks := B.notSynchronized
  have hinX0 : ∀ w ∈ u_ws RX0 TX0 11, w ∈ v_u_startR := fun w h => vA_in _ w (in_X0 w h)
  have hinX12 : ∀ w ∈ u_ws RX12 TX12 6, w ∈ v_u_startR := fun w h => vA_in _ w (in_X12 w h)
  have hinX5 : ∀ w ∈ u_ws RX5 TX5 12, w ∈ v_u_startR := fun w h => vA_in _ w (in_X5 w h)
  generalize hAe : va_A (WL (LC cf) ad E) s.heap.size = A at hEV ⊢
  have hA : ∀ q : Nat, s.heap.size ≤ q → A q := fun q h => by rw [← hAe]; exact Or.inr h
  have hD : va_D A (WL (LC cf) ad E) := by rw [← hAe]; exact hD0.self
  have hS : va_S A s.heap s.heap [] := va_S.rf
  have hI := hI0
  have hKp : Kp (wl [64 * (a0.toNatClampNeg + 1) + 10, 64 * (a0.toNatClampNeg + 1) + 9] []) E E := Kp.rf
  have hl := lv_entry ([.ref (ad 0), .int a0, .int a1, .int a2, .int a3]) (n := 6) (Nat.le_of_ble_eq_true rfl)
  obtain ⟨Q, hQ⟩ : ∃ Q, Q = MQ below (va_Qi (S := Nat → va_E) (fun r u => IXL cT (shC cf) (spC cf) (LC cf) ad u ∧ Kp (wl [64 * (a0.toNatClampNeg + 1) + 10, 64 * (a0.toNatClampNeg + 1) + 9] []) E u ∧ ((r = 1 ∧ ((0 ≤ a0.toInt ∧ a0.toInt < ((cf 2 : Nat) : Int)) ∧ (0 ≤ a1.toInt ∧ a1.toInt < (xi (E 1) 1).toInt) ∧ (¬ (xi (E (64 * (a0.toNatClampNeg + 1) + 7)) a1.toNatClampNeg).toInt = -1 ∧ (xi (E (64 * (a0.toNatClampNeg + 1) + 7)) a1.toNatClampNeg).toInt ≤ (xi (E 1) 0).toInt) ∧ (0 ≤ a2.toInt ∧ a2.toInt ≤ 9) ∧ (0 ≤ a3.toInt ∧ a3.toInt ≤ 600)) ∧ (xi (u (64 * (a0.toNatClampNeg + 1) + 9)) = upd (xi (E (64 * (a0.toNatClampNeg + 1) + 9))) a1.toNatClampNeg a2 ∧ xi (u (64 * (a0.toNatClampNeg + 1) + 10)) = upd (xi (E (64 * (a0.toNatClampNeg + 1) + 10))) a1.toNatClampNeg a3)) ∨ (r = 0 ∧ (¬ ((0 ≤ a0.toInt ∧ a0.toInt < ((cf 2 : Nat) : Int)) ∧ (0 ≤ a1.toInt ∧ a1.toInt < (xi (E 1) 1).toInt) ∧ (¬ (xi (E (64 * (a0.toNatClampNeg + 1) + 7)) a1.toNatClampNeg).toInt = -1 ∧ (xi (E (64 * (a0.toNatClampNeg + 1) + 7)) a1.toNatClampNeg).toInt ≤ (xi (E 1) 0).toInt) ∧ (0 ≤ a2.toInt ∧ a2.toInt ≤ 9) ∧ (0 ≤ a3.toInt ∧ a3.toInt ≤ 600))) ∧ (xi (u (64 * (a0.toNatClampNeg + 1) + 9)) = xi (E (64 * (a0.toNatClampNeg + 1) + 9)) ∧ xi (u (64 * (a0.toNatClampNeg + 1) + 10)) = xi (E (64 * (a0.toNatClampNeg + 1) + 10)))))) (HBL dC dI (LC cf) ad) (A)) args s 0 0 (A) := ⟨_, rfl⟩
  rw [← hQ, show entryFrame m args 6 = _ from (congrArg (fun z => entryFrame m z 6) hargs).trans (lg_entry_eq _ _ _)]
  generalize (lg_sl ([.ref (ad 0), .int a0, .int a1, .int a2, .int a3]) ++ List.replicate (6 - (lg_sl ([.ref (ad 0), .int a0, .int a1, .int a2, .int a3])).length) Slot.unset).toArray = ls at hl ⊢
  have hl : lv_has ls 6 [(0, .ref (ad 0)), (1, .int a0), (2, .int a1), (3, .int a2), (4, .int a3)] := hl
  refine lv_aload_n hx hb dX12_start_0 rfl (lv_at hl 0 rfl) ?_
  refine th_getL (ci := 13) (C := RX12) (T := TX12) (N := 6) (v := .ref (ad 1)) hx hb hts hinX12 hown hK hP hI 0 (mF 0 rfl) rfl rfl 0 (Nat.le_of_ble_eq_true rfl) (hts _ (vA_in _ _ (in_10 _ (zs16 (zs1 (zs0)))))) (fun _ h9 => h9) (hI.fr 0 (mF 0 rfl) rfl (Nat.le_of_ble_eq_true rfl) 1 rfl) dX12_start_1 ?_
  refine lv_iload_n hx hb dX12_start_4 rfl (lv_at hl 1 rfl) ?_
  refine lv_iload_n hx hb dX12_start_5 rfl (lv_at hl 2 rfl) ?_
  refine th_riL (va_runV (As := [.int a0, .int a1]) (rest := []) ⟨hx, hb, hml, hown, hts⟩ (q_isEnteredC l dC dI cT cf hC ad E s.heap.size a0 a1 hI) (cwV 2 hts (gi_V (in_18 _ (zs1 (zs0))) (in_18 _ (zs1 (zs1 (zs0)))) (in_18 _ (zs1 (zs1 (zs1 (zs0))))) (in_5 _ (zs4 (zs1 (zs1 (zs0))))) (in_6 _ (zs4 (zs4 (zs1 (zs1 (zs0))))))) rfl rfl rfl ⟨rfl, hz_yX0_isEntered_2⟩ ⟨Nat.le_of_ble_eq_true rfl, Nat.le_of_ble_eq_true rfl⟩) ⟨HWL_bl, va_recv hK hP (ci := 1) (q0 := posL 1 (LC cf)) rfl (hI.ob 1 (mF 1 rfl) rfl), (HWL_wi hP hK (WL_D hD) hS hA hEV)⟩ rfl rfl hl.1 rfl (lv_room (Nat.le_of_ble_eq_true rfl)) dX12_start_6 ⟨Nat.le_of_ble_eq_true rfl, Nat.le_of_ble_eq_true rfl⟩) hS hP (fun r1 H locs hw hP hS => ?_)
  rcases hw with hw | hw
  · -- isEnteredC, case 0
    obtain ⟨rfl, f2, f3, f4⟩ := hw
    have i5 : 0 ≤ (xi (E 1) 1).toInt ∧ (xi (E 1) 1).toInt ≤ 16 := hI0.iv 1 (mF 1 rfl) rfl (Nat.le_of_ble_eq_true rfl) rfl
    have i6 : 0 ≤ (xi (E 1) 0).toInt ∧ (xi (E 1) 0).toInt ≤ 400 := hI0.iv 1 (mF 1 rfl) rfl (Nat.le_of_ble_eq_true rfl) rfl
    refine lv_if_eq (tgt := 34) hx hb dX12_start_9 (by decide) (fun c7 => ?_) (fun c7 => ?_)
    · --9 taken
      exact absurd c7 (by decide)
    · --9 not
      refine lv_iload_n hx hb dX12_start_12 rfl (lv_at hl 3 rfl) ?_
      refine lv_iconst (v := 0) hx hb dX12_start_13 (by decide) ?_
      refine lv_bipush (v := 9) hx hb dX12_start_14 (by decide) ?_
      refine th_pi (va_runS (As := [.int a2, .int 0, .int 9]) (rest := []) ⟨hx, hb, hml, hown, hts⟩ (q_cwithin l a2 (0 : Int32) (9 : Int32)) (va_cwS 3 hts (gi_S (in_10 _ (zs16 (zs4 (zs4 (zs4 (zs1 (zs1 (zs1 (zs0))))))))) (in_4 _ (zs16 (zs4 (zs1 (zs1 (zs0)))))) (in_4 _ (zs16 (zs4 (zs1 (zs1 (zs1 (zs0))))))) (in_4 _ (zs16 (zs4 (zs4 (zs0)))))) rfl rfl rfl hz_yX12_within_3 ⟨Nat.le_of_ble_eq_true rfl, Nat.le_of_ble_eq_true rfl⟩) ⟨fun _ _ _ _ q => q, fun _ _ _ => ⟨rfl, trivial⟩⟩ rfl rfl hl.1 rfl (lv_room (Nat.le_of_ble_eq_true rfl)) dX12_start_16 ⟨Nat.le_of_ble_eq_true rfl, Nat.le_of_ble_eq_true rfl⟩) hS (fun r8 H1 locs1 hw hk1 hS => ?_)
      have hP := ub_keep hP hk1
      generalize H1 = H at hP hS ⊢
      generalize locs1 = locs at hS ⊢
      rcases hw with hw | hw
      · -- cwithin, case 0
        obtain ⟨rfl, f9⟩ := hw
        have t10 : (0 : Int) ≤ a2.toInt := f9.1
        have t11 : a2.toInt ≤ 9 := f9.2
        have i12 : 0 ≤ a2.toInt ∧ a2.toInt ≤ 2147483647 := iv_le_r t10 (il_ 0) (iv_all _) (by decide)
        have i13 : 0 ≤ a2.toInt ∧ a2.toInt ≤ 9 := iv_le_l t11 i12 (il_ 9) (by decide)
        refine lv_if_eq (tgt := 34) hx hb dX12_start_19 (by decide) (fun c14 => ?_) (fun c14 => ?_)
        · --19 taken
          exact absurd c14 (by decide)
        · --19 not
          refine lv_iload hx hb dX12_start_22 (lv_at hl 4 rfl) ?_
          refine lv_iconst (v := 0) hx hb dX12_start_24 (by decide) ?_
          refine lv_sipush (v := 600) hx hb dX12_start_25 (by decide) ?_
          refine th_pi (va_runS (As := [.int a3, .int 0, .int 600]) (rest := []) ⟨hx, hb, hml, hown, hts⟩ (q_cwithin l a3 (0 : Int32) (600 : Int32)) (va_cwS 3 hts (gi_S (in_10 _ (zs16 (zs4 (zs4 (zs4 (zs1 (zs1 (zs1 (zs0))))))))) (in_4 _ (zs16 (zs4 (zs1 (zs1 (zs0)))))) (in_4 _ (zs16 (zs4 (zs1 (zs1 (zs1 (zs0))))))) (in_4 _ (zs16 (zs4 (zs4 (zs0)))))) rfl rfl rfl hz_yX12_within_3 ⟨Nat.le_of_ble_eq_true rfl, Nat.le_of_ble_eq_true rfl⟩) ⟨fun _ _ _ _ q => q, fun _ _ _ => ⟨rfl, trivial⟩⟩ rfl rfl hl.1 rfl (lv_room (Nat.le_of_ble_eq_true rfl)) dX12_start_28 ⟨Nat.le_of_ble_eq_true rfl, Nat.le_of_ble_eq_true rfl⟩) hS (fun r15 H1 locs1 hw hk1 hS => ?_)
          have hP := ub_keep hP hk1
          generalize H1 = H at hP hS ⊢
          generalize locs1 = locs at hS ⊢
          rcases hw with hw | hw
          · -- cwithin, case 0
            obtain ⟨rfl, f16⟩ := hw
            have t17 : (0 : Int) ≤ a3.toInt := f16.1
            have t18 : a3.toInt ≤ 600 := f16.2
            have i19 : 0 ≤ a3.toInt ∧ a3.toInt ≤ 2147483647 := iv_le_r t17 (il_ 0) (iv_all _) (by decide)
            have i20 : 0 ≤ a3.toInt ∧ a3.toInt ≤ 600 := iv_le_l t18 i19 (il_ 600) (by decide)
            refine lv_if_ne (tgt := 36) hx hb dX12_start_31 (by decide) (fun c21 => ?_) (fun c21 => ?_)
            · --31 taken
              refine lv_aload_n hx hb dX12_start_36 rfl (lv_at hl 0 rfl) ?_
              refine th_getL (ci := 13) (C := RX12) (T := TX12) (N := 6) (v := .ref (ad 1)) hx hb hts hinX12 hown hK hP hI 0 (mF 0 rfl) rfl rfl 0 (Nat.le_of_ble_eq_true rfl) (hts _ (vA_in _ _ (in_10 _ (zs16 (zs1 (zs0)))))) (fun _ h9 => h9) (hI.fr 0 (mF 0 rfl) rfl (Nat.le_of_ble_eq_true rfl) 1 rfl) dX12_start_37 ?_
              refine th_getL (ci := 1) (C := RX0) (T := TX0) (N := 11) (v := .ref (ad 9)) hx hb hts hinX0 hown hK hP hI 1 (mF 1 rfl) rfl rfl 5 (Nat.le_of_ble_eq_true rfl) (hts _ (vA_in _ _ (in_14 _ (zs4 (zs1 (zs1 (zs1 (zs0)))))))) (fun _ h9 => h9) (hI.fr 1 (mF 1 rfl) rfl (Nat.le_of_ble_eq_true rfl) 9 rfl) dX12_start_40 ?_
              refine lv_iload_n hx hb dX12_start_43 rfl (lv_at hl 1 rfl) ?_
              refine th_rrL (va_runV (As := [.int a0]) (rest := []) ⟨hx, hb, hml, hown, hts⟩ (q_get2 l dC dI cT cf hC ad E H.size a0 hI (by omega)) (cwV 1 hts (gi_V (in_14 _ (zs16 (zs4 (zs4 (zs0))))) (in_4 _ (zs16 (zs16 (zs4 (zs1 (zs1 (zs0))))))) (in_4 _ (zs16 (zs16 (zs4 (zs1 (zs1 (zs1 (zs0)))))))) (in_3 _ (zs16 (zs1 (zs1 (zs0))))) (in_3 _ (zs16 (zs16 (zs4 (zs1 (zs1 (zs1 (zs0))))))))) rfl rfl rfl ⟨rfl, hz_yJx4a65c_get_915e3_1⟩ ⟨Nat.le_of_ble_eq_true rfl, Nat.le_of_ble_eq_true rfl⟩) ⟨HWL_bl, va_recv hK hP (ci := 0) (q0 := posL 9 (LC cf)) rfl (hI.ob 9 (mF 9 rfl) rfl), (HWL_wi hP hK (WL_D hD) hS hA hEV)⟩ rfl rfl hl.1 rfl (lv_room (Nat.le_of_ble_eq_true rfl)) dX12_start_44 ⟨Nat.le_of_ble_eq_true rfl, Nat.le_of_ble_eq_true rfl⟩) hS hP (fun r22 H locs hw hP hS => ?_)
              obtain rfl := hw
              have lv23 : a0.toNatClampNeg < cf 2 := by rw [tn_]; omega
              refine va_castS (cC := dC 6) hx hb hown (hts _ (vA_in _ _ (in_17 _ (zs16 (zs16 (zs4 (zs1 (zs1 (zs0))))))))) (hK.1 6 _ rfl).2 (va_recv hK hP (ci := 6) (q0 := posL (64 * (a0.toNatClampNeg + 1) + 6) (LC cf)) rfl (hI.ob (64 * (a0.toNatClampNeg + 1) + 6) (mP 6 a0.toNatClampNeg (by decide) lv23 (kl_le hC 2 (by decide))) (shC_p 6 a0.toNatClampNeg (by decide)))) dX12_start_47 ?_
              refine lv_astore (lv' := [(5, .ref (ad (64 * (a0.toNatClampNeg + 1) + 6))), (0, .ref (ad 0)), (1, .int a0), (2, .int a1), (3, .int a2), (4, .int a3)]) hx hb dX12_start_50 hl (by decide) rfl (fun ls hl => ?_)
              refine lv_aload hx hb dX12_start_52 (lv_at hl 0 rfl) ?_
              refine th_getL (ci := 6) (C := RX5) (T := TX5) (N := 12) (v := .ref (ad (64 * (a0.toNatClampNeg + 1) + 9))) hx hb hts hinX5 hown hK hP hI (64 * (a0.toNatClampNeg + 1) + 6) (mP 6 a0.toNatClampNeg (by decide) lv23 (kl_le hC 2 (by decide))) (shC_p 6 a0.toNatClampNeg (by decide)) rfl 9 (Nat.le_of_ble_eq_true rfl) (hts _ (vA_in _ _ (in_23 _ zs0))) (fun _ h9 => h9) (hI.fr (64 * (a0.toNatClampNeg + 1) + 6) (mP 6 a0.toNatClampNeg (by decide) lv23 (kl_le hC 2 (by decide))) (shC_p 6 a0.toNatClampNeg (by decide)) (Nat.le_of_ble_eq_true rfl) (64 * (a0.toNatClampNeg + 1) + 9) (spC_p 6 a0.toNatClampNeg (by decide) 9)) dX12_start_54 ?_
              refine lv_iload_n hx hb dX12_start_57 rfl (lv_at hl 3 rfl) ?_
              refine lv_iload_n hx hb dX12_start_58 rfl (lv_at hl 4 rfl) ?_
              have n24 : vp_in a1 16 := (iv_in (n := 16) f4 (by decide))
              refine th_iastL hx hb hK hP (WL_D hD) hS hI (64 * (a0.toNatClampNeg + 1) + 9) (mP 9 a0.toNatClampNeg (by decide) lv23 (kl_le hC 2 (by decide))) (shC_p 9 a0.toNatClampNeg (by decide)) rfl n24 (okI (spC_p 9 a0.toNatClampNeg (by decide) _) (iv_w i13 (by decide))) dX12_start_59 (fun H locs E25 pw26 hI hP hS => ?_)
              have hKp := hKp.pw pw26 (by simp [wl])
              refine lv_aload hx hb dX12_start_60 (lv_at hl 0 rfl) ?_
              refine th_getL (ci := 6) (C := RX5) (T := TX5) (N := 12) (v := .ref (ad (64 * (a0.toNatClampNeg + 1) + 10))) hx hb hts hinX5 hown hK hP hI (64 * (a0.toNatClampNeg + 1) + 6) (mP 6 a0.toNatClampNeg (by decide) lv23 (kl_le hC 2 (by decide))) (shC_p 6 a0.toNatClampNeg (by decide)) rfl 10 (Nat.le_of_ble_eq_true rfl) (hts _ (vA_in _ _ (in_23 _ (zs1 (zs0))))) (fun _ h9 => h9) (hI.fr (64 * (a0.toNatClampNeg + 1) + 6) (mP 6 a0.toNatClampNeg (by decide) lv23 (kl_le hC 2 (by decide))) (shC_p 6 a0.toNatClampNeg (by decide)) (Nat.le_of_ble_eq_true rfl) (64 * (a0.toNatClampNeg + 1) + 10) (spC_p 6 a0.toNatClampNeg (by decide) 10)) dX12_start_62 ?_
              refine lv_iload_n hx hb dX12_start_65 rfl (lv_at hl 3 rfl) ?_
              refine lv_iload hx hb dX12_start_66 (lv_at hl 5 rfl) ?_
              have n27 : vp_in a1 16 := (iv_in (n := 16) f4 (by decide))
              refine th_iastL hx hb hK hP (WL_D hD) hS hI (64 * (a0.toNatClampNeg + 1) + 10) (mP 10 a0.toNatClampNeg (by decide) lv23 (kl_le hC 2 (by decide))) (shC_p 10 a0.toNatClampNeg (by decide)) rfl n27 (okI (spC_p 10 a0.toNatClampNeg (by decide) _) i20) dX12_start_68 (fun H locs E28 pw29 hI hP hS => ?_)
              have hKp := hKp.pw pw29 (by simp [wl])
              refine lv_iconst (v := 1) hx hb dX12_start_69 (by decide) ?_
              rw [hQ]
              exact W.zret (v := 1) hx hb hr rfl (fun t ht hW => ⟨⟨1, E28, rfl, ⟨hI, hKp, Or.inl ⟨rfl, by have h8 := ln_1; all_goals omega, ⟨(pw29.ef (64 * (a0.toNatClampNeg + 1) + 9) (by omega)).trans pw26.eu, pw29.eu.trans (by rw [pw26.ef (64 * (a0.toNatClampNeg + 1) + 10) (by omega)])⟩⟩⟩, by show va_P (dC, dI) vwCl (WL (LC cf) ad E28) t.heap; rw [ht]; exact hP⟩, hS.F ht⟩) hS.2.2 dX12_start_70
            · --31 not
              exact absurd c21 (by decide)
          · -- cwithin, case 1
            obtain ⟨rfl, f30⟩ := hw
            have t31 : ¬ ((0 : Int) ≤ a3.toInt ∧ a3.toInt ≤ 600) := f30
            refine lv_if_ne (tgt := 36) hx hb dX12_start_31 (by decide) (fun c32 => ?_) (fun c32 => ?_)
            · --31 taken
              exact absurd c32 (by decide)
            · --31 not
              refine lv_iconst (v := 0) hx hb dX12_start_34 (by decide) ?_
              rw [hQ]
              exact W.zret (v := 0) hx hb hr rfl (fun t ht hW => ⟨⟨0, E, rfl, ⟨hI, hKp, Or.inr (⟨rfl, by have h8 := ln_0; all_goals omega, ⟨rfl, rfl⟩⟩)⟩, by show va_P (dC, dI) vwCl (WL (LC cf) ad E) t.heap; rw [ht]; exact hP⟩, hS.F ht⟩) hS.2.2 dX12_start_35
      · -- cwithin, case 1
        obtain ⟨rfl, f33⟩ := hw
        have t34 : ¬ ((0 : Int) ≤ a2.toInt ∧ a2.toInt ≤ 9) := f33
        refine lv_if_eq (tgt := 34) hx hb dX12_start_19 (by decide) (fun c35 => ?_) (fun c35 => ?_)
        · --19 taken
          refine lv_iconst (v := 0) hx hb dX12_start_34 (by decide) ?_
          rw [hQ]
          exact W.zret (v := 0) hx hb hr rfl (fun t ht hW => ⟨⟨0, E, rfl, ⟨hI, hKp, Or.inr (⟨rfl, by have h8 := ln_0; all_goals omega, ⟨rfl, rfl⟩⟩)⟩, by show va_P (dC, dI) vwCl (WL (LC cf) ad E) t.heap; rw [ht]; exact hP⟩, hS.F ht⟩) hS.2.2 dX12_start_35
        · --19 not
          exact absurd c35 (by decide)
  · -- isEnteredC, case 1
    obtain ⟨rfl, f36⟩ := hw
    have i37 : 0 ≤ (xi (E 1) 1).toInt ∧ (xi (E 1) 1).toInt ≤ 16 := hI0.iv 1 (mF 1 rfl) rfl (Nat.le_of_ble_eq_true rfl) rfl
    have i38 : 0 ≤ (xi (E 1) 0).toInt ∧ (xi (E 1) 0).toInt ≤ 400 := hI0.iv 1 (mF 1 rfl) rfl (Nat.le_of_ble_eq_true rfl) rfl
    refine lv_if_eq (tgt := 34) hx hb dX12_start_9 (by decide) (fun c39 => ?_) (fun c39 => ?_)
    · --9 taken
      refine lv_iconst (v := 0) hx hb dX12_start_34 (by decide) ?_
      rw [hQ]
      exact W.zret (v := 0) hx hb hr rfl (fun t ht hW => ⟨⟨0, E, rfl, ⟨hI, hKp, Or.inr (⟨rfl, by have h8 := ln_0; all_goals omega, ⟨rfl, rfl⟩⟩)⟩, by show va_P (dC, dI) vwCl (WL (LC cf) ad E) t.heap; rw [ht]; exact hP⟩, hS.F ht⟩) hS.2.2 dX12_start_35
    · --9 not
      exact absurd c39 (by decide)
