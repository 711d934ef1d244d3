set_option maxRecDepth 100000 in
theorem zh_dX10_readCondition_0_0 : zc cX10_readCondition 0 [42, 27, 28, 182, 0, 85, 3, 62, 29, 17, 0, 200, 162, 0, 43, 42] = true := by decide +kernel
set_option maxRecDepth 100000 in
theorem zh_dX10_readCondition_16_16 : zc cX10_readCondition 16 [182, 0, 46, 16, 124, 160, 0, 34, 42, 89, 180, 0, 31, 4, 96, 181] = true := by decide +kernel
set_option maxRecDepth 100000 in
theorem zh_dX10_readCondition_31_32 : zc cX10_readCondition 32 [0, 31, 42, 27, 3, 182, 0, 85, 42, 16, 124, 184, 0, 88, 182, 0] = true := by decide +kernel
set_option maxRecDepth 100000 in
theorem zh_dX10_readCondition_46_48 : zc cX10_readCondition 48 [92, 132, 3, 1, 167, 255, 212, 177] = true := by decide +kernel
set_option maxRecDepth 100000 in
theorem zh_dX10_readPart_0_0 : zc cX10_readPart 0 [42, 27, 28, 182, 0, 95, 3, 62, 29, 17, 0, 200, 162, 0, 43, 42] = true := by decide +kernel
set_option maxRecDepth 100000 in
theorem zh_dX10_readPart_16_16 : zc cX10_readPart 16 [182, 0, 46, 16, 38, 160, 0, 34, 42, 89, 180, 0, 31, 4, 96, 181] = true := by decide +kernel
set_option maxRecDepth 100000 in
theorem zh_dX10_readPart_31_32 : zc cX10_readPart 32 [0, 31, 42, 27, 3, 182, 0, 95, 42, 16, 38, 184, 0, 88, 182, 0] = true := by decide +kernel
set_option maxRecDepth 100000 in
theorem zh_dX10_readPart_46_48 : zc cX10_readPart 48 [92, 132, 3, 1, 167, 255, 212, 177] = true := by decide +kernel
set_option maxRecDepth 100000 in
theorem zh_dX10_readUnit_0_0 : zc cX10_readUnit 0 [28, 153, 0, 7, 2, 167, 0, 7, 42, 182, 0, 46, 62, 29, 16, 33] = true := by decide +kernel
set_option maxRecDepth 100000 in
theorem zh_dX10_readUnit_16_16 : zc cX10_readUnit 16 [160, 0, 32, 42, 27, 182, 0, 98, 154, 0, 4, 177, 42, 27, 4, 96] = true := by decide +kernel
set_option maxRecDepth 100000 in
theorem zh_dX10_readUnit_32_32 : zc cX10_readUnit 32 [3, 182, 0, 95, 42, 16, 33, 184, 0, 88, 182, 0, 92, 167, 0, 49] = true := by decide +kernel
set_option maxRecDepth 100000 in
theorem zh_dX10_readUnit_48_48 : zc cX10_readUnit 48 [29, 16, 40, 160, 0, 29, 42, 27, 182, 0, 98, 154, 0, 4, 177, 42] = true := by decide +kernel
set_option maxRecDepth 100000 in
theorem zh_dX10_readUnit_64_64 : zc cX10_readUnit 64 [27, 4, 96, 3, 182, 0, 81, 42, 16, 41, 182, 0, 70, 167, 0, 17] = true := by decide +kernel
set_option maxRecDepth 100000 in
theorem zh_dX10_readUnit_80_80 : zc cX10_readUnit 80 [28, 154, 0, 8, 42, 27, 182, 0, 76, 42, 27, 182, 0, 102, 177] = true := by decide +kernel
set_option maxRecDepth 100000 in
theorem zh_dX10_readComparison_0_0 : zc cX10_readComparison 0 [42, 182, 0, 46, 61, 18, 79, 28, 184, 0, 66, 154, 0, 8, 42, 182] = true := by decide +kernel
set_option maxRecDepth 100000 in
theorem zh_dX10_readComparison_15_16 : zc cX10_readComparison 16 [0, 50, 177, 42, 89, 180, 0, 31, 4, 96, 181, 0, 31, 42, 27, 182] = true := by decide +kernel
set_option maxRecDepth 100000 in
theorem zh_dX10_readComparison_31_32 : zc cX10_readComparison 32 [0, 76, 42, 28, 184, 0, 88, 182, 0, 92, 177] = true := by decide +kernel
set_option maxRecDepth 100000 in
theorem zh_dX10_readSum_0_0 : zc cX10_readSum 0 [42, 27, 182, 0, 105, 3, 61, 28, 17, 0, 200, 162, 0, 54, 18, 108] = true := by decide +kernel
set_option maxRecDepth 100000 in
theorem zh_dX10_readSum_16_16 : zc cX10_readSum 16 [42, 182, 0, 46, 184, 0, 66, 153, 0, 42, 42, 180, 0, 9, 42, 180] = true := by decide +kernel
set_option maxRecDepth 100000 in
theorem zh_dX10_readSum_31_32 : zc cX10_readSum 32 [0, 31, 46, 62, 42, 89, 180, 0, 31, 4, 96, 181, 0, 31, 42, 27] = true := by decide +kernel
set_option maxRecDepth 100000 in
theorem zh_dX10_readSum_48_48 : zc cX10_readSum 48 [182, 0, 105, 42, 29, 184, 0, 88, 182, 0, 92, 132, 2, 1, 167, 255] = true := by decide +kernel
set_option maxRecDepth 100000 in
theorem zh_dX10_readSum_62_64 : zc cX10_readSum 64 [201, 177] = true := by decide +kernel
set_option maxRecDepth 100000 in
theorem zh_dX10_readTerm_0_0 : zc cX10_readTerm 0 [42, 27, 182, 0, 110, 3, 61, 28, 17, 0, 200, 162, 0, 54, 18, 113] = true := by decide +kernel
set_option maxRecDepth 100000 in
theorem zh_dX10_readTerm_16_16 : zc cX10_readTerm 16 [42, 182, 0, 46, 184, 0, 66, 153, 0, 42, 42, 180, 0, 9, 42, 180] = true := by decide +kernel
set_option maxRecDepth 100000 in
theorem zh_dX10_readTerm_31_32 : zc cX10_readTerm 32 [0, 31, 46, 62, 42, 89, 180, 0, 31, 4, 96, 181, 0, 31, 42, 27] = true := by decide +kernel
set_option maxRecDepth 100000 in
theorem zh_dX10_readTerm_48_48 : zc cX10_readTerm 48 [182, 0, 110, 42, 29, 184, 0, 88, 182, 0, 92, 132, 2, 1, 167, 255] = true := by decide +kernel
set_option maxRecDepth 100000 in
theorem zh_dX10_readTerm_62_64 : zc cX10_readTerm 64 [201, 177] = true := by decide +kernel
set_option maxRecDepth 100000 in
theorem zh_dX10_readAtom_0_0 : zc cX10_readAtom 0 [42, 182, 0, 46, 61, 28, 184, 0, 115, 153, 0, 10, 42, 182, 0, 118] = true := by decide +kernel
set_option maxRecDepth 100000 in
theorem zh_dX10_readAtom_16_16 : zc cX10_readAtom 16 [167, 0, 74, 18, 121, 28, 184, 0, 66, 153, 0, 30, 42, 89, 180, 0] = true := by decide +kernel
set_option maxRecDepth 100000 in
theorem zh_dX10_readAtom_30_32 : zc cX10_readAtom 32 [31, 4, 96, 181, 0, 31, 42, 18, 121, 28, 146, 182, 0, 123, 184, 0] = true := by decide +kernel
set_option maxRecDepth 100000 in
theorem zh_dX10_readAtom_46_48 : zc cX10_readAtom 48 [128, 182, 0, 92, 167, 0, 38, 28, 16, 91, 160, 0, 28, 42, 27, 182] = true := by decide +kernel
set_option maxRecDepth 100000 in
theorem zh_dX10_readAtom_63_64 : zc cX10_readAtom 64 [0, 98, 154, 0, 4, 177, 42, 27, 4, 96, 182, 0, 76, 42, 16, 93] = true := by decide +kernel
set_option maxRecDepth 100000 in
theorem zh_dX10_readAtom_80_80 : zc cX10_readAtom 80 [182, 0, 70, 167, 0, 7, 42, 182, 0, 50, 177] = true := by decide +kernel
theorem dX10_readCondition_0 : decode cX10_readCondition 0 = .ok (.aload_n 0, 1) := zo_42 (zi_at zh_dX10_readCondition_0_0 0 rfl)
theorem dX10_readCondition_1 : decode cX10_readCondition 1 = .ok (.iload_n 1, 1) := zo_27 (zi_at zh_dX10_readCondition_0_0 1 rfl)
theorem dX10_readCondition_2 : decode cX10_readCondition 2 = .ok (.iload_n 2, 1) := zo_28 (zi_at zh_dX10_readCondition_0_0 2 rfl)
theorem dX10_readCondition_3 : decode cX10_readCondition 3 = .ok (.invokevirtual 85, 3) := zo_182 (zi_at zh_dX10_readCondition_0_0 3 rfl) (zi_at zh_dX10_readCondition_0_0 4 rfl) (zi_at zh_dX10_readCondition_0_0 5 rfl) rfl
theorem dX10_readCondition_6 : decode cX10_readCondition 6 = .ok (.iconst 0, 1) := zo_3 (zi_at zh_dX10_readCondition_0_0 6 rfl)
theorem dX10_readCondition_7 : decode cX10_readCondition 7 = .ok (.istore_n 3, 1) := zo_62 (zi_at zh_dX10_readCondition_0_0 7 rfl)
theorem dX10_readCondition_8 : decode cX10_readCondition 8 = .ok (.iload_n 3, 1) := zo_29 (zi_at zh_dX10_readCondition_0_0 8 rfl)
theorem dX10_readCondition_9 : decode cX10_readCondition 9 = .ok (.sipush 200, 3) := zo_17 (zi_at zh_dX10_readCondition_0_0 9 rfl) (zi_at zh_dX10_readCondition_0_0 10 rfl) (zi_at zh_dX10_readCondition_0_0 11 rfl) rfl
theorem dX10_readCondition_12 : decode cX10_readCondition 12 = .ok (.if_icmp .ge 43, 3) := zo_162 (zi_at zh_dX10_readCondition_0_0 12 rfl) (zi_at zh_dX10_readCondition_0_0 13 rfl) (zi_at zh_dX10_readCondition_0_0 14 rfl) rfl
theorem dX10_readCondition_15 : decode cX10_readCondition 15 = .ok (.aload_n 0, 1) := zo_42 (zi_at zh_dX10_readCondition_0_0 15 rfl)
theorem dX10_readCondition_16 : decode cX10_readCondition 16 = .ok (.invokevirtual 46, 3) := zo_182 (zi_at zh_dX10_readCondition_16_16 0 rfl) (zi_at zh_dX10_readCondition_16_16 1 rfl) (zi_at zh_dX10_readCondition_16_16 2 rfl) rfl
theorem dX10_readCondition_19 : decode cX10_readCondition 19 = .ok (.bipush 124, 2) := zo_16 (zi_at zh_dX10_readCondition_16_16 3 rfl) (zi_at zh_dX10_readCondition_16_16 4 rfl) rfl
theorem dX10_readCondition_21 : decode cX10_readCondition 21 = .ok (.if_icmp .ne 34, 3) := zo_160 (zi_at zh_dX10_readCondition_16_16 5 rfl) (zi_at zh_dX10_readCondition_16_16 6 rfl) (zi_at zh_dX10_readCondition_16_16 7 rfl) rfl
theorem dX10_readCondition_24 : decode cX10_readCondition 24 = .ok (.aload_n 0, 1) := zo_42 (zi_at zh_dX10_readCondition_16_16 8 rfl)
theorem dX10_readCondition_25 : decode cX10_readCondition 25 = .ok (.dup, 1) := zo_89 (zi_at zh_dX10_readCondition_16_16 9 rfl)
theorem dX10_readCondition_26 : decode cX10_readCondition 26 = .ok (.getfield 31, 3) := zo_180 (zi_at zh_dX10_readCondition_16_16 10 rfl) (zi_at zh_dX10_readCondition_16_16 11 rfl) (zi_at zh_dX10_readCondition_16_16 12 rfl) rfl
theorem dX10_readCondition_29 : decode cX10_readCondition 29 = .ok (.iconst 1, 1) := zo_4 (zi_at zh_dX10_readCondition_16_16 13 rfl)
theorem dX10_readCondition_30 : decode cX10_readCondition 30 = .ok (.iadd, 1) := zo_96 (zi_at zh_dX10_readCondition_16_16 14 rfl)
theorem dX10_readCondition_31 : decode cX10_readCondition 31 = .ok (.putfield 31, 3) := zo_181 (zi_at zh_dX10_readCondition_16_16 15 rfl) (zi_at zh_dX10_readCondition_31_32 0 rfl) (zi_at zh_dX10_readCondition_31_32 1 rfl) rfl
theorem dX10_readCondition_34 : decode cX10_readCondition 34 = .ok (.aload_n 0, 1) := zo_42 (zi_at zh_dX10_readCondition_31_32 2 rfl)
theorem dX10_readCondition_35 : decode cX10_readCondition 35 = .ok (.iload_n 1, 1) := zo_27 (zi_at zh_dX10_readCondition_31_32 3 rfl)
theorem dX10_readCondition_36 : decode cX10_readCondition 36 = .ok (.iconst 0, 1) := zo_3 (zi_at zh_dX10_readCondition_31_32 4 rfl)
theorem dX10_readCondition_37 : decode cX10_readCondition 37 = .ok (.invokevirtual 85, 3) := zo_182 (zi_at zh_dX10_readCondition_31_32 5 rfl) (zi_at zh_dX10_readCondition_31_32 6 rfl) (zi_at zh_dX10_readCondition_31_32 7 rfl) rfl
theorem dX10_readCondition_40 : decode cX10_readCondition 40 = .ok (.aload_n 0, 1) := zo_42 (zi_at zh_dX10_readCondition_31_32 8 rfl)
theorem dX10_readCondition_41 : decode cX10_readCondition 41 = .ok (.bipush 124, 2) := zo_16 (zi_at zh_dX10_readCondition_31_32 9 rfl) (zi_at zh_dX10_readCondition_31_32 10 rfl) rfl
theorem dX10_readCondition_43 : decode cX10_readCondition 43 = .ok (.invokestatic 88, 3) := zo_184 (zi_at zh_dX10_readCondition_31_32 11 rfl) (zi_at zh_dX10_readCondition_31_32 12 rfl) (zi_at zh_dX10_readCondition_31_32 13 rfl) rfl
theorem dX10_readCondition_46 : decode cX10_readCondition 46 = .ok (.invokevirtual 92, 3) := zo_182 (zi_at zh_dX10_readCondition_31_32 14 rfl) (zi_at zh_dX10_readCondition_31_32 15 rfl) (zi_at zh_dX10_readCondition_46_48 0 rfl) rfl
theorem dX10_readCondition_49 : decode cX10_readCondition 49 = .ok (.iinc 3 1, 3) := zo_132 (zi_at zh_dX10_readCondition_46_48 1 rfl) (zi_at zh_dX10_readCondition_46_48 2 rfl) (zi_at zh_dX10_readCondition_46_48 3 rfl) rfl
theorem dX10_readCondition_52 : decode cX10_readCondition 52 = .ok (.goto (-44), 3) := zo_167 (zi_at zh_dX10_readCondition_46_48 4 rfl) (zi_at zh_dX10_readCondition_46_48 5 rfl) (zi_at zh_dX10_readCondition_46_48 6 rfl) rfl
theorem dX10_readCondition_55 : decode cX10_readCondition 55 = .ok (.return_, 1) := zo_177 (zi_at zh_dX10_readCondition_46_48 7 rfl)
theorem dX10_readPart_0 : decode cX10_readPart 0 = .ok (.aload_n 0, 1) := zo_42 (zi_at zh_dX10_readPart_0_0 0 rfl)
theorem dX10_readPart_1 : decode cX10_readPart 1 = .ok (.iload_n 1, 1) := zo_27 (zi_at zh_dX10_readPart_0_0 1 rfl)
theorem dX10_readPart_2 : decode cX10_readPart 2 = .ok (.iload_n 2, 1) := zo_28 (zi_at zh_dX10_readPart_0_0 2 rfl)
theorem dX10_readPart_3 : decode cX10_readPart 3 = .ok (.invokevirtual 95, 3) := zo_182 (zi_at zh_dX10_readPart_0_0 3 rfl) (zi_at zh_dX10_readPart_0_0 4 rfl) (zi_at zh_dX10_readPart_0_0 5 rfl) rfl
theorem dX10_readPart_6 : decode cX10_readPart 6 = .ok (.iconst 0, 1) := zo_3 (zi_at zh_dX10_readPart_0_0 6 rfl)
theorem dX10_readPart_7 : decode cX10_readPart 7 = .ok (.istore_n 3, 1) := zo_62 (zi_at zh_dX10_readPart_0_0 7 rfl)
theorem dX10_readPart_8 : decode cX10_readPart 8 = .ok (.iload_n 3, 1) := zo_29 (zi_at zh_dX10_readPart_0_0 8 rfl)
theorem dX10_readPart_9 : decode cX10_readPart 9 = .ok (.sipush 200, 3) := zo_17 (zi_at zh_dX10_readPart_0_0 9 rfl) (zi_at zh_dX10_readPart_0_0 10 rfl) (zi_at zh_dX10_readPart_0_0 11 rfl) rfl
theorem dX10_readPart_12 : decode cX10_readPart 12 = .ok (.if_icmp .ge 43, 3) := zo_162 (zi_at zh_dX10_readPart_0_0 12 rfl) (zi_at zh_dX10_readPart_0_0 13 rfl) (zi_at zh_dX10_readPart_0_0 14 rfl) rfl
theorem dX10_readPart_15 : decode cX10_readPart 15 = .ok (.aload_n 0, 1) := zo_42 (zi_at zh_dX10_readPart_0_0 15 rfl)
theorem dX10_readPart_16 : decode cX10_readPart 16 = .ok (.invokevirtual 46, 3) := zo_182 (zi_at zh_dX10_readPart_16_16 0 rfl) (zi_at zh_dX10_readPart_16_16 1 rfl) (zi_at zh_dX10_readPart_16_16 2 rfl) rfl
theorem dX10_readPart_19 : decode cX10_readPart 19 = .ok (.bipush 38, 2) := zo_16 (zi_at zh_dX10_readPart_16_16 3 rfl) (zi_at zh_dX10_readPart_16_16 4 rfl) rfl
theorem dX10_readPart_21 : decode cX10_readPart 21 = .ok (.if_icmp .ne 34, 3) := zo_160 (zi_at zh_dX10_readPart_16_16 5 rfl) (zi_at zh_dX10_readPart_16_16 6 rfl) (zi_at zh_dX10_readPart_16_16 7 rfl) rfl
theorem dX10_readPart_24 : decode cX10_readPart 24 = .ok (.aload_n 0, 1) := zo_42 (zi_at zh_dX10_readPart_16_16 8 rfl)
theorem dX10_readPart_25 : decode cX10_readPart 25 = .ok (.dup, 1) := zo_89 (zi_at zh_dX10_readPart_16_16 9 rfl)
theorem dX10_readPart_26 : decode cX10_readPart 26 = .ok (.getfield 31, 3) := zo_180 (zi_at zh_dX10_readPart_16_16 10 rfl) (zi_at zh_dX10_readPart_16_16 11 rfl) (zi_at zh_dX10_readPart_16_16 12 rfl) rfl
theorem dX10_readPart_29 : decode cX10_readPart 29 = .ok (.iconst 1, 1) := zo_4 (zi_at zh_dX10_readPart_16_16 13 rfl)
theorem dX10_readPart_30 : decode cX10_readPart 30 = .ok (.iadd, 1) := zo_96 (zi_at zh_dX10_readPart_16_16 14 rfl)
theorem dX10_readPart_31 : decode cX10_readPart 31 = .ok (.putfield 31, 3) := zo_181 (zi_at zh_dX10_readPart_16_16 15 rfl) (zi_at zh_dX10_readPart_31_32 0 rfl) (zi_at zh_dX10_readPart_31_32 1 rfl) rfl
theorem dX10_readPart_34 : decode cX10_readPart 34 = .ok (.aload_n 0, 1) := zo_42 (zi_at zh_dX10_readPart_31_32 2 rfl)
theorem dX10_readPart_35 : decode cX10_readPart 35 = .ok (.iload_n 1, 1) := zo_27 (zi_at zh_dX10_readPart_31_32 3 rfl)
theorem dX10_readPart_36 : decode cX10_readPart 36 = .ok (.iconst 0, 1) := zo_3 (zi_at zh_dX10_readPart_31_32 4 rfl)
theorem dX10_readPart_37 : decode cX10_readPart 37 = .ok (.invokevirtual 95, 3) := zo_182 (zi_at zh_dX10_readPart_31_32 5 rfl) (zi_at zh_dX10_readPart_31_32 6 rfl) (zi_at zh_dX10_readPart_31_32 7 rfl) rfl
theorem dX10_readPart_40 : decode cX10_readPart 40 = .ok (.aload_n 0, 1) := zo_42 (zi_at zh_dX10_readPart_31_32 8 rfl)
theorem dX10_readPart_41 : decode cX10_readPart 41 = .ok (.bipush 38, 2) := zo_16 (zi_at zh_dX10_readPart_31_32 9 rfl) (zi_at zh_dX10_readPart_31_32 10 rfl) rfl
theorem dX10_readPart_43 : decode cX10_readPart 43 = .ok (.invokestatic 88, 3) := zo_184 (zi_at zh_dX10_readPart_31_32 11 rfl) (zi_at zh_dX10_readPart_31_32 12 rfl) (zi_at zh_dX10_readPart_31_32 13 rfl) rfl
theorem dX10_readPart_46 : decode cX10_readPart 46 = .ok (.invokevirtual 92, 3) := zo_182 (zi_at zh_dX10_readPart_31_32 14 rfl) (zi_at zh_dX10_readPart_31_32 15 rfl) (zi_at zh_dX10_readPart_46_48 0 rfl) rfl
theorem dX10_readPart_49 : decode cX10_readPart 49 = .ok (.iinc 3 1, 3) := zo_132 (zi_at zh_dX10_readPart_46_48 1 rfl) (zi_at zh_dX10_readPart_46_48 2 rfl) (zi_at zh_dX10_readPart_46_48 3 rfl) rfl
theorem dX10_readPart_52 : decode cX10_readPart 52 = .ok (.goto (-44), 3) := zo_167 (zi_at zh_dX10_readPart_46_48 4 rfl) (zi_at zh_dX10_readPart_46_48 5 rfl) (zi_at zh_dX10_readPart_46_48 6 rfl) rfl
theorem dX10_readPart_55 : decode cX10_readPart 55 = .ok (.return_, 1) := zo_177 (zi_at zh_dX10_readPart_46_48 7 rfl)
theorem dX10_readUnit_0 : decode cX10_readUnit 0 = .ok (.iload_n 2, 1) := zo_28 (zi_at zh_dX10_readUnit_0_0 0 rfl)
theorem dX10_readUnit_1 : decode cX10_readUnit 1 = .ok (.ifCond .eq 7, 3) := zo_153 (zi_at zh_dX10_readUnit_0_0 1 rfl) (zi_at zh_dX10_readUnit_0_0 2 rfl) (zi_at zh_dX10_readUnit_0_0 3 rfl) rfl
theorem dX10_readUnit_4 : decode cX10_readUnit 4 = .ok (.iconst (-1), 1) := zo_2 (zi_at zh_dX10_readUnit_0_0 4 rfl)
theorem dX10_readUnit_5 : decode cX10_readUnit 5 = .ok (.goto 7, 3) := zo_167 (zi_at zh_dX10_readUnit_0_0 5 rfl) (zi_at zh_dX10_readUnit_0_0 6 rfl) (zi_at zh_dX10_readUnit_0_0 7 rfl) rfl
theorem dX10_readUnit_8 : decode cX10_readUnit 8 = .ok (.aload_n 0, 1) := zo_42 (zi_at zh_dX10_readUnit_0_0 8 rfl)
theorem dX10_readUnit_9 : decode cX10_readUnit 9 = .ok (.invokevirtual 46, 3) := zo_182 (zi_at zh_dX10_readUnit_0_0 9 rfl) (zi_at zh_dX10_readUnit_0_0 10 rfl) (zi_at zh_dX10_readUnit_0_0 11 rfl) rfl
theorem dX10_readUnit_12 : decode cX10_readUnit 12 = .ok (.istore_n 3, 1) := zo_62 (zi_at zh_dX10_readUnit_0_0 12 rfl)
theorem dX10_readUnit_13 : decode cX10_readUnit 13 = .ok (.iload_n 3, 1) := zo_29 (zi_at zh_dX10_readUnit_0_0 13 rfl)
theorem dX10_readUnit_14 : decode cX10_readUnit 14 = .ok (.bipush 33, 2) := zo_16 (zi_at zh_dX10_readUnit_0_0 14 rfl) (zi_at zh_dX10_readUnit_0_0 15 rfl) rfl
theorem dX10_readUnit_16 : decode cX10_readUnit 16 = .ok (.if_icmp .ne 32, 3) := zo_160 (zi_at zh_dX10_readUnit_16_16 0 rfl) (zi_at zh_dX10_readUnit_16_16 1 rfl) (zi_at zh_dX10_readUnit_16_16 2 rfl) rfl
theorem dX10_readUnit_19 : decode cX10_readUnit 19 = .ok (.aload_n 0, 1) := zo_42 (zi_at zh_dX10_readUnit_16_16 3 rfl)
theorem dX10_readUnit_20 : decode cX10_readUnit 20 = .ok (.iload_n 1, 1) := zo_27 (zi_at zh_dX10_readUnit_16_16 4 rfl)
theorem dX10_readUnit_21 : decode cX10_readUnit 21 = .ok (.invokevirtual 98, 3) := zo_182 (zi_at zh_dX10_readUnit_16_16 5 rfl) (zi_at zh_dX10_readUnit_16_16 6 rfl) (zi_at zh_dX10_readUnit_16_16 7 rfl) rfl
theorem dX10_readUnit_24 : decode cX10_readUnit 24 = .ok (.ifCond .ne 4, 3) := zo_154 (zi_at zh_dX10_readUnit_16_16 8 rfl) (zi_at zh_dX10_readUnit_16_16 9 rfl) (zi_at zh_dX10_readUnit_16_16 10 rfl) rfl
theorem dX10_readUnit_27 : decode cX10_readUnit 27 = .ok (.return_, 1) := zo_177 (zi_at zh_dX10_readUnit_16_16 11 rfl)
theorem dX10_readUnit_28 : decode cX10_readUnit 28 = .ok (.aload_n 0, 1) := zo_42 (zi_at zh_dX10_readUnit_16_16 12 rfl)
theorem dX10_readUnit_29 : decode cX10_readUnit 29 = .ok (.iload_n 1, 1) := zo_27 (zi_at zh_dX10_readUnit_16_16 13 rfl)
theorem dX10_readUnit_30 : decode cX10_readUnit 30 = .ok (.iconst 1, 1) := zo_4 (zi_at zh_dX10_readUnit_16_16 14 rfl)
theorem dX10_readUnit_31 : decode cX10_readUnit 31 = .ok (.iadd, 1) := zo_96 (zi_at zh_dX10_readUnit_16_16 15 rfl)
theorem dX10_readUnit_32 : decode cX10_readUnit 32 = .ok (.iconst 0, 1) := zo_3 (zi_at zh_dX10_readUnit_32_32 0 rfl)
theorem dX10_readUnit_33 : decode cX10_readUnit 33 = .ok (.invokevirtual 95, 3) := zo_182 (zi_at zh_dX10_readUnit_32_32 1 rfl) (zi_at zh_dX10_readUnit_32_32 2 rfl) (zi_at zh_dX10_readUnit_32_32 3 rfl) rfl
theorem dX10_readUnit_36 : decode cX10_readUnit 36 = .ok (.aload_n 0, 1) := zo_42 (zi_at zh_dX10_readUnit_32_32 4 rfl)
theorem dX10_readUnit_37 : decode cX10_readUnit 37 = .ok (.bipush 33, 2) := zo_16 (zi_at zh_dX10_readUnit_32_32 5 rfl) (zi_at zh_dX10_readUnit_32_32 6 rfl) rfl
theorem dX10_readUnit_39 : decode cX10_readUnit 39 = .ok (.invokestatic 88, 3) := zo_184 (zi_at zh_dX10_readUnit_32_32 7 rfl) (zi_at zh_dX10_readUnit_32_32 8 rfl) (zi_at zh_dX10_readUnit_32_32 9 rfl) rfl
theorem dX10_readUnit_42 : decode cX10_readUnit 42 = .ok (.invokevirtual 92, 3) := zo_182 (zi_at zh_dX10_readUnit_32_32 10 rfl) (zi_at zh_dX10_readUnit_32_32 11 rfl) (zi_at zh_dX10_readUnit_32_32 12 rfl) rfl
theorem dX10_readUnit_45 : decode cX10_readUnit 45 = .ok (.goto 49, 3) := zo_167 (zi_at zh_dX10_readUnit_32_32 13 rfl) (zi_at zh_dX10_readUnit_32_32 14 rfl) (zi_at zh_dX10_readUnit_32_32 15 rfl) rfl
theorem dX10_readUnit_48 : decode cX10_readUnit 48 = .ok (.iload_n 3, 1) := zo_29 (zi_at zh_dX10_readUnit_48_48 0 rfl)
theorem dX10_readUnit_49 : decode cX10_readUnit 49 = .ok (.bipush 40, 2) := zo_16 (zi_at zh_dX10_readUnit_48_48 1 rfl) (zi_at zh_dX10_readUnit_48_48 2 rfl) rfl
theorem dX10_readUnit_51 : decode cX10_readUnit 51 = .ok (.if_icmp .ne 29, 3) := zo_160 (zi_at zh_dX10_readUnit_48_48 3 rfl) (zi_at zh_dX10_readUnit_48_48 4 rfl) (zi_at zh_dX10_readUnit_48_48 5 rfl) rfl
theorem dX10_readUnit_54 : decode cX10_readUnit 54 = .ok (.aload_n 0, 1) := zo_42 (zi_at zh_dX10_readUnit_48_48 6 rfl)
theorem dX10_readUnit_55 : decode cX10_readUnit 55 = .ok (.iload_n 1, 1) := zo_27 (zi_at zh_dX10_readUnit_48_48 7 rfl)
theorem dX10_readUnit_56 : decode cX10_readUnit 56 = .ok (.invokevirtual 98, 3) := zo_182 (zi_at zh_dX10_readUnit_48_48 8 rfl) (zi_at zh_dX10_readUnit_48_48 9 rfl) (zi_at zh_dX10_readUnit_48_48 10 rfl) rfl
theorem dX10_readUnit_59 : decode cX10_readUnit 59 = .ok (.ifCond .ne 4, 3) := zo_154 (zi_at zh_dX10_readUnit_48_48 11 rfl) (zi_at zh_dX10_readUnit_48_48 12 rfl) (zi_at zh_dX10_readUnit_48_48 13 rfl) rfl
theorem dX10_readUnit_62 : decode cX10_readUnit 62 = .ok (.return_, 1) := zo_177 (zi_at zh_dX10_readUnit_48_48 14 rfl)
theorem dX10_readUnit_63 : decode cX10_readUnit 63 = .ok (.aload_n 0, 1) := zo_42 (zi_at zh_dX10_readUnit_48_48 15 rfl)
theorem dX10_readUnit_64 : decode cX10_readUnit 64 = .ok (.iload_n 1, 1) := zo_27 (zi_at zh_dX10_readUnit_64_64 0 rfl)
theorem dX10_readUnit_65 : decode cX10_readUnit 65 = .ok (.iconst 1, 1) := zo_4 (zi_at zh_dX10_readUnit_64_64 1 rfl)
theorem dX10_readUnit_66 : decode cX10_readUnit 66 = .ok (.iadd, 1) := zo_96 (zi_at zh_dX10_readUnit_64_64 2 rfl)
theorem dX10_readUnit_67 : decode cX10_readUnit 67 = .ok (.iconst 0, 1) := zo_3 (zi_at zh_dX10_readUnit_64_64 3 rfl)
theorem dX10_readUnit_68 : decode cX10_readUnit 68 = .ok (.invokevirtual 81, 3) := zo_182 (zi_at zh_dX10_readUnit_64_64 4 rfl) (zi_at zh_dX10_readUnit_64_64 5 rfl) (zi_at zh_dX10_readUnit_64_64 6 rfl) rfl
theorem dX10_readUnit_71 : decode cX10_readUnit 71 = .ok (.aload_n 0, 1) := zo_42 (zi_at zh_dX10_readUnit_64_64 7 rfl)
theorem dX10_readUnit_72 : decode cX10_readUnit 72 = .ok (.bipush 41, 2) := zo_16 (zi_at zh_dX10_readUnit_64_64 8 rfl) (zi_at zh_dX10_readUnit_64_64 9 rfl) rfl
theorem dX10_readUnit_74 : decode cX10_readUnit 74 = .ok (.invokevirtual 70, 3) := zo_182 (zi_at zh_dX10_readUnit_64_64 10 rfl) (zi_at zh_dX10_readUnit_64_64 11 rfl) (zi_at zh_dX10_readUnit_64_64 12 rfl) rfl
theorem dX10_readUnit_77 : decode cX10_readUnit 77 = .ok (.goto 17, 3) := zo_167 (zi_at zh_dX10_readUnit_64_64 13 rfl) (zi_at zh_dX10_readUnit_64_64 14 rfl) (zi_at zh_dX10_readUnit_64_64 15 rfl) rfl
theorem dX10_readUnit_80 : decode cX10_readUnit 80 = .ok (.iload_n 2, 1) := zo_28 (zi_at zh_dX10_readUnit_80_80 0 rfl)
theorem dX10_readUnit_81 : decode cX10_readUnit 81 = .ok (.ifCond .ne 8, 3) := zo_154 (zi_at zh_dX10_readUnit_80_80 1 rfl) (zi_at zh_dX10_readUnit_80_80 2 rfl) (zi_at zh_dX10_readUnit_80_80 3 rfl) rfl
theorem dX10_readUnit_84 : decode cX10_readUnit 84 = .ok (.aload_n 0, 1) := zo_42 (zi_at zh_dX10_readUnit_80_80 4 rfl)
theorem dX10_readUnit_85 : decode cX10_readUnit 85 = .ok (.iload_n 1, 1) := zo_27 (zi_at zh_dX10_readUnit_80_80 5 rfl)
theorem dX10_readUnit_86 : decode cX10_readUnit 86 = .ok (.invokevirtual 76, 3) := zo_182 (zi_at zh_dX10_readUnit_80_80 6 rfl) (zi_at zh_dX10_readUnit_80_80 7 rfl) (zi_at zh_dX10_readUnit_80_80 8 rfl) rfl
theorem dX10_readUnit_89 : decode cX10_readUnit 89 = .ok (.aload_n 0, 1) := zo_42 (zi_at zh_dX10_readUnit_80_80 9 rfl)
theorem dX10_readUnit_90 : decode cX10_readUnit 90 = .ok (.iload_n 1, 1) := zo_27 (zi_at zh_dX10_readUnit_80_80 10 rfl)
theorem dX10_readUnit_91 : decode cX10_readUnit 91 = .ok (.invokevirtual 102, 3) := zo_182 (zi_at zh_dX10_readUnit_80_80 11 rfl) (zi_at zh_dX10_readUnit_80_80 12 rfl) (zi_at zh_dX10_readUnit_80_80 13 rfl) rfl
theorem dX10_readUnit_94 : decode cX10_readUnit 94 = .ok (.return_, 1) := zo_177 (zi_at zh_dX10_readUnit_80_80 14 rfl)
theorem dX10_readComparison_0 : decode cX10_readComparison 0 = .ok (.aload_n 0, 1) := zo_42 (zi_at zh_dX10_readComparison_0_0 0 rfl)
theorem dX10_readComparison_1 : decode cX10_readComparison 1 = .ok (.invokevirtual 46, 3) := zo_182 (zi_at zh_dX10_readComparison_0_0 1 rfl) (zi_at zh_dX10_readComparison_0_0 2 rfl) (zi_at zh_dX10_readComparison_0_0 3 rfl) rfl
theorem dX10_readComparison_4 : decode cX10_readComparison 4 = .ok (.istore_n 2, 1) := zo_61 (zi_at zh_dX10_readComparison_0_0 4 rfl)
theorem dX10_readComparison_5 : decode cX10_readComparison 5 = .ok (.ldc 79, 2) := zo_18 (zi_at zh_dX10_readComparison_0_0 5 rfl) (zi_at zh_dX10_readComparison_0_0 6 rfl)
theorem dX10_readComparison_7 : decode cX10_readComparison 7 = .ok (.iload_n 2, 1) := zo_28 (zi_at zh_dX10_readComparison_0_0 7 rfl)
theorem dX10_readComparison_8 : decode cX10_readComparison 8 = .ok (.invokestatic 66, 3) := zo_184 (zi_at zh_dX10_readComparison_0_0 8 rfl) (zi_at zh_dX10_readComparison_0_0 9 rfl) (zi_at zh_dX10_readComparison_0_0 10 rfl) rfl
theorem dX10_readComparison_11 : decode cX10_readComparison 11 = .ok (.ifCond .ne 8, 3) := zo_154 (zi_at zh_dX10_readComparison_0_0 11 rfl) (zi_at zh_dX10_readComparison_0_0 12 rfl) (zi_at zh_dX10_readComparison_0_0 13 rfl) rfl
theorem dX10_readComparison_14 : decode cX10_readComparison 14 = .ok (.aload_n 0, 1) := zo_42 (zi_at zh_dX10_readComparison_0_0 14 rfl)
theorem dX10_readComparison_15 : decode cX10_readComparison 15 = .ok (.invokevirtual 50, 3) := zo_182 (zi_at zh_dX10_readComparison_0_0 15 rfl) (zi_at zh_dX10_readComparison_15_16 0 rfl) (zi_at zh_dX10_readComparison_15_16 1 rfl) rfl
theorem dX10_readComparison_18 : decode cX10_readComparison 18 = .ok (.return_, 1) := zo_177 (zi_at zh_dX10_readComparison_15_16 2 rfl)
theorem dX10_readComparison_19 : decode cX10_readComparison 19 = .ok (.aload_n 0, 1) := zo_42 (zi_at zh_dX10_readComparison_15_16 3 rfl)
theorem dX10_readComparison_20 : decode cX10_readComparison 20 = .ok (.dup, 1) := zo_89 (zi_at zh_dX10_readComparison_15_16 4 rfl)
theorem dX10_readComparison_21 : decode cX10_readComparison 21 = .ok (.getfield 31, 3) := zo_180 (zi_at zh_dX10_readComparison_15_16 5 rfl) (zi_at zh_dX10_readComparison_15_16 6 rfl) (zi_at zh_dX10_readComparison_15_16 7 rfl) rfl
theorem dX10_readComparison_24 : decode cX10_readComparison 24 = .ok (.iconst 1, 1) := zo_4 (zi_at zh_dX10_readComparison_15_16 8 rfl)
theorem dX10_readComparison_25 : decode cX10_readComparison 25 = .ok (.iadd, 1) := zo_96 (zi_at zh_dX10_readComparison_15_16 9 rfl)
theorem dX10_readComparison_26 : decode cX10_readComparison 26 = .ok (.putfield 31, 3) := zo_181 (zi_at zh_dX10_readComparison_15_16 10 rfl) (zi_at zh_dX10_readComparison_15_16 11 rfl) (zi_at zh_dX10_readComparison_15_16 12 rfl) rfl
theorem dX10_readComparison_29 : decode cX10_readComparison 29 = .ok (.aload_n 0, 1) := zo_42 (zi_at zh_dX10_readComparison_15_16 13 rfl)
theorem dX10_readComparison_30 : decode cX10_readComparison 30 = .ok (.iload_n 1, 1) := zo_27 (zi_at zh_dX10_readComparison_15_16 14 rfl)
theorem dX10_readComparison_31 : decode cX10_readComparison 31 = .ok (.invokevirtual 76, 3) := zo_182 (zi_at zh_dX10_readComparison_15_16 15 rfl) (zi_at zh_dX10_readComparison_31_32 0 rfl) (zi_at zh_dX10_readComparison_31_32 1 rfl) rfl
theorem dX10_readComparison_34 : decode cX10_readComparison 34 = .ok (.aload_n 0, 1) := zo_42 (zi_at zh_dX10_readComparison_31_32 2 rfl)
theorem dX10_readComparison_35 : decode cX10_readComparison 35 = .ok (.iload_n 2, 1) := zo_28 (zi_at zh_dX10_readComparison_31_32 3 rfl)
theorem dX10_readComparison_36 : decode cX10_readComparison 36 = .ok (.invokestatic 88, 3) := zo_184 (zi_at zh_dX10_readComparison_31_32 4 rfl) (zi_at zh_dX10_readComparison_31_32 5 rfl) (zi_at zh_dX10_readComparison_31_32 6 rfl) rfl
theorem dX10_readComparison_39 : decode cX10_readComparison 39 = .ok (.invokevirtual 92, 3) := zo_182 (zi_at zh_dX10_readComparison_31_32 7 rfl) (zi_at zh_dX10_readComparison_31_32 8 rfl) (zi_at zh_dX10_readComparison_31_32 9 rfl) rfl
theorem dX10_readComparison_42 : decode cX10_readComparison 42 = .ok (.return_, 1) := zo_177 (zi_at zh_dX10_readComparison_31_32 10 rfl)
theorem dX10_readSum_0 : decode cX10_readSum 0 = .ok (.aload_n 0, 1) := zo_42 (zi_at zh_dX10_readSum_0_0 0 rfl)
theorem dX10_readSum_1 : decode cX10_readSum 1 = .ok (.iload_n 1, 1) := zo_27 (zi_at zh_dX10_readSum_0_0 1 rfl)
theorem dX10_readSum_2 : decode cX10_readSum 2 = .ok (.invokevirtual 105, 3) := zo_182 (zi_at zh_dX10_readSum_0_0 2 rfl) (zi_at zh_dX10_readSum_0_0 3 rfl) (zi_at zh_dX10_readSum_0_0 4 rfl) rfl
theorem dX10_readSum_5 : decode cX10_readSum 5 = .ok (.iconst 0, 1) := zo_3 (zi_at zh_dX10_readSum_0_0 5 rfl)
theorem dX10_readSum_6 : decode cX10_readSum 6 = .ok (.istore_n 2, 1) := zo_61 (zi_at zh_dX10_readSum_0_0 6 rfl)
theorem dX10_readSum_7 : decode cX10_readSum 7 = .ok (.iload_n 2, 1) := zo_28 (zi_at zh_dX10_readSum_0_0 7 rfl)
theorem dX10_readSum_8 : decode cX10_readSum 8 = .ok (.sipush 200, 3) := zo_17 (zi_at zh_dX10_readSum_0_0 8 rfl) (zi_at zh_dX10_readSum_0_0 9 rfl) (zi_at zh_dX10_readSum_0_0 10 rfl) rfl
theorem dX10_readSum_11 : decode cX10_readSum 11 = .ok (.if_icmp .ge 54, 3) := zo_162 (zi_at zh_dX10_readSum_0_0 11 rfl) (zi_at zh_dX10_readSum_0_0 12 rfl) (zi_at zh_dX10_readSum_0_0 13 rfl) rfl
theorem dX10_readSum_14 : decode cX10_readSum 14 = .ok (.ldc 108, 2) := zo_18 (zi_at zh_dX10_readSum_0_0 14 rfl) (zi_at zh_dX10_readSum_0_0 15 rfl)
theorem dX10_readSum_16 : decode cX10_readSum 16 = .ok (.aload_n 0, 1) := zo_42 (zi_at zh_dX10_readSum_16_16 0 rfl)
theorem dX10_readSum_17 : decode cX10_readSum 17 = .ok (.invokevirtual 46, 3) := zo_182 (zi_at zh_dX10_readSum_16_16 1 rfl) (zi_at zh_dX10_readSum_16_16 2 rfl) (zi_at zh_dX10_readSum_16_16 3 rfl) rfl
theorem dX10_readSum_20 : decode cX10_readSum 20 = .ok (.invokestatic 66, 3) := zo_184 (zi_at zh_dX10_readSum_16_16 4 rfl) (zi_at zh_dX10_readSum_16_16 5 rfl) (zi_at zh_dX10_readSum_16_16 6 rfl) rfl
theorem dX10_readSum_23 : decode cX10_readSum 23 = .ok (.ifCond .eq 42, 3) := zo_153 (zi_at zh_dX10_readSum_16_16 7 rfl) (zi_at zh_dX10_readSum_16_16 8 rfl) (zi_at zh_dX10_readSum_16_16 9 rfl) rfl
theorem dX10_readSum_26 : decode cX10_readSum 26 = .ok (.aload_n 0, 1) := zo_42 (zi_at zh_dX10_readSum_16_16 10 rfl)
theorem dX10_readSum_27 : decode cX10_readSum 27 = .ok (.getfield 9, 3) := zo_180 (zi_at zh_dX10_readSum_16_16 11 rfl) (zi_at zh_dX10_readSum_16_16 12 rfl) (zi_at zh_dX10_readSum_16_16 13 rfl) rfl
theorem dX10_readSum_30 : decode cX10_readSum 30 = .ok (.aload_n 0, 1) := zo_42 (zi_at zh_dX10_readSum_16_16 14 rfl)
theorem dX10_readSum_31 : decode cX10_readSum 31 = .ok (.getfield 31, 3) := zo_180 (zi_at zh_dX10_readSum_16_16 15 rfl) (zi_at zh_dX10_readSum_31_32 0 rfl) (zi_at zh_dX10_readSum_31_32 1 rfl) rfl
theorem dX10_readSum_34 : decode cX10_readSum 34 = .ok (.iaload, 1) := zo_46 (zi_at zh_dX10_readSum_31_32 2 rfl)
theorem dX10_readSum_35 : decode cX10_readSum 35 = .ok (.istore_n 3, 1) := zo_62 (zi_at zh_dX10_readSum_31_32 3 rfl)
theorem dX10_readSum_36 : decode cX10_readSum 36 = .ok (.aload_n 0, 1) := zo_42 (zi_at zh_dX10_readSum_31_32 4 rfl)
theorem dX10_readSum_37 : decode cX10_readSum 37 = .ok (.dup, 1) := zo_89 (zi_at zh_dX10_readSum_31_32 5 rfl)
theorem dX10_readSum_38 : decode cX10_readSum 38 = .ok (.getfield 31, 3) := zo_180 (zi_at zh_dX10_readSum_31_32 6 rfl) (zi_at zh_dX10_readSum_31_32 7 rfl) (zi_at zh_dX10_readSum_31_32 8 rfl) rfl
theorem dX10_readSum_41 : decode cX10_readSum 41 = .ok (.iconst 1, 1) := zo_4 (zi_at zh_dX10_readSum_31_32 9 rfl)
theorem dX10_readSum_42 : decode cX10_readSum 42 = .ok (.iadd, 1) := zo_96 (zi_at zh_dX10_readSum_31_32 10 rfl)
theorem dX10_readSum_43 : decode cX10_readSum 43 = .ok (.putfield 31, 3) := zo_181 (zi_at zh_dX10_readSum_31_32 11 rfl) (zi_at zh_dX10_readSum_31_32 12 rfl) (zi_at zh_dX10_readSum_31_32 13 rfl) rfl
theorem dX10_readSum_46 : decode cX10_readSum 46 = .ok (.aload_n 0, 1) := zo_42 (zi_at zh_dX10_readSum_31_32 14 rfl)
theorem dX10_readSum_47 : decode cX10_readSum 47 = .ok (.iload_n 1, 1) := zo_27 (zi_at zh_dX10_readSum_31_32 15 rfl)
theorem dX10_readSum_48 : decode cX10_readSum 48 = .ok (.invokevirtual 105, 3) := zo_182 (zi_at zh_dX10_readSum_48_48 0 rfl) (zi_at zh_dX10_readSum_48_48 1 rfl) (zi_at zh_dX10_readSum_48_48 2 rfl) rfl
theorem dX10_readSum_51 : decode cX10_readSum 51 = .ok (.aload_n 0, 1) := zo_42 (zi_at zh_dX10_readSum_48_48 3 rfl)
theorem dX10_readSum_52 : decode cX10_readSum 52 = .ok (.iload_n 3, 1) := zo_29 (zi_at zh_dX10_readSum_48_48 4 rfl)
theorem dX10_readSum_53 : decode cX10_readSum 53 = .ok (.invokestatic 88, 3) := zo_184 (zi_at zh_dX10_readSum_48_48 5 rfl) (zi_at zh_dX10_readSum_48_48 6 rfl) (zi_at zh_dX10_readSum_48_48 7 rfl) rfl
theorem dX10_readSum_56 : decode cX10_readSum 56 = .ok (.invokevirtual 92, 3) := zo_182 (zi_at zh_dX10_readSum_48_48 8 rfl) (zi_at zh_dX10_readSum_48_48 9 rfl) (zi_at zh_dX10_readSum_48_48 10 rfl) rfl
theorem dX10_readSum_59 : decode cX10_readSum 59 = .ok (.iinc 2 1, 3) := zo_132 (zi_at zh_dX10_readSum_48_48 11 rfl) (zi_at zh_dX10_readSum_48_48 12 rfl) (zi_at zh_dX10_readSum_48_48 13 rfl) rfl
theorem dX10_readSum_62 : decode cX10_readSum 62 = .ok (.goto (-55), 3) := zo_167 (zi_at zh_dX10_readSum_48_48 14 rfl) (zi_at zh_dX10_readSum_48_48 15 rfl) (zi_at zh_dX10_readSum_62_64 0 rfl) rfl
theorem dX10_readSum_65 : decode cX10_readSum 65 = .ok (.return_, 1) := zo_177 (zi_at zh_dX10_readSum_62_64 1 rfl)
theorem dX10_readTerm_0 : decode cX10_readTerm 0 = .ok (.aload_n 0, 1) := zo_42 (zi_at zh_dX10_readTerm_0_0 0 rfl)
theorem dX10_readTerm_1 : decode cX10_readTerm 1 = .ok (.iload_n 1, 1) := zo_27 (zi_at zh_dX10_readTerm_0_0 1 rfl)
theorem dX10_readTerm_2 : decode cX10_readTerm 2 = .ok (.invokevirtual 110, 3) := zo_182 (zi_at zh_dX10_readTerm_0_0 2 rfl) (zi_at zh_dX10_readTerm_0_0 3 rfl) (zi_at zh_dX10_readTerm_0_0 4 rfl) rfl
theorem dX10_readTerm_5 : decode cX10_readTerm 5 = .ok (.iconst 0, 1) := zo_3 (zi_at zh_dX10_readTerm_0_0 5 rfl)
theorem dX10_readTerm_6 : decode cX10_readTerm 6 = .ok (.istore_n 2, 1) := zo_61 (zi_at zh_dX10_readTerm_0_0 6 rfl)
theorem dX10_readTerm_7 : decode cX10_readTerm 7 = .ok (.iload_n 2, 1) := zo_28 (zi_at zh_dX10_readTerm_0_0 7 rfl)
theorem dX10_readTerm_8 : decode cX10_readTerm 8 = .ok (.sipush 200, 3) := zo_17 (zi_at zh_dX10_readTerm_0_0 8 rfl) (zi_at zh_dX10_readTerm_0_0 9 rfl) (zi_at zh_dX10_readTerm_0_0 10 rfl) rfl
theorem dX10_readTerm_11 : decode cX10_readTerm 11 = .ok (.if_icmp .ge 54, 3) := zo_162 (zi_at zh_dX10_readTerm_0_0 11 rfl) (zi_at zh_dX10_readTerm_0_0 12 rfl) (zi_at zh_dX10_readTerm_0_0 13 rfl) rfl
theorem dX10_readTerm_14 : decode cX10_readTerm 14 = .ok (.ldc 113, 2) := zo_18 (zi_at zh_dX10_readTerm_0_0 14 rfl) (zi_at zh_dX10_readTerm_0_0 15 rfl)
theorem dX10_readTerm_16 : decode cX10_readTerm 16 = .ok (.aload_n 0, 1) := zo_42 (zi_at zh_dX10_readTerm_16_16 0 rfl)
theorem dX10_readTerm_17 : decode cX10_readTerm 17 = .ok (.invokevirtual 46, 3) := zo_182 (zi_at zh_dX10_readTerm_16_16 1 rfl) (zi_at zh_dX10_readTerm_16_16 2 rfl) (zi_at zh_dX10_readTerm_16_16 3 rfl) rfl
theorem dX10_readTerm_20 : decode cX10_readTerm 20 = .ok (.invokestatic 66, 3) := zo_184 (zi_at zh_dX10_readTerm_16_16 4 rfl) (zi_at zh_dX10_readTerm_16_16 5 rfl) (zi_at zh_dX10_readTerm_16_16 6 rfl) rfl
theorem dX10_readTerm_23 : decode cX10_readTerm 23 = .ok (.ifCond .eq 42, 3) := zo_153 (zi_at zh_dX10_readTerm_16_16 7 rfl) (zi_at zh_dX10_readTerm_16_16 8 rfl) (zi_at zh_dX10_readTerm_16_16 9 rfl) rfl
theorem dX10_readTerm_26 : decode cX10_readTerm 26 = .ok (.aload_n 0, 1) := zo_42 (zi_at zh_dX10_readTerm_16_16 10 rfl)
theorem dX10_readTerm_27 : decode cX10_readTerm 27 = .ok (.getfield 9, 3) := zo_180 (zi_at zh_dX10_readTerm_16_16 11 rfl) (zi_at zh_dX10_readTerm_16_16 12 rfl) (zi_at zh_dX10_readTerm_16_16 13 rfl) rfl
theorem dX10_readTerm_30 : decode cX10_readTerm 30 = .ok (.aload_n 0, 1) := zo_42 (zi_at zh_dX10_readTerm_16_16 14 rfl)
theorem dX10_readTerm_31 : decode cX10_readTerm 31 = .ok (.getfield 31, 3) := zo_180 (zi_at zh_dX10_readTerm_16_16 15 rfl) (zi_at zh_dX10_readTerm_31_32 0 rfl) (zi_at zh_dX10_readTerm_31_32 1 rfl) rfl
theorem dX10_readTerm_34 : decode cX10_readTerm 34 = .ok (.iaload, 1) := zo_46 (zi_at zh_dX10_readTerm_31_32 2 rfl)
theorem dX10_readTerm_35 : decode cX10_readTerm 35 = .ok (.istore_n 3, 1) := zo_62 (zi_at zh_dX10_readTerm_31_32 3 rfl)
theorem dX10_readTerm_36 : decode cX10_readTerm 36 = .ok (.aload_n 0, 1) := zo_42 (zi_at zh_dX10_readTerm_31_32 4 rfl)
theorem dX10_readTerm_37 : decode cX10_readTerm 37 = .ok (.dup, 1) := zo_89 (zi_at zh_dX10_readTerm_31_32 5 rfl)
theorem dX10_readTerm_38 : decode cX10_readTerm 38 = .ok (.getfield 31, 3) := zo_180 (zi_at zh_dX10_readTerm_31_32 6 rfl) (zi_at zh_dX10_readTerm_31_32 7 rfl) (zi_at zh_dX10_readTerm_31_32 8 rfl) rfl
theorem dX10_readTerm_41 : decode cX10_readTerm 41 = .ok (.iconst 1, 1) := zo_4 (zi_at zh_dX10_readTerm_31_32 9 rfl)
theorem dX10_readTerm_42 : decode cX10_readTerm 42 = .ok (.iadd, 1) := zo_96 (zi_at zh_dX10_readTerm_31_32 10 rfl)
theorem dX10_readTerm_43 : decode cX10_readTerm 43 = .ok (.putfield 31, 3) := zo_181 (zi_at zh_dX10_readTerm_31_32 11 rfl) (zi_at zh_dX10_readTerm_31_32 12 rfl) (zi_at zh_dX10_readTerm_31_32 13 rfl) rfl
theorem dX10_readTerm_46 : decode cX10_readTerm 46 = .ok (.aload_n 0, 1) := zo_42 (zi_at zh_dX10_readTerm_31_32 14 rfl)
theorem dX10_readTerm_47 : decode cX10_readTerm 47 = .ok (.iload_n 1, 1) := zo_27 (zi_at zh_dX10_readTerm_31_32 15 rfl)
theorem dX10_readTerm_48 : decode cX10_readTerm 48 = .ok (.invokevirtual 110, 3) := zo_182 (zi_at zh_dX10_readTerm_48_48 0 rfl) (zi_at zh_dX10_readTerm_48_48 1 rfl) (zi_at zh_dX10_readTerm_48_48 2 rfl) rfl
theorem dX10_readTerm_51 : decode cX10_readTerm 51 = .ok (.aload_n 0, 1) := zo_42 (zi_at zh_dX10_readTerm_48_48 3 rfl)
theorem dX10_readTerm_52 : decode cX10_readTerm 52 = .ok (.iload_n 3, 1) := zo_29 (zi_at zh_dX10_readTerm_48_48 4 rfl)
theorem dX10_readTerm_53 : decode cX10_readTerm 53 = .ok (.invokestatic 88, 3) := zo_184 (zi_at zh_dX10_readTerm_48_48 5 rfl) (zi_at zh_dX10_readTerm_48_48 6 rfl) (zi_at zh_dX10_readTerm_48_48 7 rfl) rfl
theorem dX10_readTerm_56 : decode cX10_readTerm 56 = .ok (.invokevirtual 92, 3) := zo_182 (zi_at zh_dX10_readTerm_48_48 8 rfl) (zi_at zh_dX10_readTerm_48_48 9 rfl) (zi_at zh_dX10_readTerm_48_48 10 rfl) rfl
theorem dX10_readTerm_59 : decode cX10_readTerm 59 = .ok (.iinc 2 1, 3) := zo_132 (zi_at zh_dX10_readTerm_48_48 11 rfl) (zi_at zh_dX10_readTerm_48_48 12 rfl) (zi_at zh_dX10_readTerm_48_48 13 rfl) rfl
theorem dX10_readTerm_62 : decode cX10_readTerm 62 = .ok (.goto (-55), 3) := zo_167 (zi_at zh_dX10_readTerm_48_48 14 rfl) (zi_at zh_dX10_readTerm_48_48 15 rfl) (zi_at zh_dX10_readTerm_62_64 0 rfl) rfl
theorem dX10_readTerm_65 : decode cX10_readTerm 65 = .ok (.return_, 1) := zo_177 (zi_at zh_dX10_readTerm_62_64 1 rfl)
theorem dX10_readAtom_0 : decode cX10_readAtom 0 = .ok (.aload_n 0, 1) := zo_42 (zi_at zh_dX10_readAtom_0_0 0 rfl)
theorem dX10_readAtom_1 : decode cX10_readAtom 1 = .ok (.invokevirtual 46, 3) := zo_182 (zi_at zh_dX10_readAtom_0_0 1 rfl) (zi_at zh_dX10_readAtom_0_0 2 rfl) (zi_at zh_dX10_readAtom_0_0 3 rfl) rfl
theorem dX10_readAtom_4 : decode cX10_readAtom 4 = .ok (.istore_n 2, 1) := zo_61 (zi_at zh_dX10_readAtom_0_0 4 rfl)
theorem dX10_readAtom_5 : decode cX10_readAtom 5 = .ok (.iload_n 2, 1) := zo_28 (zi_at zh_dX10_readAtom_0_0 5 rfl)
theorem dX10_readAtom_6 : decode cX10_readAtom 6 = .ok (.invokestatic 115, 3) := zo_184 (zi_at zh_dX10_readAtom_0_0 6 rfl) (zi_at zh_dX10_readAtom_0_0 7 rfl) (zi_at zh_dX10_readAtom_0_0 8 rfl) rfl
theorem dX10_readAtom_9 : decode cX10_readAtom 9 = .ok (.ifCond .eq 10, 3) := zo_153 (zi_at zh_dX10_readAtom_0_0 9 rfl) (zi_at zh_dX10_readAtom_0_0 10 rfl) (zi_at zh_dX10_readAtom_0_0 11 rfl) rfl
theorem dX10_readAtom_12 : decode cX10_readAtom 12 = .ok (.aload_n 0, 1) := zo_42 (zi_at zh_dX10_readAtom_0_0 12 rfl)
theorem dX10_readAtom_13 : decode cX10_readAtom 13 = .ok (.invokevirtual 118, 3) := zo_182 (zi_at zh_dX10_readAtom_0_0 13 rfl) (zi_at zh_dX10_readAtom_0_0 14 rfl) (zi_at zh_dX10_readAtom_0_0 15 rfl) rfl
theorem dX10_readAtom_16 : decode cX10_readAtom 16 = .ok (.goto 74, 3) := zo_167 (zi_at zh_dX10_readAtom_16_16 0 rfl) (zi_at zh_dX10_readAtom_16_16 1 rfl) (zi_at zh_dX10_readAtom_16_16 2 rfl) rfl
theorem dX10_readAtom_19 : decode cX10_readAtom 19 = .ok (.ldc 121, 2) := zo_18 (zi_at zh_dX10_readAtom_16_16 3 rfl) (zi_at zh_dX10_readAtom_16_16 4 rfl)
theorem dX10_readAtom_21 : decode cX10_readAtom 21 = .ok (.iload_n 2, 1) := zo_28 (zi_at zh_dX10_readAtom_16_16 5 rfl)
theorem dX10_readAtom_22 : decode cX10_readAtom 22 = .ok (.invokestatic 66, 3) := zo_184 (zi_at zh_dX10_readAtom_16_16 6 rfl) (zi_at zh_dX10_readAtom_16_16 7 rfl) (zi_at zh_dX10_readAtom_16_16 8 rfl) rfl
theorem dX10_readAtom_25 : decode cX10_readAtom 25 = .ok (.ifCond .eq 30, 3) := zo_153 (zi_at zh_dX10_readAtom_16_16 9 rfl) (zi_at zh_dX10_readAtom_16_16 10 rfl) (zi_at zh_dX10_readAtom_16_16 11 rfl) rfl
theorem dX10_readAtom_28 : decode cX10_readAtom 28 = .ok (.aload_n 0, 1) := zo_42 (zi_at zh_dX10_readAtom_16_16 12 rfl)
theorem dX10_readAtom_29 : decode cX10_readAtom 29 = .ok (.dup, 1) := zo_89 (zi_at zh_dX10_readAtom_16_16 13 rfl)
theorem dX10_readAtom_30 : decode cX10_readAtom 30 = .ok (.getfield 31, 3) := zo_180 (zi_at zh_dX10_readAtom_16_16 14 rfl) (zi_at zh_dX10_readAtom_16_16 15 rfl) (zi_at zh_dX10_readAtom_30_32 0 rfl) rfl
theorem dX10_readAtom_33 : decode cX10_readAtom 33 = .ok (.iconst 1, 1) := zo_4 (zi_at zh_dX10_readAtom_30_32 1 rfl)
theorem dX10_readAtom_34 : decode cX10_readAtom 34 = .ok (.iadd, 1) := zo_96 (zi_at zh_dX10_readAtom_30_32 2 rfl)
theorem dX10_readAtom_35 : decode cX10_readAtom 35 = .ok (.putfield 31, 3) := zo_181 (zi_at zh_dX10_readAtom_30_32 3 rfl) (zi_at zh_dX10_readAtom_30_32 4 rfl) (zi_at zh_dX10_readAtom_30_32 5 rfl) rfl
theorem dX10_readAtom_38 : decode cX10_readAtom 38 = .ok (.aload_n 0, 1) := zo_42 (zi_at zh_dX10_readAtom_30_32 6 rfl)
theorem dX10_readAtom_39 : decode cX10_readAtom 39 = .ok (.ldc 121, 2) := zo_18 (zi_at zh_dX10_readAtom_30_32 7 rfl) (zi_at zh_dX10_readAtom_30_32 8 rfl)
theorem dX10_readAtom_41 : decode cX10_readAtom 41 = .ok (.iload_n 2, 1) := zo_28 (zi_at zh_dX10_readAtom_30_32 9 rfl)
theorem dX10_readAtom_42 : decode cX10_readAtom 42 = .ok (.i2c, 1) := zo_146 (zi_at zh_dX10_readAtom_30_32 10 rfl)
theorem dX10_readAtom_43 : decode cX10_readAtom 43 = .ok (.invokevirtual 123, 3) := zo_182 (zi_at zh_dX10_readAtom_30_32 11 rfl) (zi_at zh_dX10_readAtom_30_32 12 rfl) (zi_at zh_dX10_readAtom_30_32 13 rfl) rfl
theorem dX10_readAtom_46 : decode cX10_readAtom 46 = .ok (.invokestatic 128, 3) := zo_184 (zi_at zh_dX10_readAtom_30_32 14 rfl) (zi_at zh_dX10_readAtom_30_32 15 rfl) (zi_at zh_dX10_readAtom_46_48 0 rfl) rfl
theorem dX10_readAtom_49 : decode cX10_readAtom 49 = .ok (.invokevirtual 92, 3) := zo_182 (zi_at zh_dX10_readAtom_46_48 1 rfl) (zi_at zh_dX10_readAtom_46_48 2 rfl) (zi_at zh_dX10_readAtom_46_48 3 rfl) rfl
theorem dX10_readAtom_52 : decode cX10_readAtom 52 = .ok (.goto 38, 3) := zo_167 (zi_at zh_dX10_readAtom_46_48 4 rfl) (zi_at zh_dX10_readAtom_46_48 5 rfl) (zi_at zh_dX10_readAtom_46_48 6 rfl) rfl
theorem dX10_readAtom_55 : decode cX10_readAtom 55 = .ok (.iload_n 2, 1) := zo_28 (zi_at zh_dX10_readAtom_46_48 7 rfl)
theorem dX10_readAtom_56 : decode cX10_readAtom 56 = .ok (.bipush 91, 2) := zo_16 (zi_at zh_dX10_readAtom_46_48 8 rfl) (zi_at zh_dX10_readAtom_46_48 9 rfl) rfl
theorem dX10_readAtom_58 : decode cX10_readAtom 58 = .ok (.if_icmp .ne 28, 3) := zo_160 (zi_at zh_dX10_readAtom_46_48 10 rfl) (zi_at zh_dX10_readAtom_46_48 11 rfl) (zi_at zh_dX10_readAtom_46_48 12 rfl) rfl
theorem dX10_readAtom_61 : decode cX10_readAtom 61 = .ok (.aload_n 0, 1) := zo_42 (zi_at zh_dX10_readAtom_46_48 13 rfl)
theorem dX10_readAtom_62 : decode cX10_readAtom 62 = .ok (.iload_n 1, 1) := zo_27 (zi_at zh_dX10_readAtom_46_48 14 rfl)
theorem dX10_readAtom_63 : decode cX10_readAtom 63 = .ok (.invokevirtual 98, 3) := zo_182 (zi_at zh_dX10_readAtom_46_48 15 rfl) (zi_at zh_dX10_readAtom_63_64 0 rfl) (zi_at zh_dX10_readAtom_63_64 1 rfl) rfl
theorem dX10_readAtom_66 : decode cX10_readAtom 66 = .ok (.ifCond .ne 4, 3) := zo_154 (zi_at zh_dX10_readAtom_63_64 2 rfl) (zi_at zh_dX10_readAtom_63_64 3 rfl) (zi_at zh_dX10_readAtom_63_64 4 rfl) rfl
theorem dX10_readAtom_69 : decode cX10_readAtom 69 = .ok (.return_, 1) := zo_177 (zi_at zh_dX10_readAtom_63_64 5 rfl)
theorem dX10_readAtom_70 : decode cX10_readAtom 70 = .ok (.aload_n 0, 1) := zo_42 (zi_at zh_dX10_readAtom_63_64 6 rfl)
theorem dX10_readAtom_71 : decode cX10_readAtom 71 = .ok (.iload_n 1, 1) := zo_27 (zi_at zh_dX10_readAtom_63_64 7 rfl)
theorem dX10_readAtom_72 : decode cX10_readAtom 72 = .ok (.iconst 1, 1) := zo_4 (zi_at zh_dX10_readAtom_63_64 8 rfl)
theorem dX10_readAtom_73 : decode cX10_readAtom 73 = .ok (.iadd, 1) := zo_96 (zi_at zh_dX10_readAtom_63_64 9 rfl)
theorem dX10_readAtom_74 : decode cX10_readAtom 74 = .ok (.invokevirtual 76, 3) := zo_182 (zi_at zh_dX10_readAtom_63_64 10 rfl) (zi_at zh_dX10_readAtom_63_64 11 rfl) (zi_at zh_dX10_readAtom_63_64 12 rfl) rfl
theorem dX10_readAtom_77 : decode cX10_readAtom 77 = .ok (.aload_n 0, 1) := zo_42 (zi_at zh_dX10_readAtom_63_64 13 rfl)
theorem dX10_readAtom_78 : decode cX10_readAtom 78 = .ok (.bipush 93, 2) := zo_16 (zi_at zh_dX10_readAtom_63_64 14 rfl) (zi_at zh_dX10_readAtom_63_64 15 rfl) rfl
theorem dX10_readAtom_80 : decode cX10_readAtom 80 = .ok (.invokevirtual 70, 3) := zo_182 (zi_at zh_dX10_readAtom_80_80 0 rfl) (zi_at zh_dX10_readAtom_80_80 1 rfl) (zi_at zh_dX10_readAtom_80_80 2 rfl) rfl
theorem dX10_readAtom_83 : decode cX10_readAtom 83 = .ok (.goto 7, 3) := zo_167 (zi_at zh_dX10_readAtom_80_80 3 rfl) (zi_at zh_dX10_readAtom_80_80 4 rfl) (zi_at zh_dX10_readAtom_80_80 5 rfl) rfl
theorem dX10_readAtom_86 : decode cX10_readAtom 86 = .ok (.aload_n 0, 1) := zo_42 (zi_at zh_dX10_readAtom_80_80 6 rfl)
theorem dX10_readAtom_87 : decode cX10_readAtom 87 = .ok (.invokevirtual 50, 3) := zo_182 (zi_at zh_dX10_readAtom_80_80 7 rfl) (zi_at zh_dX10_readAtom_80_80 8 rfl) (zi_at zh_dX10_readAtom_80_80 9 rfl) rfl
theorem dX10_readAtom_90 : decode cX10_readAtom 90 = .ok (.return_, 1) := zo_177 (zi_at zh_dX10_readAtom_80_80 10 rfl)
theorem hz_yX10_readNumber_0 : yX10_readNumber.cls ≠ "java/lang/invoke/MethodHandle" ∧ yX10_readNumber.cls ≠ "java/lang/invoke/VarHandle" ∧ (parseMethodDescriptor yX10_readNumber.desc).map (fun d => d.parameters.length) = some 0 := by decide +kernel
theorem hz_yX12_isOneOf_2 : yX12_isOneOf.cls ≠ "java/lang/invoke/MethodHandle" ∧ yX12_isOneOf.cls ≠ "java/lang/invoke/VarHandle" ∧ (parseMethodDescriptor yX12_isOneOf.desc).map (fun d => d.parameters.length) = some 2 := by decide +kernel
theorem hz_yX7_asLetter_1 : yX7_asLetter.cls ≠ "java/lang/invoke/MethodHandle" ∧ yX7_asLetter.cls ≠ "java/lang/invoke/VarHandle" ∧ (parseMethodDescriptor yX7_asLetter.desc).map (fun d => d.parameters.length) = some 1 := by decide +kernel
theorem hz_yX10_goDeeper_1 : yX10_goDeeper.cls ≠ "java/lang/invoke/MethodHandle" ∧ yX10_goDeeper.cls ≠ "java/lang/invoke/VarHandle" ∧ (parseMethodDescriptor yX10_goDeeper.desc).map (fun d => d.parameters.length) = some 1 := by decide +kernel
theorem hz_yX10_take_1 : yX10_take.cls ≠ "java/lang/invoke/MethodHandle" ∧ yX10_take.cls ≠ "java/lang/invoke/VarHandle" ∧ (parseMethodDescriptor yX10_take.desc).map (fun d => d.parameters.length) = some 1 := by decide +kernel

def v_readAtomX : List Cond := .code yX10_readAtom cX10_readAtom 3 none :: vA
abbrev rm_readAtomX (n : Nat) : Room := { frames := 7 * n + 7, cells := 0, slots := 0, locals := 40 * (7 * n + 7) }
def w_readAtomX : Nat → Nat → Bool := wl [22] [(2, 2), (2, 3), (2, 5)]
def C_readAtomX (l : Launch) (n : Nat) : Prop := ∀ (dC : Nat → ClassId) (dI : Nat → Nat → Nat) (cT : Nat → ClassId) (cf : Nat → Nat) (hC : CF cf) (ad : Nat → Nat) (E : Nat → va_E) (sz : Nat) (a0 : Int32) (hI0 : IXL cT (shC cf) (spC cf) (LC cf) ad E) (hh0 : 0 ≤ a0.toInt ∧ a0.toInt ≤ 8) (hh1 : a0.toInt + (n : Int) = 8), Met l yX10_readAtom v_readAtomX (rm_readAtomX n) (va_Pc [.ref (ad 2), .int a0] (HWL dC dI (TYC cT) cf ad E sz)) (va_Qv (S := Nat → va_E) (fun u => IXL cT (shC cf) (spC cf) (LC cf) ad u ∧ Kp w_readAtomX E u ∧ (((xi (E 2) 5).toInt ≤ (xi (u 2) 5).toInt) ∧ (RdC (fun t m a => atomS false t m n a) E u))) (HBL dC dI (LC cf) ad) (va_A (WL (LC cf) ad E) sz)) 0 0 (va_A (WL (LC cf) ad E) sz)
def v_readTermX : List Cond := .code yX10_readTerm cX10_readTerm 4 none :: vA
abbrev rm_readTermX (n : Nat) : Room := { frames := 7 * n + 8, cells := 0, slots := 0, locals := 40 * (7 * n + 8) }
def w_readTermX : Nat → Nat → Bool := wl [22] [(2, 2), (2, 3), (2, 5)]
def C_readTermX (l : Launch) (n : Nat) : Prop := ∀ (dC : Nat → ClassId) (dI : Nat → Nat → Nat) (cT : Nat → ClassId) (cf : Nat → Nat) (hC : CF cf) (ad : Nat → Nat) (E : Nat → va_E) (sz : Nat) (a0 : Int32) (hI0 : IXL cT (shC cf) (spC cf) (LC cf) ad E) (hh0 : 0 ≤ a0.toInt ∧ a0.toInt ≤ 8) (hh1 : a0.toInt + (n : Int) = 8), Met l yX10_readTerm v_readTermX (rm_readTermX n) (va_Pc [.ref (ad 2), .int a0] (HWL dC dI (TYC cT) cf ad E sz)) (va_Qv (S := Nat → va_E) (fun u => IXL cT (shC cf) (spC cf) (LC cf) ad u ∧ Kp w_readTermX E u ∧ (((xi (E 2) 5).toInt ≤ (xi (u 2) 5).toInt) ∧ (RdC (fun t m a => termS false t m n a) E u))) (HBL dC dI (LC cf) ad) (va_A (WL (LC cf) ad E) sz)) 0 0 (va_A (WL (LC cf) ad E) sz)
def v_readSumX : List Cond := .code yX10_readSum cX10_readSum 4 none :: vA
abbrev rm_readSumX (n : Nat) : Room := { frames := 7 * n + 9, cells := 0, slots := 0, locals := 40 * (7 * n + 9) }
def w_readSumX : Nat → Nat → Bool := wl [22] [(2, 2), (2, 3), (2, 5)]
def C_readSumX (l : Launch) (n : Nat) : Prop := ∀ (dC : Nat → ClassId) (dI : Nat → Nat → Nat) (cT : Nat → ClassId) (cf : Nat → Nat) (hC : CF cf) (ad : Nat → Nat) (E : Nat → va_E) (sz : Nat) (a0 : Int32) (hI0 : IXL cT (shC cf) (spC cf) (LC cf) ad E) (hh0 : 0 ≤ a0.toInt ∧ a0.toInt ≤ 8) (hh1 : a0.toInt + (n : Int) = 8), Met l yX10_readSum v_readSumX (rm_readSumX n) (va_Pc [.ref (ad 2), .int a0] (HWL dC dI (TYC cT) cf ad E sz)) (va_Qv (S := Nat → va_E) (fun u => IXL cT (shC cf) (spC cf) (LC cf) ad u ∧ Kp w_readSumX E u ∧ (((xi (E 2) 5).toInt ≤ (xi (u 2) 5).toInt) ∧ (RdC (fun t m a => sumS false t m n a) E u))) (HBL dC dI (LC cf) ad) (va_A (WL (LC cf) ad E) sz)) 0 0 (va_A (WL (LC cf) ad E) sz)
def v_readComparisonX : List Cond := .code yX10_readComparison cX10_readComparison 3 none :: vA
abbrev rm_readComparisonX (n : Nat) : Room := { frames := 7 * n + 10, cells := 0, slots := 0, locals := 40 * (7 * n + 10) }
def w_readComparisonX : Nat → Nat → Bool := wl [22] [(2, 2), (2, 3), (2, 5)]
def C_readComparisonX (l : Launch) (n : Nat) : Prop := ∀ (dC : Nat → ClassId) (dI : Nat → Nat → Nat) (cT : Nat → ClassId) (cf : Nat → Nat) (hC : CF cf) (ad : Nat → Nat) (E : Nat → va_E) (sz : Nat) (a0 : Int32) (hI0 : IXL cT (shC cf) (spC cf) (LC cf) ad E) (hh0 : 0 ≤ a0.toInt ∧ a0.toInt ≤ 8) (hh1 : a0.toInt + (n : Int) = 8), Met l yX10_readComparison v_readComparisonX (rm_readComparisonX n) (va_Pc [.ref (ad 2), .int a0] (HWL dC dI (TYC cT) cf ad E sz)) (va_Qv (S := Nat → va_E) (fun u => IXL cT (shC cf) (spC cf) (LC cf) ad u ∧ Kp w_readComparisonX E u ∧ (((xi (E 2) 5).toInt ≤ (xi (u 2) 5).toInt) ∧ (RdC (fun t m a => cmpS false t m n a) E u))) (HBL dC dI (LC cf) ad) (va_A (WL (LC cf) ad E) sz)) 0 0 (va_A (WL (LC cf) ad E) sz)
def v_readUnitX : List Cond := .code yX10_readUnit cX10_readUnit 4 none :: vA
abbrev rm_readUnitX (n : Nat) : Room := { frames := 7 * n + 11, cells := 0, slots := 0, locals := 40 * (7 * n + 11) }
def w_readUnitX : Nat → Nat → Bool := wl [22] [(2, 2), (2, 3), (2, 5)]
def C_readUnitX (l : Launch) (n : Nat) : Prop := ∀ (dC : Nat → ClassId) (dI : Nat → Nat → Nat) (cT : Nat → ClassId) (cf : Nat → Nat) (hC : CF cf) (ad : Nat → Nat) (E : Nat → va_E) (sz : Nat) (a0 : Int32) (a1 : Int32) (hI0 : IXL cT (shC cf) (spC cf) (LC cf) ad E) (hh0 : 0 ≤ a0.toInt ∧ a0.toInt ≤ 8) (hh1 : a0.toInt + (n : Int) = 8) (hh2 : 0 ≤ a1.toInt ∧ a1.toInt ≤ 1), Met l yX10_readUnit v_readUnitX (rm_readUnitX n) (va_Pc [.ref (ad 2), .int a0, .int a1] (HWL dC dI (TYC cT) cf ad E sz)) (va_Qv (S := Nat → va_E) (fun u => IXL cT (shC cf) (spC cf) (LC cf) ad u ∧ Kp w_readUnitX E u ∧ (((xi (E 2) 5).toInt ≤ (xi (u 2) 5).toInt) ∧ (RdC (unX a1 n) E u))) (HBL dC dI (LC cf) ad) (va_A (WL (LC cf) ad E) sz)) 0 0 (va_A (WL (LC cf) ad E) sz)
def v_readPartX : List Cond := .code yX10_readPart cX10_readPart 4 none :: vA
abbrev rm_readPartX (n : Nat) : Room := { frames := 7 * n + 12, cells := 0, slots := 0, locals := 40 * (7 * n + 12) }
def w_readPartX : Nat → Nat → Bool := wl [22] [(2, 2), (2, 3), (2, 5)]
def C_readPartX (l : Launch) (n : Nat) : Prop := ∀ (dC : Nat → ClassId) (dI : Nat → Nat → Nat) (cT : Nat → ClassId) (cf : Nat → Nat) (hC : CF cf) (ad : Nat → Nat) (E : Nat → va_E) (sz : Nat) (a0 : Int32) (a1 : Int32) (hI0 : IXL cT (shC cf) (spC cf) (LC cf) ad E) (hh0 : 0 ≤ a0.toInt ∧ a0.toInt ≤ 8) (hh1 : a0.toInt + (n : Int) = 8) (hh2 : 0 ≤ a1.toInt ∧ a1.toInt ≤ 1), Met l yX10_readPart v_readPartX (rm_readPartX n) (va_Pc [.ref (ad 2), .int a0, .int a1] (HWL dC dI (TYC cT) cf ad E sz)) (va_Qv (S := Nat → va_E) (fun u => IXL cT (shC cf) (spC cf) (LC cf) ad u ∧ Kp w_readPartX E u ∧ (((xi (E 2) 5).toInt ≤ (xi (u 2) 5).toInt) ∧ (RdC (paX a1 n) E u))) (HBL dC dI (LC cf) ad) (va_A (WL (LC cf) ad E) sz)) 0 0 (va_A (WL (LC cf) ad E) sz)
def v_readConditionX : List Cond := .code yX10_readCondition cX10_readCondition 4 none :: vA
abbrev rm_readConditionX (n : Nat) : Room := { frames := 7 * n + 13, cells := 0, slots := 0, locals := 40 * (7 * n + 13) }
def w_readConditionX : Nat → Nat → Bool := wl [22] [(2, 2), (2, 3), (2, 5)]
def C_readConditionX (l : Launch) (n : Nat) : Prop := ∀ (dC : Nat → ClassId) (dI : Nat → Nat → Nat) (cT : Nat → ClassId) (cf : Nat → Nat) (hC : CF cf) (ad : Nat → Nat) (E : Nat → va_E) (sz : Nat) (a0 : Int32) (a1 : Int32) (hI0 : IXL cT (shC cf) (spC cf) (LC cf) ad E) (hh0 : 0 ≤ a0.toInt ∧ a0.toInt ≤ 8) (hh1 : a0.toInt + (n : Int) = 8) (hh2 : 0 ≤ a1.toInt ∧ a1.toInt ≤ 1), Met l yX10_readCondition v_readConditionX (rm_readConditionX n) (va_Pc [.ref (ad 2), .int a0, .int a1] (HWL dC dI (TYC cT) cf ad E sz)) (va_Qv (S := Nat → va_E) (fun u => IXL cT (shC cf) (spC cf) (LC cf) ad u ∧ Kp w_readConditionX E u ∧ (((xi (E 2) 5).toInt ≤ (xi (u 2) 5).toInt) ∧ (RdC (coX a1 n) E u))) (HBL dC dI (LC cf) ad) (va_A (WL (LC cf) ad E) sz)) 0 0 (va_A (WL (LC cf) ad E) sz)
set_option maxHeartbeats 4000000 in
set_option maxRecDepth 100000 in
theorem q_readAtomX (l : Launch) (n : Nat) (gSum : ∀ k, k < n → C_readSumX l k) : C_readAtomX l n := by
  intro dC dI cT cf hC ad E sz a0 hI0 hh0 hh1
  obtain ⟨⟨hc0, hc1, hc2, hc3, hc4, hc5⟩, hcr⟩ := id hC
  refine Met.ofW (cc := cX10_readAtom) (maxL := 3) (ret := none) (by decide) rfl ?_
  intro p e s m args below meth c s₁ B hml hv
  obtain ⟨hargs, hsz, hP, hK, hD0, hEV⟩ := hv
  subst hsz
  have hx := B.exec
  have hb := B.bytes
  have hr := B.returns
  have hts := atoms_spec (ws := v_readAtomX) B.pre
  have hown : s.vm.findClass RX10 = some m.cls := findClass_of_methodNamed B.named
  have hlocks := B.notSynchronized
  have hinX10 : ∀ w ∈ u_ws RX10 TX10 10, w ∈ v_readAtomX := fun w h => vA_in _ w (in_X10 w h)
  generalize hAe : va_A (WL (LC cf) ad E) s.heap.size = A at hEV ⊢
  have hA : ∀ q : Nat, s.heap.size ≤ q → A q := fun q h => by rw [← hAe]; exact Or.inr h
  have hD : va_D A (WL (LC cf) ad E) := by rw [← hAe]; exact hD0.self
  have hS : va_S A s.heap s.heap [] := va_S.rf
  have hI := hI0
  have hKp : Kp w_readAtomX E E := Kp.rf
  have hl := lv_entry ([.ref (ad 2), .int a0]) (n := 3) (Nat.le_of_ble_eq_true rfl)
  obtain ⟨Q, hQ⟩ : ∃ Q, Q = MQ below (va_Qv (S := Nat → va_E) (fun u => IXL cT (shC cf) (spC cf) (LC cf) ad u ∧ Kp w_readAtomX E u ∧ (((xi (E 2) 5).toInt ≤ (xi (u 2) 5).toInt) ∧ (RdC (fun t m a => atomS false t m n a) E u))) (HBL dC dI (LC cf) ad) (A)) args s 0 0 (A) := ⟨_, rfl⟩
  rw [← hQ, show entryFrame m args 3 = _ from (congrArg (fun z => entryFrame m z 3) hargs).trans (lg_entry_eq _ _ _)]
  generalize (lg_sl ([.ref (ad 2), .int a0]) ++ List.replicate (3 - (lg_sl ([.ref (ad 2), .int a0])).length) Slot.unset).toArray = ls at hl ⊢
  have hl : lv_has ls 3 [(0, .ref (ad 2)), (1, .int a0)] := hl
  obtain ⟨y1, ey1⟩ : ∃ y, xi (E 2) 5 = y := ⟨_, rfl⟩
  have fy1 : xv (E 2) 5 = .int y1 := (hI.fi 2 (mF 2 rfl) rfl (Nat.le_of_ble_eq_true rfl) rfl).trans (congrArg Value.int ey1)
  have i2 : 0 ≤ y1.toInt ∧ y1.toInt ≤ 200 := by rw [← ey1]; exact hI.iv 2 (mF 2 rfl) rfl (Nat.le_of_ble_eq_true rfl) rfl
  refine lv_aload_n hx hb dX10_readAtom_0 rfl (lv_at hl 0 rfl) ?_
  refine th_iL (va_runV (As := []) (rest := []) ⟨hx, hb, hml, hown, hts⟩ (q_nextX l dC dI cT cf hC ad E s.heap.size hI) (cwV 0 hts (gi_V (in_8 _ (zs16 (zs4 (zs4 (zs1 (zs1 (zs1 (zs0)))))))) (in_8 _ (zs16 (zs4 (zs4 (zs4 (zs0)))))) (in_8 _ (zs16 (zs4 (zs4 (zs4 (zs1 (zs0))))))) (in_8 _ (zs4 (zs4 (zs4 (zs1 (zs1 (zs0))))))) (in_8 _ (zs16 (zs1 (zs1 (zs1 (zs0))))))) rfl rfl rfl ⟨rfl, hz_yX10_next_0⟩ ⟨(show 0 + 1 ≤ 7 * n + 7 from nl_1 (Nat.le_of_ble_eq_true rfl)), (show 8 + (1 + 11) + 40 * (0) ≤ 40 * (7 * n + 7) from nl_2 (Nat.le_of_ble_eq_true rfl))⟩) ⟨HWL_bl, va_recv hK hP (ci := 11) (q0 := posL 2 (LC cf)) rfl (hI.ob 2 (mF 2 rfl) rfl), (HWL_wi hP hK (WL_D hD) hS hA hEV)⟩ rfl rfl hl.1 rfl (lv_room (Nat.le_of_ble_eq_true rfl)) dX10_readAtom_1 ⟨Nat.le_of_ble_eq_true rfl, Nat.le_of_ble_eq_true rfl⟩) (WL_D hD) hS hA (fun r3 E4 H locs hw hP hS => ?_)
  obtain ⟨hI, kq5, hw⟩ := hw
  have hKb := hKp
  have hKp := hKp.tr kq5 (wl_sub rfl rfl)
  obtain ⟨y6, ey6⟩ : ∃ y, xi (E4 2) 2 = y := ⟨_, rfl⟩
  have fy6 : xv (E4 2) 2 = .int y6 := (hI.fi 2 (mF 2 rfl) rfl (Nat.le_of_ble_eq_true rfl) rfl).trans (congrArg Value.int ey6)
  have i7 : 0 ≤ y6.toInt ∧ y6.toInt ≤ 200 := by rw [← ey6]; exact hI.iv 2 (mF 2 rfl) rfl (Nat.le_of_ble_eq_true rfl) rfl
  obtain ⟨f8, f9, f10⟩ := hw
  have i11 : 0 ≤ (xi (E 2) 1).toInt ∧ (xi (E 2) 1).toInt ≤ 200 := hI0.iv 2 (mF 2 rfl) rfl (Nat.le_of_ble_eq_true rfl) rfl
  try rw [(show xi (E4 2) 2 = y6 from vi_e fy6)] at f9
  refine lv_istore_n (lv' := [(2, .int r3), (0, .ref (ad 2)), (1, .int a0)]) hx hb dX10_readAtom_4 rfl hl (by decide) rfl (fun ls hl => ?_)
  refine lv_iload_n hx hb dX10_readAtom_5 rfl (lv_at hl 0 rfl) ?_
  refine th_pi (va_runS (As := [.int r3]) (rest := []) ⟨hx, hb, hml, hown, hts⟩ (q_cisDigit l r3) (va_cwS 1 hts (gi_S (in_9 _ (zs4 (zs4 (zs1 (zs1 (zs1 (zs0))))))) (in_9 _ (zs4 (zs4 (zs4 (zs0))))) (in_8 _ (zs4 (zs4 (zs4 (zs1 (zs1 (zs0))))))) (in_8 _ (zs16 (zs1 (zs1 (zs0)))))) rfl rfl rfl hz_yX10_isDigit_1 ⟨(show 0 + 1 ≤ 7 * n + 7 from nl_1 (Nat.le_of_ble_eq_true rfl)), (show 8 + (1 + 11) + 40 * (0) ≤ 40 * (7 * n + 7) from nl_2 (Nat.le_of_ble_eq_true rfl))⟩) ⟨fun _ _ _ _ q => q, fun _ _ _ => ⟨rfl, trivial⟩⟩ rfl rfl hl.1 rfl (lv_room (Nat.le_of_ble_eq_true rfl)) dX10_readAtom_6 ⟨Nat.le_of_ble_eq_true rfl, Nat.le_of_ble_eq_true rfl⟩) hS (fun r12 H1 locs1 hw hk1 hS => ?_)
  have hP := ub_keep hP hk1
  generalize H1 = H at hP hS ⊢
  generalize locs1 = locs at hS ⊢
  rcases hw with hw | hw
  · -- cisDigit, case 0
    obtain ⟨rfl, f13⟩ := hw
    refine lv_if_eq (tgt := 19) hx hb dX10_readAtom_9 (by decide) (fun c14 => ?_) (fun c14 => ?_)
    · --9 taken
      exact absurd c14 (by decide)
    · --9 not
      refine lv_aload_n hx hb dX10_readAtom_12 rfl (lv_at hl 1 rfl) ?_
      refine th_vL (va_runV (As := []) (rest := []) ⟨hx, hb, hml, hown, hts⟩ (q_readNumberX l dC dI cT cf hC ad E4 H.size hI) (cwV 0 hts (gi_V (in_9 _ (zs4 (zs4 (zs4 (zs1 (zs0)))))) (in_9 _ (zs4 (zs4 (zs4 (zs1 (zs1 (zs0))))))) (in_9 _ (zs4 (zs4 (zs4 (zs1 (zs1 (zs1 (zs0)))))))) (in_8 _ (zs4 (zs4 (zs4 (zs1 (zs1 (zs0))))))) (in_9 _ (zs16 (zs0)))) rfl rfl rfl ⟨rfl, hz_yX10_readNumber_0⟩ ⟨(show 1 + 1 ≤ 7 * n + 7 from nl_1 (Nat.le_of_ble_eq_true rfl)), (show 8 + (3 + 11) + 40 * (1) ≤ 40 * (7 * n + 7) from nl_2 (Nat.le_of_ble_eq_true rfl))⟩) ⟨HWL_bl, va_recv hK hP (ci := 11) (q0 := posL 2 (LC cf)) rfl (hI.ob 2 (mF 2 rfl) rfl), (HWL_wi hP hK (WL_D hD) hS hA hEV)⟩ rfl rfl hl.1 rfl (lv_room (Nat.le_of_ble_eq_true rfl)) dX10_readAtom_13 ⟨Nat.le_of_ble_eq_true rfl, Nat.le_of_ble_eq_true rfl⟩) (WL_D hD) hS hA (fun E16 H locs hw hP hS => ?_)
      obtain ⟨hI, kq17, hw⟩ := hw
      have hKb := hKp
      have hKp := hKp.tr kq17 (wl_sub rfl rfl)
      obtain ⟨y18, ey18⟩ : ∃ y, xi (E16 2) 5 = y := ⟨_, rfl⟩
      have fy18 : xv (E16 2) 5 = .int y18 := (hI.fi 2 (mF 2 rfl) rfl (Nat.le_of_ble_eq_true rfl) rfl).trans (congrArg Value.int ey18)
      have i19 : 0 ≤ y18.toInt ∧ y18.toInt ≤ 200 := by rw [← ey18]; exact hI.iv 2 (mF 2 rfl) rfl (Nat.le_of_ble_eq_true rfl) rfl
      obtain ⟨f20, f21⟩ := hw
      try rw [(show xi (E4 2) 5 = y1 from vi_e ((kq5 2 5 rfl).trans fy1))] at f20
      try rw [(show xi (E16 2) 5 = y18 from vi_e fy18)] at f20
      refine lv_goto (tgt := 90) hx hb dX10_readAtom_16 (by decide) ?_
      rw [hQ]
      exact W.vret hx hb hr (fun t ht hW => ⟨⟨E16, rfl, ⟨hI, hKp, ⟨by (try rw [(show xi (E16 2) 5 = y18 from vi_e fy18)]); (try rw [ey1]); all_goals omega, atC_num f10 ⟨by omega, by omega⟩ f21⟩⟩, by show va_P (dC, dI) vwCl (WL (LC cf) ad E16) t.heap; rw [ht]; exact hP⟩, hS.F ht⟩) hS.2.2 dX10_readAtom_90
  · -- cisDigit, case 1
    obtain ⟨rfl, f22⟩ := hw
    refine lv_if_eq (tgt := 19) hx hb dX10_readAtom_9 (by decide) (fun c23 => ?_) (fun c23 => ?_)
    · --9 taken
      obtain ⟨qs24, vs25, hRqs24, hSSqs24⟩ := hEV.2.1.2.2.2.2.2
      refine va_ldcS hx hb hown hRqs24 dX10_readAtom_19 ?_
      refine lv_iload_n hx hb dX10_readAtom_21 rfl (lv_at hl 0 rfl) ?_
      refine th_pi (va_runSN (As := [.ref qs24, .int r3]) (rest := []) ⟨hx, hb, hml, hown, hts⟩ (q_isOneOfX l qs24 vs25 tLET r3 (by decide) (by decide) f8) ⟨va_cnB 2 hts (gi_0 (in_8 _ (zs16 (zs4 (zs4 (zs4 (zs1 (zs1 (zs1 (zs0)))))))))) rfl rfl rfl (hEV.1.1 _ (List.mem_of_getElem? (i := 12) rfl)) (hts _ (vA_in _ _ (in_4 _ (zs16 (zs4 (zs1 (zs1 (zs1 (zs0))))))))) hz_yX12_isOneOf_2 ⟨(show 4 + 1 ≤ 7 * n + 7 from nl_1 (Nat.le_of_ble_eq_true rfl)), (show 8 + (2 + 11) + 40 * (4) ≤ 40 * (7 * n + 7) from nl_2 (Nat.le_of_ble_eq_true rfl))⟩, (hts _ (vA_in _ _ (in_8 _ (zs16 (zs4 (zs4 (zs4 (zs1 (zs1 (zs0)))))))))), trivial⟩ ⟨fun a U g mk q => ⟨q.1, SS_c q.2⟩, fun U hU hW => ⟨rfl, SS_w hU hW hS (fun _ h => h.elim) hSSqs24⟩⟩ rfl rfl hl.1 rfl (lv_room (Nat.le_of_ble_eq_true rfl)) dX10_readAtom_22 ⟨Nat.le_of_ble_eq_true rfl, Nat.le_of_ble_eq_true rfl⟩) hS (fun r26 H1 locs1 hw hk1 hS => ?_)
      have hP := ub_keep hP hk1
      generalize H1 = H at hP hS ⊢
      generalize locs1 = locs at hS ⊢
      rcases hw with hw | hw
      · -- isOneOfX, case 0
        obtain ⟨rfl, f27⟩ := hw
        refine lv_if_eq (tgt := 55) hx hb dX10_readAtom_25 (by decide) (fun c28 => ?_) (fun c28 => ?_)
        · --25 taken
          exact absurd c28 (by decide)
        · --25 not
          refine lv_aload_n hx hb dX10_readAtom_28 rfl (lv_at hl 1 rfl) ?_
          refine lv_dup hx hb dX10_readAtom_29 rfl ?_
          refine th_getL (ci := 11) (C := RX10) (T := TX10) (N := 10) (v := .int y6) hx hb hts hinX10 hown hK hP hI 2 (mF 2 rfl) rfl rfl 2 (Nat.le_of_ble_eq_true rfl) (hts _ (vA_in _ _ (in_8 _ (zs4 (zs4 (zs1 (zs0))))))) (fun _ h9 => h9) fy6 dX10_readAtom_30 ?_
          refine lv_iconst (v := 1) hx hb dX10_readAtom_33 (by decide) ?_
          refine lv_iadd hx hb dX10_readAtom_34 ?_
          refine lv_topi (fun y29 ey29 => ?_)
          obtain ⟨ty29, iy29⟩ := ti_add (e := 1) (f := 201) i7 ln_1 ey29 (by decide)
          have ty29 : y29.toInt = y6.toInt + 1 := ty29
          have iy29 : 1 ≤ y29.toInt ∧ y29.toInt ≤ 201 := iy29
          have i30 : 1 ≤ y29.toInt ∧ y29.toInt ≤ 200 := by omega
          refine th_putL (ci := 11) (C := RX10) (T := TX10) (N := 10) (v := .int y29) (ty := .int) hx hb hts hinX10 tyX10 tyX10_ok nmX10 hown hK hP (WL_D hD) hS hI 2 (mF 2 rfl) rfl rfl 2 (Nat.le_of_ble_eq_true rfl) (hts _ (vA_in _ _ (in_8 _ (zs4 (zs4 (zs1 (zs0))))))) (fun _ h9 => h9) rfl (by decide +kernel) rfl rfl (okI rfl (iv_w i30 (by decide))) dX10_readAtom_35 (fun H locs E31 pw32 hI hP hS => ?_)
          have hKp := hKp.pw pw32 rfl
          have k33 : AtP E4 E31 := AtP.pw pw32.2 (vi_e fy6) (vi_e pw32.1) ty29 (by omega)
          refine lv_aload_n hx hb dX10_readAtom_38 rfl (lv_at hl 1 rfl) ?_
          obtain ⟨qs34, vs35, hRqs34, hSSqs34⟩ := hEV.2.1.2.2.2.2.2
          refine va_ldcS hx hb hown hRqs34 dX10_readAtom_39 ?_
          refine lv_iload_n hx hb dX10_readAtom_41 rfl (lv_at hl 0 rfl) ?_
          refine lv_i2c hx hb dX10_readAtom_42 rfl ?_
          refine lv_topi (fun y36 ey36 => ?_)
          refine th_pi (va_runV (As := [.int y36]) (rest := [.ref (ad 2)]) ⟨hx, hb, hml, hown, hts⟩ (q_indexOf l qs34 vs35 tLET y36 (by decide) (by decide)) (cwV 1 hts (gi_V (in_9 _ (zs16 (zs1 (zs0)))) (in_8 _ (zs16 (zs16 (zs1 (zs0))))) (in_8 _ (zs16 (zs16 (zs1 (zs1 (zs0)))))) (in_0 _ (zs4 (zs4 (zs4 (zs1 (zs0)))))) (in_0 _ (zs4 (zs4 (zs1 (zs0)))))) rfl rfl rfl ⟨rfl, hz_yJ0_indexOf_0f7a4_1⟩ ⟨(show 3 + 1 ≤ 7 * n + 7 from nl_1 (Nat.le_of_ble_eq_true rfl)), (show 8 + (2 + 11) + 40 * (3) ≤ 40 * (7 * n + 7) from nl_2 (Nat.le_of_ble_eq_true rfl))⟩) ⟨fun a U g mk q => ⟨q.1, SS_c q.2⟩, va_Orecv hSSqs34.1 hS, fun U hU hW => ⟨rfl, SS_w hU hW hS (fun _ h => h.elim) hSSqs34⟩⟩ rfl rfl hl.1 rfl (lv_room (Nat.le_of_ble_eq_true rfl)) dX10_readAtom_43 ⟨Nat.le_of_ble_eq_true rfl, Nat.le_of_ble_eq_true rfl⟩) hS (fun r37 H1 locs1 hw hk1 hS => ?_)
          have hP := ub_keep hP hk1
          generalize H1 = H at hP hS ⊢
          generalize locs1 = locs at hS ⊢
          obtain ⟨f38, f39⟩ := hw
          refine th_pi (va_runS (As := [.int r37]) (rest := [.ref (ad 2)]) ⟨hx, hb, hml, hown, hts⟩ (q_casLetter l r37) (va_cwS 1 hts (gi_S (in_9 _ (zs16 (zs1 (zs1 (zs0))))) (in_9 _ (zs16 (zs1 (zs1 (zs1 (zs0)))))) (in_7 _ (zs1 (zs1 (zs0)))) (in_9 _ (zs16 (zs4 (zs0))))) rfl rfl rfl hz_yX7_asLetter_1 ⟨(show 0 + 1 ≤ 7 * n + 7 from nl_1 (Nat.le_of_ble_eq_true rfl)), (show 8 + (1 + 11) + 40 * (0) ≤ 40 * (7 * n + 7) from nl_2 (Nat.le_of_ble_eq_true rfl))⟩) ⟨fun _ _ _ _ q => q, fun _ _ _ => ⟨rfl, trivial⟩⟩ rfl rfl hl.1 rfl (lv_room (Nat.le_of_ble_eq_true rfl)) dX10_readAtom_46 ⟨Nat.le_of_ble_eq_true rfl, Nat.le_of_ble_eq_true rfl⟩) hS (fun r40 H1 locs1 hw hk1 hS => ?_)
          have hP := ub_keep hP hk1
          generalize H1 = H at hP hS ⊢
          generalize locs1 = locs at hS ⊢
          refine th_vL (va_runV (As := [.int r40]) (rest := []) ⟨hx, hb, hml, hown, hts⟩ (q_addX l dC dI cT cf hC ad E31 H.size r40 hI) (cwV 1 hts (gi_V (in_9 _ (zs4 (zs1 (zs1 (zs1 (zs0)))))) (in_9 _ (zs4 (zs4 (zs0)))) (in_9 _ (zs4 (zs4 (zs1 (zs0))))) (in_8 _ (zs4 (zs4 (zs4 (zs1 (zs1 (zs0))))))) (in_7 _ (zs16 (zs4 (zs4 (zs4 (zs1 (zs0)))))))) rfl rfl rfl ⟨rfl, hz_yX10_add_1⟩ ⟨(show 0 + 1 ≤ 7 * n + 7 from nl_1 (Nat.le_of_ble_eq_true rfl)), (show 8 + (2 + 11) + 40 * (0) ≤ 40 * (7 * n + 7) from nl_2 (Nat.le_of_ble_eq_true rfl))⟩) ⟨HWL_bl, va_recv hK hP (ci := 11) (q0 := posL 2 (LC cf)) rfl (hI.ob 2 (mF 2 rfl) rfl), (HWL_wi hP hK (WL_D hD) hS hA hEV)⟩ rfl rfl hl.1 rfl (lv_room (Nat.le_of_ble_eq_true rfl)) dX10_readAtom_49 ⟨Nat.le_of_ble_eq_true rfl, Nat.le_of_ble_eq_true rfl⟩) (WL_D hD) hS hA (fun E42 H locs hw hP hS => ?_)
          obtain ⟨hI, kq43, hw⟩ := hw
          have hKb := hKp
          have hKp := hKp.tr kq43 (wl_sub rfl rfl)
          obtain ⟨y44, ey44⟩ : ∃ y, xi (E42 2) 5 = y := ⟨_, rfl⟩
          have fy44 : xv (E42 2) 5 = .int y44 := (hI.fi 2 (mF 2 rfl) rfl (Nat.le_of_ble_eq_true rfl) rfl).trans (congrArg Value.int ey44)
          have i45 : 0 ≤ y44.toInt ∧ y44.toInt ≤ 200 := by rw [← ey44]; exact hI.iv 2 (mF 2 rfl) rfl (Nat.le_of_ble_eq_true rfl) rfl
          obtain ⟨f46, f47⟩ := hw
          try rw [(show xi (E31 2) 5 = y1 from vi_e ((pw32.2 2 5 (fun q9 => absurd q9.2 (Nat.ne_of_beq_eq_false rfl))).trans ((kq5 2 5 rfl).trans fy1)))] at f46
          try rw [(show xi (E42 2) 5 = y44 from vi_e fy44)] at f46
          refine lv_goto (tgt := 90) hx hb dX10_readAtom_52 (by decide) ?_
          rw [hQ]
          exact W.vret hx hb hr (fun t ht hW => ⟨⟨E42, rfl, ⟨hI, hKp, ⟨by (try rw [(show xi (E42 2) 5 = y44 from vi_e fy44)]); (try rw [ey1]); all_goals omega, atC_let f10 (by unfold dgt; omega) (ix_let.mp f27.2) k33 f47⟩⟩, by show va_P (dC, dI) vwCl (WL (LC cf) ad E42) t.heap; rw [ht]; exact hP⟩, hS.F ht⟩) hS.2.2 dX10_readAtom_90
      · -- isOneOfX, case 1
        obtain ⟨rfl, f48⟩ := hw
        refine lv_if_eq (tgt := 55) hx hb dX10_readAtom_25 (by decide) (fun c49 => ?_) (fun c49 => ?_)
        · --25 taken
          refine lv_iload_n hx hb dX10_readAtom_55 rfl (lv_at hl 0 rfl) ?_
          refine lv_bipush (v := 91) hx hb dX10_readAtom_56 (by decide) ?_
          refine lv_icmp_ne (tgt := 86) hx hb dX10_readAtom_58 (by decide) (fun c50 => ?_) (fun c50 => ?_)
          · --58 taken
            have t51 : ¬ r3.toInt = 91 := ti_ne c50
            refine lv_aload_n hx hb dX10_readAtom_86 rfl (lv_at hl 1 rfl) ?_
            refine th_vL (va_runV (As := []) (rest := []) ⟨hx, hb, hml, hown, hts⟩ (q_failX l dC dI cT cf hC ad E4 H.size hI) (cwV 0 hts (gi_V (in_8 _ (zs4 (zs4 (zs1 (zs1 (zs1 (zs0))))))) (in_8 _ (zs4 (zs4 (zs4 (zs0))))) (in_8 _ (zs4 (zs4 (zs4 (zs1 (zs0)))))) (in_8 _ (zs4 (zs4 (zs4 (zs1 (zs1 (zs0))))))) (in_8 _ (zs4 (zs1 (zs1 (zs1 (zs0))))))) rfl rfl rfl ⟨rfl, hz_yX10_fail_0⟩ ⟨(show 0 + 1 ≤ 7 * n + 7 from nl_1 (Nat.le_of_ble_eq_true rfl)), (show 8 + (1 + 11) + 40 * (0) ≤ 40 * (7 * n + 7) from nl_2 (Nat.le_of_ble_eq_true rfl))⟩) ⟨HWL_bl, va_recv hK hP (ci := 11) (q0 := posL 2 (LC cf)) rfl (hI.ob 2 (mF 2 rfl) rfl), (HWL_wi hP hK (WL_D hD) hS hA hEV)⟩ rfl rfl hl.1 rfl (lv_room (Nat.le_of_ble_eq_true rfl)) dX10_readAtom_87 ⟨Nat.le_of_ble_eq_true rfl, Nat.le_of_ble_eq_true rfl⟩) (WL_D hD) hS hA (fun E53 H locs hw hP hS => ?_)
            obtain ⟨hI, kq54, hw⟩ := hw
            have hKb := hKp
            have hKp := hKp.tr kq54 (wl_sub rfl rfl)
            have f55 := hw
            rw [hQ]
            exact W.vret hx hb hr (fun t ht hW => ⟨⟨E53, rfl, ⟨hI, hKp, ⟨by (try rw [(show xi (E53 2) 5 = y1 from vi_e ((kq54 2 5 rfl).trans ((kq5 2 5 rfl).trans fy1)))]); (try rw [ey1]); all_goals omega, atC_no f10 (by unfold dgt; omega) (no_let f48) (by omega) f55⟩⟩, by show va_P (dC, dI) vwCl (WL (LC cf) ad E53) t.heap; rw [ht]; exact hP⟩, hS.F ht⟩) hS.2.2 dX10_readAtom_90
          · --58 not
            have t56 : r3.toInt = 91 := ti_eq c50
            have i57 : 91 ≤ r3.toInt ∧ r3.toInt ≤ 91 := iv_eqi t56 f8 (il_ 91) (by decide)
            refine lv_aload_n hx hb dX10_readAtom_61 rfl (lv_at hl 1 rfl) ?_
            refine lv_iload_n hx hb dX10_readAtom_62 rfl (lv_at hl 2 rfl) ?_
            refine th_iL (va_runV (As := [.int a0]) (rest := []) ⟨hx, hb, hml, hown, hts⟩ (q_goDeeperX l dC dI cT cf hC ad E4 H.size a0 hI hh0 (by (try rw [(show xi (E4 2) 2 = y6 from vi_e fy6)]); (try rw [hKp.ei 2 1 rfl]); omega)) (cwV 1 hts (gi_V (in_9 _ (zs16 (zs4 (zs1 (zs0))))) (in_9 _ (zs16 (zs4 (zs1 (zs1 (zs0)))))) (in_9 _ (zs16 (zs4 (zs1 (zs1 (zs1 (zs0))))))) (in_8 _ (zs4 (zs4 (zs4 (zs1 (zs1 (zs0))))))) (in_8 _ (zs4 (zs4 (zs1 (zs1 (zs0))))))) rfl rfl rfl ⟨rfl, hz_yX10_goDeeper_1⟩ ⟨(show 1 + 1 ≤ 7 * n + 7 from nl_1 (Nat.le_of_ble_eq_true rfl)), (show 8 + (2 + 11) + 40 * (1) ≤ 40 * (7 * n + 7) from nl_2 (Nat.le_of_ble_eq_true rfl))⟩) ⟨HWL_bl, va_recv hK hP (ci := 11) (q0 := posL 2 (LC cf)) rfl (hI.ob 2 (mF 2 rfl) rfl), (HWL_wi hP hK (WL_D hD) hS hA hEV)⟩ rfl rfl hl.1 rfl (lv_room (Nat.le_of_ble_eq_true rfl)) dX10_readAtom_63 ⟨Nat.le_of_ble_eq_true rfl, Nat.le_of_ble_eq_true rfl⟩) (WL_D hD) hS hA (fun r58 E59 H locs hw hP hS => ?_)
            obtain ⟨hI, kq60, hw⟩ := hw
            have hKb := hKp
            have hKp := hKp.tr kq60 (wl_sub rfl rfl)
            rcases hw with hw | hw
            · -- goDeeperX, case 0
              obtain ⟨rfl, f61, f62⟩ := hw
              obtain ⟨k9, hk9⟩ : ∃ k9, n = k9 + 1 := ⟨n - 1, by omega⟩
              refine lv_if_ne (tgt := 70) hx hb dX10_readAtom_66 (by decide) (fun c63 => ?_) (fun c63 => ?_)
              · --66 taken
                refine lv_aload_n hx hb dX10_readAtom_70 rfl (lv_at hl 1 rfl) ?_
                refine lv_iload_n hx hb dX10_readAtom_71 rfl (lv_at hl 2 rfl) ?_
                refine lv_iconst (v := 1) hx hb dX10_readAtom_72 (by decide) ?_
                refine lv_iadd hx hb dX10_readAtom_73 ?_
                refine lv_topi (fun y64 ey64 => ?_)
                obtain ⟨ty64, iy64⟩ := ti_add (e := 1) (f := 8) f61 ln_1 ey64 (by decide)
                have ty64 : y64.toInt = a0.toInt + 1 := ty64
                have iy64 : 1 ≤ y64.toInt ∧ y64.toInt ≤ 8 := iy64
                refine th_vL (va_runV (As := [.int y64]) (rest := []) ⟨hx, hb, hml, hown, hts⟩ ((gSum k9 (by omega)) dC dI cT cf hC ad E59 H.size y64 hI (iv_w iy64 (by decide)) (by omega)) (cwV 1 hts (gi_V (in_8 _ (zs16 (zs16 (zs4 (zs1 (zs1 (zs1 (zs0)))))))) (in_9 _ zs0) (in_9 _ (zs1 (zs0))) (in_8 _ (zs4 (zs4 (zs4 (zs1 (zs1 (zs0))))))) (in_9 _ (zs1 (zs1 (zs0))))) rfl rfl rfl (by decide +kernel) ⟨(show 7 * k9 + 9 + 1 ≤ 7 * n + 7 by omega), (show 8 + (4 + 11) + 40 * (7 * k9 + 9) ≤ 40 * (7 * n + 7) by omega)⟩) ⟨HWL_bl, va_recv hK hP (ci := 11) (q0 := posL 2 (LC cf)) rfl (hI.ob 2 (mF 2 rfl) rfl), (HWL_wi hP hK (WL_D hD) hS hA hEV)⟩ rfl rfl hl.1 rfl (lv_room (Nat.le_of_ble_eq_true rfl)) dX10_readAtom_74 ⟨Nat.le_of_ble_eq_true rfl, Nat.le_of_ble_eq_true rfl⟩) (WL_D hD) hS hA (fun E66 H locs hw hP hS => ?_)
                obtain ⟨hI, kq67, hw⟩ := hw
                have hKb := hKp
                have hKp := hKp.tr kq67 (wl_sub rfl rfl)
                obtain ⟨y68, ey68⟩ : ∃ y, xi (E66 2) 5 = y := ⟨_, rfl⟩
                have fy68 : xv (E66 2) 5 = .int y68 := (hI.fi 2 (mF 2 rfl) rfl (Nat.le_of_ble_eq_true rfl) rfl).trans (congrArg Value.int ey68)
                have i69 : 0 ≤ y68.toInt ∧ y68.toInt ≤ 200 := by rw [← ey68]; exact hI.iv 2 (mF 2 rfl) rfl (Nat.le_of_ble_eq_true rfl) rfl
                obtain ⟨f70, f71⟩ := hw
                try rw [(show xi (E59 2) 5 = y1 from vi_e ((kq60 2 5 rfl).trans ((kq5 2 5 rfl).trans fy1)))] at f70
                try rw [(show xi (E66 2) 5 = y68 from vi_e fy68)] at f70
                refine lv_aload_n hx hb dX10_readAtom_77 rfl (lv_at hl 1 rfl) ?_
                refine lv_bipush (v := 93) hx hb dX10_readAtom_78 (by decide) ?_
                refine th_vL (va_runV (As := [.int 93]) (rest := []) ⟨hx, hb, hml, hown, hts⟩ (q_takeX l dC dI cT cf hC ad E66 H.size (93 : Int32) hI (iv_w ln_93 (by decide))) (cwV 1 hts (gi_V (in_8 _ (zs16 (zs16 (zs1 (zs1 (zs1 (zs0))))))) (in_8 _ (zs16 (zs16 (zs4 (zs0))))) (in_8 _ (zs16 (zs16 (zs4 (zs1 (zs0)))))) (in_8 _ (zs4 (zs4 (zs4 (zs1 (zs1 (zs0))))))) (in_8 _ (zs16 (zs16 (zs4 (zs1 (zs1 (zs0)))))))) rfl rfl rfl ⟨rfl, hz_yX10_take_1⟩ ⟨(show 1 + 1 ≤ 7 * n + 7 from nl_1 (Nat.le_of_ble_eq_true rfl)), (show 8 + (2 + 11) + 40 * (1) ≤ 40 * (7 * n + 7) from nl_2 (Nat.le_of_ble_eq_true rfl))⟩) ⟨HWL_bl, va_recv hK hP (ci := 11) (q0 := posL 2 (LC cf)) rfl (hI.ob 2 (mF 2 rfl) rfl), (HWL_wi hP hK (WL_D hD) hS hA hEV)⟩ rfl rfl hl.1 rfl (lv_room (Nat.le_of_ble_eq_true rfl)) dX10_readAtom_80 ⟨Nat.le_of_ble_eq_true rfl, Nat.le_of_ble_eq_true rfl⟩) (WL_D hD) hS hA (fun E73 H locs hw hP hS => ?_)
                obtain ⟨hI, kq74, hw⟩ := hw
                have hKb := hKp
                have hKp := hKp.tr kq74 (wl_sub rfl rfl)
                have f75 := hw
                refine lv_goto (tgt := 90) hx hb dX10_readAtom_83 (by decide) ?_
                rw [hQ]
                exact W.vret hx hb hr (fun t ht hW => ⟨⟨E73, rfl, ⟨hI, hKp, ⟨by (try rw [(show xi (E73 2) 5 = y68 from vi_e ((kq74 2 5 rfl).trans fy68))]); (try rw [ey1]); all_goals omega, atC_in f10 (by omega) f62 f71 f75 hk9⟩⟩, by show va_P (dC, dI) vwCl (WL (LC cf) ad E73) t.heap; rw [ht]; exact hP⟩, hS.F ht⟩) hS.2.2 dX10_readAtom_90
              · --66 not
                exact absurd c63 (by decide)
            · -- goDeeperX, case 1
              obtain ⟨rfl, f76, f77⟩ := hw
              refine lv_if_ne (tgt := 70) hx hb dX10_readAtom_66 (by decide) (fun c78 => ?_) (fun c78 => ?_)
              · --66 taken
                exact absurd c78 (by decide)
              · --66 not
                rw [hQ]
                exact W.vret hx hb hr (fun t ht hW => ⟨⟨E59, rfl, ⟨hI, hKp, ⟨by (try rw [(show xi (E59 2) 5 = y1 from vi_e ((kq60 2 5 rfl).trans ((kq5 2 5 rfl).trans fy1)))]); (try rw [ey1]); all_goals omega, atC_in0 f10 (by omega) f77 (by omega)⟩⟩, by show va_P (dC, dI) vwCl (WL (LC cf) ad E59) t.heap; rw [ht]; exact hP⟩, hS.F ht⟩) hS.2.2 dX10_readAtom_69
        · --25 not
          exact absurd c49 (by decide)
    · --9 not
      exact absurd c23 (by decide)
set_option maxHeartbeats 4000000 in
set_option maxRecDepth 100000 in
theorem q_readTermX (l : Launch) (n : Nat) (gA : C_readAtomX l n) : C_readTermX l n := by
  intro dC dI cT cf hC ad E sz a0 hI0 hh0 hh1
  obtain ⟨⟨hc0, hc1, hc2, hc3, hc4, hc5⟩, hcr⟩ := id hC
  refine Met.ofW (cc := cX10_readTerm) (maxL := 4) (ret := none) (by decide) rfl ?_
  intro p e s m args below meth c s₁ B hml hv
  obtain ⟨hargs, hsz, hP, hK, hD0, hEV⟩ := hv
  subst hsz
  have hx := B.exec
  have hb := B.bytes
  have hr := B.returns
  have hts := atoms_spec (ws := v_readTermX) B.pre
  have hown : s.vm.findClass RX10 = some m.cls := findClass_of_methodNamed B.named
  have hlocks := B.notSynchronized
  have hinX10 : ∀ w ∈ u_ws RX10 TX10 10, w ∈ v_readTermX := fun w h => vA_in _ w (in_X10 w h)
  generalize hAe : va_A (WL (LC cf) ad E) s.heap.size = A at hEV ⊢
  have hA : ∀ q : Nat, s.heap.size ≤ q → A q := fun q h => by rw [← hAe]; exact Or.inr h
  have hD : va_D A (WL (LC cf) ad E) := by rw [← hAe]; exact hD0.self
  have hS : va_S A s.heap s.heap [] := va_S.rf
  have hI := hI0
  have hKp : Kp w_readTermX E E := Kp.rf
  have hl := lv_entry ([.ref (ad 2), .int a0]) (n := 4) (Nat.le_of_ble_eq_true rfl)
  obtain ⟨Q, hQ⟩ : ∃ Q, Q = MQ below (va_Qv (S := Nat → va_E) (fun u => IXL cT (shC cf) (spC cf) (LC cf) ad u ∧ Kp w_readTermX E u ∧ (((xi (E 2) 5).toInt ≤ (xi (u 2) 5).toInt) ∧ (RdC (fun t m a => termS false t m n a) E u))) (HBL dC dI (LC cf) ad) (A)) args s 0 0 (A) := ⟨_, rfl⟩
  rw [← hQ, show entryFrame m args 4 = _ from (congrArg (fun z => entryFrame m z 4) hargs).trans (lg_entry_eq _ _ _)]
  generalize (lg_sl ([.ref (ad 2), .int a0]) ++ List.replicate (4 - (lg_sl ([.ref (ad 2), .int a0])).length) Slot.unset).toArray = ls at hl ⊢
  have hl : lv_has ls 4 [(0, .ref (ad 2)), (1, .int a0)] := hl
  obtain ⟨y1, ey1⟩ : ∃ y, xi (E 2) 5 = y := ⟨_, rfl⟩
  have fy1 : xv (E 2) 5 = .int y1 := (hI.fi 2 (mF 2 rfl) rfl (Nat.le_of_ble_eq_true rfl) rfl).trans (congrArg Value.int ey1)
  have i2 : 0 ≤ y1.toInt ∧ y1.toInt ≤ 200 := by rw [← ey1]; exact hI.iv 2 (mF 2 rfl) rfl (Nat.le_of_ble_eq_true rfl) rfl
  have i3 : 0 ≤ (xi (E 2) 1).toInt ∧ (xi (E 2) 1).toInt ≤ 200 := hI0.iv 2 (mF 2 rfl) rfl (Nat.le_of_ble_eq_true rfl) rfl
  refine lv_aload_n hx hb dX10_readTerm_0 rfl (lv_at hl 0 rfl) ?_
  refine lv_iload_n hx hb dX10_readTerm_1 rfl (lv_at hl 1 rfl) ?_
  refine th_vL (va_runV (As := [.int a0]) (rest := []) ⟨hx, hb, hml, hown, hts⟩ (gA dC dI cT cf hC ad E s.heap.size a0 hI hh0 (by omega)) (cwV 1 hts (gi_V (in_9 _ (zs16 (zs4 (zs4 (zs1 (zs0)))))) (in_9 _ (zs16 (zs4 (zs4 (zs1 (zs1 (zs0))))))) (in_9 _ (zs16 (zs4 (zs4 (zs1 (zs1 (zs1 (zs0)))))))) (in_8 _ (zs4 (zs4 (zs4 (zs1 (zs1 (zs0))))))) (in_9 _ (zs4 (zs4 (zs1 (zs1 (zs0))))))) rfl rfl rfl (by decide +kernel) ⟨(show 7 * n + 7 + 1 ≤ 7 * n + 8 from nl_4 (Nat.le_of_ble_eq_true rfl) (Nat.le_of_ble_eq_true rfl)), (show 8 + (3 + 11) + 40 * (7 * n + 7) ≤ 40 * (7 * n + 8) from nl_3 (Nat.le_of_ble_eq_true rfl) (Nat.le_of_ble_eq_true rfl))⟩) ⟨HWL_bl, va_recv hK hP (ci := 11) (q0 := posL 2 (LC cf)) rfl (hI.ob 2 (mF 2 rfl) rfl), (HWL_wi hP hK (WL_D hD) hS hA hEV)⟩ rfl rfl hl.1 rfl (lv_room (Nat.le_of_ble_eq_true rfl)) dX10_readTerm_2 ⟨Nat.le_of_ble_eq_true rfl, Nat.le_of_ble_eq_true rfl⟩) (WL_D hD) hS hA (fun E5 H locs hw hP hS => ?_)
  obtain ⟨hI, kq6, hw⟩ := hw
  have hKb := hKp
  have hKp := hKp.tr kq6 (wl_sub rfl rfl)
  obtain ⟨y7, ey7⟩ : ∃ y, xi (E5 2) 5 = y := ⟨_, rfl⟩
  have fy7 : xv (E5 2) 5 = .int y7 := (hI.fi 2 (mF 2 rfl) rfl (Nat.le_of_ble_eq_true rfl) rfl).trans (congrArg Value.int ey7)
  have i8 : 0 ≤ y7.toInt ∧ y7.toInt ≤ 200 := by rw [← ey7]; exact hI.iv 2 (mF 2 rfl) rfl (Nat.le_of_ble_eq_true rfl) rfl
  obtain ⟨f9, f10⟩ := hw
  try rw [(show xi (E 2) 5 = y1 from vi_e fy1)] at f9
  try rw [(show xi (E5 2) 5 = y7 from vi_e fy7)] at f9
  refine lv_iconst (v := 0) hx hb dX10_readTerm_5 (by decide) ?_
  refine lv_istore_n (lv' := [(2, .int 0), (0, .ref (ad 2)), (1, .int a0)]) hx hb dX10_readTerm_6 rfl hl (by decide) rfl (fun ls hl => ?_)
  have hL7 : ∀ d : Nat, ∀ (w7_2_5 : Int32) (v7_2 : Int32) (E7_ : Nat → va_E) (H : Heap) (locs : List Loc) (ls : Array Slot), 0 ≤ w7_2_5.toInt ∧ w7_2_5.toInt ≤ 200 → 0 ≤ v7_2.toInt ∧ v7_2.toInt ≤ 200 → y1.toInt ≤ w7_2_5.toInt → Lp (fun t m a => termS false t m n a) (fun t m => opL t m isMul jb ((fun t m => atomS false t m n) t m)) v7_2.toInt E E7_ → 200 - v7_2.toInt < (d : Int) → IXL cT (shC cf) (spC cf) (LC cf) ad E7_ → Kp w_readTermX E E7_ → xv (E7_ 2) 5 = .int w7_2_5 → va_P (dC, dI) vwCl (WL (LC cf) ad E7_) H → va_S A s.heap H locs → lv_has ls 4 [(2, .int v7_2), (0, .ref (ad 2)), (1, .int a0)] → W p l e (headSpec v_readTermX (rm_readTermX n)).room s m args below meth c H locs 0 0 Q (F0 m 7 ls []) := by
    intro d
    induction d with
    | zero =>
      intro w7_2_5 v7_2 E7_ H locs ls hw7_2_5 hv7_2 hx7_0 hx7_1 hx7_2 hI hKp hs7_2_5 hP hS hl
      exact absurd hx7_2 (by first | exact ms_zu hv7_2.2 | omega)
    | succ d ih7 =>
      intro w7_2_5 v7_2 E7_ H locs ls hw7_2_5 hv7_2 hx7_0 hx7_1 hx7_2 hI hKp hs7_2_5 hP hS hl
      refine lv_iload_n hx hb dX10_readTerm_7 rfl (lv_at hl 0 rfl) ?_
      refine lv_sipush (v := 200) hx hb dX10_readTerm_8 (by decide) ?_
      refine lv_icmp_ge (tgt := 65) hx hb dX10_readTerm_11 (by decide) (fun c11 => ?_) (fun c11 => ?_)
      · --11 taken
        have t12 : (200 : Int) ≤ v7_2.toInt := ti_le c11
        have i13 : 200 ≤ v7_2.toInt ∧ v7_2.toInt ≤ 200 := iv_le_r t12 (il_ 200) hv7_2 (by decide)
        rw [hQ]
        exact W.vret hx hb hr (fun t ht hW => ⟨⟨E7_, rfl, ⟨hI, hKp, ⟨by (try rw [(show xi (E7_ 2) 5 = w7_2_5 from vi_e hs7_2_5)]); (try rw [ey1]); all_goals omega, Lp.fin (op := isMul) hx7_1 (by have kl := tN_e (E := E) (by omega); omega) rfl (fun t m a c h => opL_0 h)⟩⟩, by show va_P (dC, dI) vwCl (WL (LC cf) ad E7_) t.heap; rw [ht]; exact hP⟩, hS.F ht⟩) hS.2.2 dX10_readTerm_65
      · --11 not
        have t14 : v7_2.toInt < 200 := ti_nle c11
        have i15 : 0 ≤ v7_2.toInt ∧ v7_2.toInt ≤ 199 := iv_lt_l t14 hv7_2 (il_ 200) (by decide)
        obtain ⟨qs16, vs17, hRqs16, hSSqs16⟩ := hEV.2.1.2.2.2.2.1
        refine va_ldcS hx hb hown hRqs16 dX10_readTerm_14 ?_
        refine lv_aload_n hx hb dX10_readTerm_16 rfl (lv_at hl 1 rfl) ?_
        refine th_iL (va_runV (As := []) (rest := [.ref qs16]) ⟨hx, hb, hml, hown, hts⟩ (q_nextX l dC dI cT cf hC ad E7_ H.size hI) (cwV 0 hts (gi_V (in_8 _ (zs16 (zs4 (zs4 (zs1 (zs1 (zs1 (zs0)))))))) (in_8 _ (zs16 (zs4 (zs4 (zs4 (zs0)))))) (in_8 _ (zs16 (zs4 (zs4 (zs4 (zs1 (zs0))))))) (in_8 _ (zs4 (zs4 (zs4 (zs1 (zs1 (zs0))))))) (in_8 _ (zs16 (zs1 (zs1 (zs1 (zs0))))))) rfl rfl rfl ⟨rfl, hz_yX10_next_0⟩ ⟨(show 0 + 1 ≤ 7 * n + 8 from nl_1 (Nat.le_of_ble_eq_true rfl)), (show 8 + (1 + 11) + 40 * (0) ≤ 40 * (7 * n + 8) from nl_2 (Nat.le_of_ble_eq_true rfl))⟩) ⟨HWL_bl, va_recv hK hP (ci := 11) (q0 := posL 2 (LC cf)) rfl (hI.ob 2 (mF 2 rfl) rfl), (HWL_wi hP hK (WL_D hD) hS hA hEV)⟩ rfl rfl hl.1 rfl (lv_room (Nat.le_of_ble_eq_true rfl)) dX10_readTerm_17 ⟨Nat.le_of_ble_eq_true rfl, Nat.le_of_ble_eq_true rfl⟩) (WL_D hD) hS hA (fun r18 E19 H locs hw hP hS => ?_)
        obtain ⟨hI, kq20, hw⟩ := hw
        have hKb := hKp
        have hKp := hKp.tr kq20 (wl_sub rfl rfl)
        obtain ⟨y21, ey21⟩ : ∃ y, xi (E19 2) 2 = y := ⟨_, rfl⟩
        have fy21 : xv (E19 2) 2 = .int y21 := (hI.fi 2 (mF 2 rfl) rfl (Nat.le_of_ble_eq_true rfl) rfl).trans (congrArg Value.int ey21)
        have i22 : 0 ≤ y21.toInt ∧ y21.toInt ≤ 200 := by rw [← ey21]; exact hI.iv 2 (mF 2 rfl) rfl (Nat.le_of_ble_eq_true rfl) rfl
        obtain ⟨f23, f24, f25⟩ := hw
        try rw [hKb.ei 2 1 rfl] at f24
        try rw [(show xi (E19 2) 2 = y21 from vi_e fy21)] at f24
        refine th_pi (va_runSN (As := [.ref qs16, .int r18]) (rest := []) ⟨hx, hb, hml, hown, hts⟩ (q_isOneOfX l qs16 vs17 tMUL r18 (by decide) (by decide) f23) ⟨va_cnB 2 hts (gi_0 (in_8 _ (zs16 (zs4 (zs4 (zs4 (zs1 (zs1 (zs1 (zs0)))))))))) rfl rfl rfl (hEV.1.1 _ (List.mem_of_getElem? (i := 12) rfl)) (hts _ (vA_in _ _ (in_4 _ (zs16 (zs4 (zs1 (zs1 (zs1 (zs0))))))))) hz_yX12_isOneOf_2 ⟨(show 4 + 1 ≤ 7 * n + 8 from nl_1 (Nat.le_of_ble_eq_true rfl)), (show 8 + (2 + 11) + 40 * (4) ≤ 40 * (7 * n + 8) from nl_2 (Nat.le_of_ble_eq_true rfl))⟩, (hts _ (vA_in _ _ (in_8 _ (zs16 (zs4 (zs4 (zs4 (zs1 (zs1 (zs0)))))))))), trivial⟩ ⟨fun a U g mk q => ⟨q.1, SS_c q.2⟩, fun U hU hW => ⟨rfl, SS_w hU hW hS (fun _ h => h.elim) hSSqs16⟩⟩ rfl rfl hl.1 rfl (lv_room (Nat.le_of_ble_eq_true rfl)) dX10_readTerm_20 ⟨Nat.le_of_ble_eq_true rfl, Nat.le_of_ble_eq_true rfl⟩) hS (fun r26 H1 locs1 hw hk1 hS => ?_)
        have hP := ub_keep hP hk1
        generalize H1 = H at hP hS ⊢
        generalize locs1 = locs at hS ⊢
        rcases hw with hw | hw
        · -- isOneOfX, case 0
          obtain ⟨rfl, f27⟩ := hw
          refine lv_if_eq (tgt := 65) hx hb dX10_readTerm_23 (by decide) (fun c28 => ?_) (fun c28 => ?_)
          · --23 taken
            exact absurd c28 (by decide)
          · --23 not
            refine lv_aload_n hx hb dX10_readTerm_26 rfl (lv_at hl 1 rfl) ?_
            refine th_getL (ci := 11) (C := RX10) (T := TX10) (N := 10) (v := .ref (ad 21)) hx hb hts hinX10 hown hK hP hI 2 (mF 2 rfl) rfl rfl 0 (Nat.le_of_ble_eq_true rfl) (hts _ (vA_in _ _ (in_8 _ (zs16 (zs1 (zs0)))))) (fun _ h9 => h9) (hI.fr 2 (mF 2 rfl) rfl (Nat.le_of_ble_eq_true rfl) 21 rfl) dX10_readTerm_27 ?_
            refine lv_aload_n hx hb dX10_readTerm_30 rfl (lv_at hl 1 rfl) ?_
            refine th_getL (ci := 11) (C := RX10) (T := TX10) (N := 10) (v := .int y21) hx hb hts hinX10 hown hK hP hI 2 (mF 2 rfl) rfl rfl 2 (Nat.le_of_ble_eq_true rfl) (hts _ (vA_in _ _ (in_8 _ (zs4 (zs4 (zs1 (zs0))))))) (fun _ h9 => h9) fy21 dX10_readTerm_31 ?_
            have n30 : vp_in y21 200 := (vp_in_iff.mpr ⟨by omega, by omega⟩)
            refine th_ialdL hx hb hK hP hI 21 (mF 21 rfl) rfl rfl n30 dX10_readTerm_34 (fun y29 ey29 => ?_)
            have iy29 : 0 ≤ y29.toInt ∧ y29.toInt ≤ 255 := hI.el 21 (mF 21 rfl) rfl n30 (fun _ => rfl) ey29
            have ey29 := ey29.trans (hKp.ei 21 _ rfl)
            refine lv_istore_n (lv' := [(3, .int y29), (2, .int v7_2), (0, .ref (ad 2)), (1, .int a0)]) hx hb dX10_readTerm_35 rfl hl (by decide) rfl (fun ls hl => ?_)
            refine lv_aload_n hx hb dX10_readTerm_36 rfl (lv_at hl 2 rfl) ?_
            refine lv_dup hx hb dX10_readTerm_37 rfl ?_
            refine th_getL (ci := 11) (C := RX10) (T := TX10) (N := 10) (v := .int y21) hx hb hts hinX10 hown hK hP hI 2 (mF 2 rfl) rfl rfl 2 (Nat.le_of_ble_eq_true rfl) (hts _ (vA_in _ _ (in_8 _ (zs4 (zs4 (zs1 (zs0))))))) (fun _ h9 => h9) fy21 dX10_readTerm_38 ?_
            refine lv_iconst (v := 1) hx hb dX10_readTerm_41 (by decide) ?_
            refine lv_iadd hx hb dX10_readTerm_42 ?_
            refine lv_topi (fun y31 ey31 => ?_)
            obtain ⟨ty31, iy31⟩ := ti_add (e := 1) (f := 201) i22 ln_1 ey31 (by decide)
            have ty31 : y31.toInt = y21.toInt + 1 := ty31
            have iy31 : 1 ≤ y31.toInt ∧ y31.toInt ≤ 201 := iy31
            have i32 : 1 ≤ y31.toInt ∧ y31.toInt ≤ 200 := by omega
            refine th_putL (ci := 11) (C := RX10) (T := TX10) (N := 10) (v := .int y31) (ty := .int) hx hb hts hinX10 tyX10 tyX10_ok nmX10 hown hK hP (WL_D hD) hS hI 2 (mF 2 rfl) rfl rfl 2 (Nat.le_of_ble_eq_true rfl) (hts _ (vA_in _ _ (in_8 _ (zs4 (zs4 (zs1 (zs0))))))) (fun _ h9 => h9) rfl (by decide +kernel) rfl rfl (okI rfl (iv_w i32 (by decide))) dX10_readTerm_43 (fun H locs E33 pw34 hI hP hS => ?_)
            have hKp := hKp.pw pw34 rfl
            have k35 : AtP E19 E33 := AtP.pw pw34.2 (vi_e fy21) (vi_e pw34.1) ty31 (by omega)
            refine lv_aload_n hx hb dX10_readTerm_46 rfl (lv_at hl 2 rfl) ?_
            refine lv_iload_n hx hb dX10_readTerm_47 rfl (lv_at hl 3 rfl) ?_
            refine th_vL (va_runV (As := [.int a0]) (rest := []) ⟨hx, hb, hml, hown, hts⟩ (gA dC dI cT cf hC ad E33 H.size a0 hI hh0 (by omega)) (cwV 1 hts (gi_V (in_9 _ (zs16 (zs4 (zs4 (zs1 (zs0)))))) (in_9 _ (zs16 (zs4 (zs4 (zs1 (zs1 (zs0))))))) (in_9 _ (zs16 (zs4 (zs4 (zs1 (zs1 (zs1 (zs0)))))))) (in_8 _ (zs4 (zs4 (zs4 (zs1 (zs1 (zs0))))))) (in_9 _ (zs4 (zs4 (zs1 (zs1 (zs0))))))) rfl rfl rfl (by decide +kernel) ⟨(show 7 * n + 7 + 1 ≤ 7 * n + 8 from nl_4 (Nat.le_of_ble_eq_true rfl) (Nat.le_of_ble_eq_true rfl)), (show 8 + (3 + 11) + 40 * (7 * n + 7) ≤ 40 * (7 * n + 8) from nl_3 (Nat.le_of_ble_eq_true rfl) (Nat.le_of_ble_eq_true rfl))⟩) ⟨HWL_bl, va_recv hK hP (ci := 11) (q0 := posL 2 (LC cf)) rfl (hI.ob 2 (mF 2 rfl) rfl), (HWL_wi hP hK (WL_D hD) hS hA hEV)⟩ rfl rfl hl.1 rfl (lv_room (Nat.le_of_ble_eq_true rfl)) dX10_readTerm_48 ⟨Nat.le_of_ble_eq_true rfl, Nat.le_of_ble_eq_true rfl⟩) (WL_D hD) hS hA (fun E37 H locs hw hP hS => ?_)
            obtain ⟨hI, kq38, hw⟩ := hw
            have hKb := hKp
            have hKp := hKp.tr kq38 (wl_sub rfl rfl)
            obtain ⟨y39, ey39⟩ : ∃ y, xi (E37 2) 5 = y := ⟨_, rfl⟩
            have fy39 : xv (E37 2) 5 = .int y39 := (hI.fi 2 (mF 2 rfl) rfl (Nat.le_of_ble_eq_true rfl) rfl).trans (congrArg Value.int ey39)
            have i40 : 0 ≤ y39.toInt ∧ y39.toInt ≤ 200 := by rw [← ey39]; exact hI.iv 2 (mF 2 rfl) rfl (Nat.le_of_ble_eq_true rfl) rfl
            obtain ⟨f41, f42⟩ := hw
            try rw [(show xi (E33 2) 5 = w7_2_5 from vi_e ((pw34.2 2 5 (fun q9 => absurd q9.2 (Nat.ne_of_beq_eq_false rfl))).trans ((kq20 2 5 rfl).trans hs7_2_5)))] at f41
            try rw [(show xi (E37 2) 5 = y39 from vi_e fy39)] at f41
            refine lv_aload_n hx hb dX10_readTerm_51 rfl (lv_at hl 2 rfl) ?_
            refine lv_iload_n hx hb dX10_readTerm_52 rfl (lv_at hl 0 rfl) ?_
            refine th_pi (va_runS (As := [.int y29]) (rest := [.ref (ad 2)]) ⟨hx, hb, hml, hown, hts⟩ (q_casSign l y29 iy29) (va_cwS 1 hts (gi_S (in_9 _ (zs4 (zs1 (zs1 (zs0))))) (in_7 _ (zs4 (zs4 (zs4 (zs1 (zs0)))))) (in_7 _ (zs1 (zs1 (zs0)))) (in_7 _ (zs4 (zs4 (zs4 (zs1 (zs1 (zs0)))))))) rfl rfl rfl hz_yX7_asSign_1 ⟨(show 0 + 1 ≤ 7 * n + 8 from nl_1 (Nat.le_of_ble_eq_true rfl)), (show 8 + (1 + 11) + 40 * (0) ≤ 40 * (7 * n + 8) from nl_2 (Nat.le_of_ble_eq_true rfl))⟩) ⟨fun _ _ _ _ q => q, fun _ _ _ => ⟨rfl, trivial⟩⟩ rfl rfl hl.1 rfl (lv_room (Nat.le_of_ble_eq_true rfl)) dX10_readTerm_53 ⟨Nat.le_of_ble_eq_true rfl, Nat.le_of_ble_eq_true rfl⟩) hS (fun r43 H1 locs1 hw hk1 hS => ?_)
            have hP := ub_keep hP hk1
            generalize H1 = H at hP hS ⊢
            generalize locs1 = locs at hS ⊢
            obtain ⟨f44, f45⟩ := hw
            refine th_vL (va_runV (As := [.int r43]) (rest := []) ⟨hx, hb, hml, hown, hts⟩ (q_addX l dC dI cT cf hC ad E37 H.size r43 hI) (cwV 1 hts (gi_V (in_9 _ (zs4 (zs1 (zs1 (zs1 (zs0)))))) (in_9 _ (zs4 (zs4 (zs0)))) (in_9 _ (zs4 (zs4 (zs1 (zs0))))) (in_8 _ (zs4 (zs4 (zs4 (zs1 (zs1 (zs0))))))) (in_7 _ (zs16 (zs4 (zs4 (zs4 (zs1 (zs0)))))))) rfl rfl rfl ⟨rfl, hz_yX10_add_1⟩ ⟨(show 0 + 1 ≤ 7 * n + 8 from nl_1 (Nat.le_of_ble_eq_true rfl)), (show 8 + (2 + 11) + 40 * (0) ≤ 40 * (7 * n + 8) from nl_2 (Nat.le_of_ble_eq_true rfl))⟩) ⟨HWL_bl, va_recv hK hP (ci := 11) (q0 := posL 2 (LC cf)) rfl (hI.ob 2 (mF 2 rfl) rfl), (HWL_wi hP hK (WL_D hD) hS hA hEV)⟩ rfl rfl hl.1 rfl (lv_room (Nat.le_of_ble_eq_true rfl)) dX10_readTerm_56 ⟨Nat.le_of_ble_eq_true rfl, Nat.le_of_ble_eq_true rfl⟩) (WL_D hD) hS hA (fun E47 H locs hw hP hS => ?_)
            obtain ⟨hI, kq48, hw⟩ := hw
            have hKb := hKp
            have hKp := hKp.tr kq48 (wl_sub rfl rfl)
            obtain ⟨y49, ey49⟩ : ∃ y, xi (E47 2) 5 = y := ⟨_, rfl⟩
            have fy49 : xv (E47 2) 5 = .int y49 := (hI.fi 2 (mF 2 rfl) rfl (Nat.le_of_ble_eq_true rfl) rfl).trans (congrArg Value.int ey49)
            have i50 : 0 ≤ y49.toInt ∧ y49.toInt ≤ 200 := by rw [← ey49]; exact hI.iv 2 (mF 2 rfl) rfl (Nat.le_of_ble_eq_true rfl) rfl
            obtain ⟨f51, f52⟩ := hw
            try rw [(show xi (E37 2) 5 = y39 from vi_e fy39)] at f51
            try rw [(show xi (E47 2) 5 = y49 from vi_e fy49)] at f51
            obtain ⟨y53, ey53⟩ : ∃ y : Int32, y = v7_2 + (1 : Int32) := ⟨_, rfl⟩
            obtain ⟨ty53, iy53⟩ := ti_add (e := 1) (f := 200) i15 ln_1 ey53 (by decide)
            have ty53 : y53.toInt = v7_2.toInt + 1 := ty53
            have iy53 : 1 ≤ y53.toInt ∧ y53.toInt ≤ 200 := iy53
            refine lv_iinc (v := y53) (lv' := [(2, .int y53), (3, .int y29), (0, .ref (ad 2)), (1, .int a0)]) hx hb dX10_readTerm_59 hl (k := 1) rfl (by rw [ey53]; rfl) (by decide) rfl (fun ls hl => ?_)
            refine lv_goto (tgt := 7) hx hb dX10_readTerm_62 (by decide) ?_
            exact ih7 y49 y53 E47 _ _ _ i50 (iv_w iy53 (by decide)) (by have h9 := i50; omega) (Lp.step (op := isMul) (cb := jb) hx7_1 f25 (ix_mul.mp f27.2) (by omega) k35 f42 f52 ty53 (fun t m => atomS_mono false t m n) (fun t m a c h => opL_1 (atomS_mono false t m n) rfl h)) (by first | exact ms_su hx7_2 ty53 (by decide) | omega) hI hKp fy49 hP hS (lv_sub hl [0, 2, 3] rfl)
        · -- isOneOfX, case 1
          obtain ⟨rfl, f54⟩ := hw
          refine lv_if_eq (tgt := 65) hx hb dX10_readTerm_23 (by decide) (fun c55 => ?_) (fun c55 => ?_)
          · --23 taken
            rw [hQ]
            exact W.vret hx hb hr (fun t ht hW => ⟨⟨E19, rfl, ⟨hI, hKp, ⟨by (try rw [(show xi (E19 2) 5 = w7_2_5 from vi_e ((kq20 2 5 rfl).trans hs7_2_5))]); (try rw [ey1]); all_goals omega, Lp.exit (op := isMul) hx7_1 f25 (no_mul f54) (fun t m a c h => opL_0 h)⟩⟩, by show va_P (dC, dI) vwCl (WL (LC cf) ad E19) t.heap; rw [ht]; exact hP⟩, hS.F ht⟩) hS.2.2 dX10_readTerm_65
          · --23 not
            exact absurd c55 (by decide)
  exact hL7 (201) y7 (0 : Int32) E5 _ _ _ i8 (iv_w ln_0 (by decide)) (by have h9 := i8; omega) (Lp.start f10 lpT (by decide)) (by have h9 := ln_0; first | exact ms_bu h9.1 (by decide) | omega) hI hKp fy7 hP hS (lv_sub hl [0, 1, 2] rfl)
set_option maxHeartbeats 4000000 in
set_option maxRecDepth 100000 in
theorem q_readSumX (l : Launch) (n : Nat) (gT : C_readTermX l n) : C_readSumX l n := by
  intro dC dI cT cf hC ad E sz a0 hI0 hh0 hh1
  obtain ⟨⟨hc0, hc1, hc2, hc3, hc4, hc5⟩, hcr⟩ := id hC
  refine Met.ofW (cc := cX10_readSum) (maxL := 4) (ret := none) (by decide) rfl ?_
  intro p e s m args below meth c s₁ B hml hv
  obtain ⟨hargs, hsz, hP, hK, hD0, hEV⟩ := hv
  subst hsz
  have hx := B.exec
  have hb := B.bytes
  have hr := B.returns
  have hts := atoms_spec (ws := v_readSumX) B.pre
  have hown : s.vm.findClass RX10 = some m.cls := findClass_of_methodNamed B.named
  have hlocks := B.notSynchronized
  have hinX10 : ∀ w ∈ u_ws RX10 TX10 10, w ∈ v_readSumX := fun w h => vA_in _ w (in_X10 w h)
  generalize hAe : va_A (WL (LC cf) ad E) s.heap.size = A at hEV ⊢
  have hA : ∀ q : Nat, s.heap.size ≤ q → A q := fun q h => by rw [← hAe]; exact Or.inr h
  have hD : va_D A (WL (LC cf) ad E) := by rw [← hAe]; exact hD0.self
  have hS : va_S A s.heap s.heap [] := va_S.rf
  have hI := hI0
  have hKp : Kp w_readSumX E E := Kp.rf
  have hl := lv_entry ([.ref (ad 2), .int a0]) (n := 4) (Nat.le_of_ble_eq_true rfl)
  obtain ⟨Q, hQ⟩ : ∃ Q, Q = MQ below (va_Qv (S := Nat → va_E) (fun u => IXL cT (shC cf) (spC cf) (LC cf) ad u ∧ Kp w_readSumX E u ∧ (((xi (E 2) 5).toInt ≤ (xi (u 2) 5).toInt) ∧ (RdC (fun t m a => sumS false t m n a) E u))) (HBL dC dI (LC cf) ad) (A)) args s 0 0 (A) := ⟨_, rfl⟩
  rw [← hQ, show entryFrame m args 4 = _ from (congrArg (fun z => entryFrame m z 4) hargs).trans (lg_entry_eq _ _ _)]
  generalize (lg_sl ([.ref (ad 2), .int a0]) ++ List.replicate (4 - (lg_sl ([.ref (ad 2), .int a0])).length) Slot.unset).toArray = ls at hl ⊢
  have hl : lv_has ls 4 [(0, .ref (ad 2)), (1, .int a0)] := hl
  obtain ⟨y1, ey1⟩ : ∃ y, xi (E 2) 5 = y := ⟨_, rfl⟩
  have fy1 : xv (E 2) 5 = .int y1 := (hI.fi 2 (mF 2 rfl) rfl (Nat.le_of_ble_eq_true rfl) rfl).trans (congrArg Value.int ey1)
  have i2 : 0 ≤ y1.toInt ∧ y1.toInt ≤ 200 := by rw [← ey1]; exact hI.iv 2 (mF 2 rfl) rfl (Nat.le_of_ble_eq_true rfl) rfl
  have i3 : 0 ≤ (xi (E 2) 1).toInt ∧ (xi (E 2) 1).toInt ≤ 200 := hI0.iv 2 (mF 2 rfl) rfl (Nat.le_of_ble_eq_true rfl) rfl
  refine lv_aload_n hx hb dX10_readSum_0 rfl (lv_at hl 0 rfl) ?_
  refine lv_iload_n hx hb dX10_readSum_1 rfl (lv_at hl 1 rfl) ?_
  refine th_vL (va_runV (As := [.int a0]) (rest := []) ⟨hx, hb, hml, hown, hts⟩ (gT dC dI cT cf hC ad E s.heap.size a0 hI hh0 (by omega)) (cwV 1 hts (gi_V (in_9 _ (zs1 (zs1 (zs1 (zs0))))) (in_9 _ (zs4 (zs0))) (in_9 _ (zs4 (zs1 (zs0)))) (in_8 _ (zs4 (zs4 (zs4 (zs1 (zs1 (zs0))))))) (in_9 _ (zs16 (zs4 (zs4 (zs0)))))) rfl rfl rfl (by decide +kernel) ⟨(show 7 * n + 8 + 1 ≤ 7 * n + 9 from nl_4 (Nat.le_of_ble_eq_true rfl) (Nat.le_of_ble_eq_true rfl)), (show 8 + (4 + 11) + 40 * (7 * n + 8) ≤ 40 * (7 * n + 9) from nl_3 (Nat.le_of_ble_eq_true rfl) (Nat.le_of_ble_eq_true rfl))⟩) ⟨HWL_bl, va_recv hK hP (ci := 11) (q0 := posL 2 (LC cf)) rfl (hI.ob 2 (mF 2 rfl) rfl), (HWL_wi hP hK (WL_D hD) hS hA hEV)⟩ rfl rfl hl.1 rfl (lv_room (Nat.le_of_ble_eq_true rfl)) dX10_readSum_2 ⟨Nat.le_of_ble_eq_true rfl, Nat.le_of_ble_eq_true rfl⟩) (WL_D hD) hS hA (fun E5 H locs hw hP hS => ?_)
  obtain ⟨hI, kq6, hw⟩ := hw
  have hKb := hKp
  have hKp := hKp.tr kq6 (wl_sub rfl rfl)
  obtain ⟨y7, ey7⟩ : ∃ y, xi (E5 2) 5 = y := ⟨_, rfl⟩
  have fy7 : xv (E5 2) 5 = .int y7 := (hI.fi 2 (mF 2 rfl) rfl (Nat.le_of_ble_eq_true rfl) rfl).trans (congrArg Value.int ey7)
  have i8 : 0 ≤ y7.toInt ∧ y7.toInt ≤ 200 := by rw [← ey7]; exact hI.iv 2 (mF 2 rfl) rfl (Nat.le_of_ble_eq_true rfl) rfl
  obtain ⟨f9, f10⟩ := hw
  try rw [(show xi (E 2) 5 = y1 from vi_e fy1)] at f9
  try rw [(show xi (E5 2) 5 = y7 from vi_e fy7)] at f9
  refine lv_iconst (v := 0) hx hb dX10_readSum_5 (by decide) ?_
  refine lv_istore_n (lv' := [(2, .int 0), (0, .ref (ad 2)), (1, .int a0)]) hx hb dX10_readSum_6 rfl hl (by decide) rfl (fun ls hl => ?_)
  have hL7 : ∀ d : Nat, ∀ (w7_2_5 : Int32) (v7_2 : Int32) (E7_ : Nat → va_E) (H : Heap) (locs : List Loc) (ls : Array Slot), 0 ≤ w7_2_5.toInt ∧ w7_2_5.toInt ≤ 200 → 0 ≤ v7_2.toInt ∧ v7_2.toInt ≤ 200 → y1.toInt ≤ w7_2_5.toInt → Lp (fun t m a => sumS false t m n a) (fun t m => opL t m isAdd jb ((fun t m => termS false t m n) t m)) v7_2.toInt E E7_ → 200 - v7_2.toInt < (d : Int) → IXL cT (shC cf) (spC cf) (LC cf) ad E7_ → Kp w_readSumX E E7_ → xv (E7_ 2) 5 = .int w7_2_5 → va_P (dC, dI) vwCl (WL (LC cf) ad E7_) H → va_S A s.heap H locs → lv_has ls 4 [(2, .int v7_2), (0, .ref (ad 2)), (1, .int a0)] → W p l e (headSpec v_readSumX (rm_readSumX n)).room s m args below meth c H locs 0 0 Q (F0 m 7 ls []) := by
    intro d
    induction d with
    | zero =>
      intro w7_2_5 v7_2 E7_ H locs ls hw7_2_5 hv7_2 hx7_0 hx7_1 hx7_2 hI hKp hs7_2_5 hP hS hl
      exact absurd hx7_2 (by first | exact ms_zu hv7_2.2 | omega)
    | succ d ih7 =>
      intro w7_2_5 v7_2 E7_ H locs ls hw7_2_5 hv7_2 hx7_0 hx7_1 hx7_2 hI hKp hs7_2_5 hP hS hl
      refine lv_iload_n hx hb dX10_readSum_7 rfl (lv_at hl 0 rfl) ?_
      refine lv_sipush (v := 200) hx hb dX10_readSum_8 (by decide) ?_
      refine lv_icmp_ge (tgt := 65) hx hb dX10_readSum_11 (by decide) (fun c11 => ?_) (fun c11 => ?_)
      · --11 taken
        have t12 : (200 : Int) ≤ v7_2.toInt := ti_le c11
        have i13 : 200 ≤ v7_2.toInt ∧ v7_2.toInt ≤ 200 := iv_le_r t12 (il_ 200) hv7_2 (by decide)
        rw [hQ]
        exact W.vret hx hb hr (fun t ht hW => ⟨⟨E7_, rfl, ⟨hI, hKp, ⟨by (try rw [(show xi (E7_ 2) 5 = w7_2_5 from vi_e hs7_2_5)]); (try rw [ey1]); all_goals omega, Lp.fin (op := isAdd) hx7_1 (by have kl := tN_e (E := E) (by omega); omega) rfl (fun t m a c h => opL_0 h)⟩⟩, by show va_P (dC, dI) vwCl (WL (LC cf) ad E7_) t.heap; rw [ht]; exact hP⟩, hS.F ht⟩) hS.2.2 dX10_readSum_65
      · --11 not
        have t14 : v7_2.toInt < 200 := ti_nle c11
        have i15 : 0 ≤ v7_2.toInt ∧ v7_2.toInt ≤ 199 := iv_lt_l t14 hv7_2 (il_ 200) (by decide)
        obtain ⟨qs16, vs17, hRqs16, hSSqs16⟩ := hEV.2.1.2.2.2.1
        refine va_ldcS hx hb hown hRqs16 dX10_readSum_14 ?_
        refine lv_aload_n hx hb dX10_readSum_16 rfl (lv_at hl 1 rfl) ?_
        refine th_iL (va_runV (As := []) (rest := [.ref qs16]) ⟨hx, hb, hml, hown, hts⟩ (q_nextX l dC dI cT cf hC ad E7_ H.size hI) (cwV 0 hts (gi_V (in_8 _ (zs16 (zs4 (zs4 (zs1 (zs1 (zs1 (zs0)))))))) (in_8 _ (zs16 (zs4 (zs4 (zs4 (zs0)))))) (in_8 _ (zs16 (zs4 (zs4 (zs4 (zs1 (zs0))))))) (in_8 _ (zs4 (zs4 (zs4 (zs1 (zs1 (zs0))))))) (in_8 _ (zs16 (zs1 (zs1 (zs1 (zs0))))))) rfl rfl rfl ⟨rfl, hz_yX10_next_0⟩ ⟨(show 0 + 1 ≤ 7 * n + 9 from nl_1 (Nat.le_of_ble_eq_true rfl)), (show 8 + (1 + 11) + 40 * (0) ≤ 40 * (7 * n + 9) from nl_2 (Nat.le_of_ble_eq_true rfl))⟩) ⟨HWL_bl, va_recv hK hP (ci := 11) (q0 := posL 2 (LC cf)) rfl (hI.ob 2 (mF 2 rfl) rfl), (HWL_wi hP hK (WL_D hD) hS hA hEV)⟩ rfl rfl hl.1 rfl (lv_room (Nat.le_of_ble_eq_true rfl)) dX10_readSum_17 ⟨Nat.le_of_ble_eq_true rfl, Nat.le_of_ble_eq_true rfl⟩) (WL_D hD) hS hA (fun r18 E19 H locs hw hP hS => ?_)
        obtain ⟨hI, kq20, hw⟩ := hw
        have hKb := hKp
        have hKp := hKp.tr kq20 (wl_sub rfl rfl)
        obtain ⟨y21, ey21⟩ : ∃ y, xi (E19 2) 2 = y := ⟨_, rfl⟩
        have fy21 : xv (E19 2) 2 = .int y21 := (hI.fi 2 (mF 2 rfl) rfl (Nat.le_of_ble_eq_true rfl) rfl).trans (congrArg Value.int ey21)
        have i22 : 0 ≤ y21.toInt ∧ y21.toInt ≤ 200 := by rw [← ey21]; exact hI.iv 2 (mF 2 rfl) rfl (Nat.le_of_ble_eq_true rfl) rfl
        obtain ⟨f23, f24, f25⟩ := hw
        try rw [hKb.ei 2 1 rfl] at f24
        try rw [(show xi (E19 2) 2 = y21 from vi_e fy21)] at f24
        refine th_pi (va_runSN (As := [.ref qs16, .int r18]) (rest := []) ⟨hx, hb, hml, hown, hts⟩ (q_isOneOfX l qs16 vs17 tADD r18 (by decide) (by decide) f23) ⟨va_cnB 2 hts (gi_0 (in_8 _ (zs16 (zs4 (zs4 (zs4 (zs1 (zs1 (zs1 (zs0)))))))))) rfl rfl rfl (hEV.1.1 _ (List.mem_of_getElem? (i := 12) rfl)) (hts _ (vA_in _ _ (in_4 _ (zs16 (zs4 (zs1 (zs1 (zs1 (zs0))))))))) hz_yX12_isOneOf_2 ⟨(show 4 + 1 ≤ 7 * n + 9 from nl_1 (Nat.le_of_ble_eq_true rfl)), (show 8 + (2 + 11) + 40 * (4) ≤ 40 * (7 * n + 9) from nl_2 (Nat.le_of_ble_eq_true rfl))⟩, (hts _ (vA_in _ _ (in_8 _ (zs16 (zs4 (zs4 (zs4 (zs1 (zs1 (zs0)))))))))), trivial⟩ ⟨fun a U g mk q => ⟨q.1, SS_c q.2⟩, fun U hU hW => ⟨rfl, SS_w hU hW hS (fun _ h => h.elim) hSSqs16⟩⟩ rfl rfl hl.1 rfl (lv_room (Nat.le_of_ble_eq_true rfl)) dX10_readSum_20 ⟨Nat.le_of_ble_eq_true rfl, Nat.le_of_ble_eq_true rfl⟩) hS (fun r26 H1 locs1 hw hk1 hS => ?_)
        have hP := ub_keep hP hk1
        generalize H1 = H at hP hS ⊢
        generalize locs1 = locs at hS ⊢
        rcases hw with hw | hw
        · -- isOneOfX, case 0
          obtain ⟨rfl, f27⟩ := hw
          refine lv_if_eq (tgt := 65) hx hb dX10_readSum_23 (by decide) (fun c28 => ?_) (fun c28 => ?_)
          · --23 taken
            exact absurd c28 (by decide)
          · --23 not
            refine lv_aload_n hx hb dX10_readSum_26 rfl (lv_at hl 1 rfl) ?_
            refine th_getL (ci := 11) (C := RX10) (T := TX10) (N := 10) (v := .ref (ad 21)) hx hb hts hinX10 hown hK hP hI 2 (mF 2 rfl) rfl rfl 0 (Nat.le_of_ble_eq_true rfl) (hts _ (vA_in _ _ (in_8 _ (zs16 (zs1 (zs0)))))) (fun _ h9 => h9) (hI.fr 2 (mF 2 rfl) rfl (Nat.le_of_ble_eq_true rfl) 21 rfl) dX10_readSum_27 ?_
            refine lv_aload_n hx hb dX10_readSum_30 rfl (lv_at hl 1 rfl) ?_
            refine th_getL (ci := 11) (C := RX10) (T := TX10) (N := 10) (v := .int y21) hx hb hts hinX10 hown hK hP hI 2 (mF 2 rfl) rfl rfl 2 (Nat.le_of_ble_eq_true rfl) (hts _ (vA_in _ _ (in_8 _ (zs4 (zs4 (zs1 (zs0))))))) (fun _ h9 => h9) fy21 dX10_readSum_31 ?_
            have n30 : vp_in y21 200 := (vp_in_iff.mpr ⟨by omega, by omega⟩)
            refine th_ialdL hx hb hK hP hI 21 (mF 21 rfl) rfl rfl n30 dX10_readSum_34 (fun y29 ey29 => ?_)
            have iy29 : 0 ≤ y29.toInt ∧ y29.toInt ≤ 255 := hI.el 21 (mF 21 rfl) rfl n30 (fun _ => rfl) ey29
            have ey29 := ey29.trans (hKp.ei 21 _ rfl)
            refine lv_istore_n (lv' := [(3, .int y29), (2, .int v7_2), (0, .ref (ad 2)), (1, .int a0)]) hx hb dX10_readSum_35 rfl hl (by decide) rfl (fun ls hl => ?_)
            refine lv_aload_n hx hb dX10_readSum_36 rfl (lv_at hl 2 rfl) ?_
            refine lv_dup hx hb dX10_readSum_37 rfl ?_
            refine th_getL (ci := 11) (C := RX10) (T := TX10) (N := 10) (v := .int y21) hx hb hts hinX10 hown hK hP hI 2 (mF 2 rfl) rfl rfl 2 (Nat.le_of_ble_eq_true rfl) (hts _ (vA_in _ _ (in_8 _ (zs4 (zs4 (zs1 (zs0))))))) (fun _ h9 => h9) fy21 dX10_readSum_38 ?_
            refine lv_iconst (v := 1) hx hb dX10_readSum_41 (by decide) ?_
            refine lv_iadd hx hb dX10_readSum_42 ?_
            refine lv_topi (fun y31 ey31 => ?_)
            obtain ⟨ty31, iy31⟩ := ti_add (e := 1) (f := 201) i22 ln_1 ey31 (by decide)
            have ty31 : y31.toInt = y21.toInt + 1 := ty31
            have iy31 : 1 ≤ y31.toInt ∧ y31.toInt ≤ 201 := iy31
            have i32 : 1 ≤ y31.toInt ∧ y31.toInt ≤ 200 := by omega
            refine th_putL (ci := 11) (C := RX10) (T := TX10) (N := 10) (v := .int y31) (ty := .int) hx hb hts hinX10 tyX10 tyX10_ok nmX10 hown hK hP (WL_D hD) hS hI 2 (mF 2 rfl) rfl rfl 2 (Nat.le_of_ble_eq_true rfl) (hts _ (vA_in _ _ (in_8 _ (zs4 (zs4 (zs1 (zs0))))))) (fun _ h9 => h9) rfl (by decide +kernel) rfl rfl (okI rfl (iv_w i32 (by decide))) dX10_readSum_43 (fun H locs E33 pw34 hI hP hS => ?_)
            have hKp := hKp.pw pw34 rfl
            have k35 : AtP E19 E33 := AtP.pw pw34.2 (vi_e fy21) (vi_e pw34.1) ty31 (by omega)
            refine lv_aload_n hx hb dX10_readSum_46 rfl (lv_at hl 2 rfl) ?_
            refine lv_iload_n hx hb dX10_readSum_47 rfl (lv_at hl 3 rfl) ?_
            refine th_vL (va_runV (As := [.int a0]) (rest := []) ⟨hx, hb, hml, hown, hts⟩ (gT dC dI cT cf hC ad E33 H.size a0 hI hh0 (by omega)) (cwV 1 hts (gi_V (in_9 _ (zs1 (zs1 (zs1 (zs0))))) (in_9 _ (zs4 (zs0))) (in_9 _ (zs4 (zs1 (zs0)))) (in_8 _ (zs4 (zs4 (zs4 (zs1 (zs1 (zs0))))))) (in_9 _ (zs16 (zs4 (zs4 (zs0)))))) rfl rfl rfl (by decide +kernel) ⟨(show 7 * n + 8 + 1 ≤ 7 * n + 9 from nl_4 (Nat.le_of_ble_eq_true rfl) (Nat.le_of_ble_eq_true rfl)), (show 8 + (4 + 11) + 40 * (7 * n + 8) ≤ 40 * (7 * n + 9) from nl_3 (Nat.le_of_ble_eq_true rfl) (Nat.le_of_ble_eq_true rfl))⟩) ⟨HWL_bl, va_recv hK hP (ci := 11) (q0 := posL 2 (LC cf)) rfl (hI.ob 2 (mF 2 rfl) rfl), (HWL_wi hP hK (WL_D hD) hS hA hEV)⟩ rfl rfl hl.1 rfl (lv_room (Nat.le_of_ble_eq_true rfl)) dX10_readSum_48 ⟨Nat.le_of_ble_eq_true rfl, Nat.le_of_ble_eq_true rfl⟩) (WL_D hD) hS hA (fun E37 H locs hw hP hS => ?_)
            obtain ⟨hI, kq38, hw⟩ := hw
            have hKb := hKp
            have hKp := hKp.tr kq38 (wl_sub rfl rfl)
            obtain ⟨y39, ey39⟩ : ∃ y, xi (E37 2) 5 = y := ⟨_, rfl⟩
            have fy39 : xv (E37 2) 5 = .int y39 := (hI.fi 2 (mF 2 rfl) rfl (Nat.le_of_ble_eq_true rfl) rfl).trans (congrArg Value.int ey39)
            have i40 : 0 ≤ y39.toInt ∧ y39.toInt ≤ 200 := by rw [← ey39]; exact hI.iv 2 (mF 2 rfl) rfl (Nat.le_of_ble_eq_true rfl) rfl
            obtain ⟨f41, f42⟩ := hw
            try rw [(show xi (E33 2) 5 = w7_2_5 from vi_e ((pw34.2 2 5 (fun q9 => absurd q9.2 (Nat.ne_of_beq_eq_false rfl))).trans ((kq20 2 5 rfl).trans hs7_2_5)))] at f41
            try rw [(show xi (E37 2) 5 = y39 from vi_e fy39)] at f41
            refine lv_aload_n hx hb dX10_readSum_51 rfl (lv_at hl 2 rfl) ?_
            refine lv_iload_n hx hb dX10_readSum_52 rfl (lv_at hl 0 rfl) ?_
            refine th_pi (va_runS (As := [.int y29]) (rest := [.ref (ad 2)]) ⟨hx, hb, hml, hown, hts⟩ (q_casSign l y29 iy29) (va_cwS 1 hts (gi_S (in_9 _ (zs4 (zs1 (zs1 (zs0))))) (in_7 _ (zs4 (zs4 (zs4 (zs1 (zs0)))))) (in_7 _ (zs1 (zs1 (zs0)))) (in_7 _ (zs4 (zs4 (zs4 (zs1 (zs1 (zs0)))))))) rfl rfl rfl hz_yX7_asSign_1 ⟨(show 0 + 1 ≤ 7 * n + 9 from nl_1 (Nat.le_of_ble_eq_true rfl)), (show 8 + (1 + 11) + 40 * (0) ≤ 40 * (7 * n + 9) from nl_2 (Nat.le_of_ble_eq_true rfl))⟩) ⟨fun _ _ _ _ q => q, fun _ _ _ => ⟨rfl, trivial⟩⟩ rfl rfl hl.1 rfl (lv_room (Nat.le_of_ble_eq_true rfl)) dX10_readSum_53 ⟨Nat.le_of_ble_eq_true rfl, Nat.le_of_ble_eq_true rfl⟩) hS (fun r43 H1 locs1 hw hk1 hS => ?_)
            have hP := ub_keep hP hk1
            generalize H1 = H at hP hS ⊢
            generalize locs1 = locs at hS ⊢
            obtain ⟨f44, f45⟩ := hw
            refine th_vL (va_runV (As := [.int r43]) (rest := []) ⟨hx, hb, hml, hown, hts⟩ (q_addX l dC dI cT cf hC ad E37 H.size r43 hI) (cwV 1 hts (gi_V (in_9 _ (zs4 (zs1 (zs1 (zs1 (zs0)))))) (in_9 _ (zs4 (zs4 (zs0)))) (in_9 _ (zs4 (zs4 (zs1 (zs0))))) (in_8 _ (zs4 (zs4 (zs4 (zs1 (zs1 (zs0))))))) (in_7 _ (zs16 (zs4 (zs4 (zs4 (zs1 (zs0)))))))) rfl rfl rfl ⟨rfl, hz_yX10_add_1⟩ ⟨(show 0 + 1 ≤ 7 * n + 9 from nl_1 (Nat.le_of_ble_eq_true rfl)), (show 8 + (2 + 11) + 40 * (0) ≤ 40 * (7 * n + 9) from nl_2 (Nat.le_of_ble_eq_true rfl))⟩) ⟨HWL_bl, va_recv hK hP (ci := 11) (q0 := posL 2 (LC cf)) rfl (hI.ob 2 (mF 2 rfl) rfl), (HWL_wi hP hK (WL_D hD) hS hA hEV)⟩ rfl rfl hl.1 rfl (lv_room (Nat.le_of_ble_eq_true rfl)) dX10_readSum_56 ⟨Nat.le_of_ble_eq_true rfl, Nat.le_of_ble_eq_true rfl⟩) (WL_D hD) hS hA (fun E47 H locs hw hP hS => ?_)
            obtain ⟨hI, kq48, hw⟩ := hw
            have hKb := hKp
            have hKp := hKp.tr kq48 (wl_sub rfl rfl)
            obtain ⟨y49, ey49⟩ : ∃ y, xi (E47 2) 5 = y := ⟨_, rfl⟩
            have fy49 : xv (E47 2) 5 = .int y49 := (hI.fi 2 (mF 2 rfl) rfl (Nat.le_of_ble_eq_true rfl) rfl).trans (congrArg Value.int ey49)
            have i50 : 0 ≤ y49.toInt ∧ y49.toInt ≤ 200 := by rw [← ey49]; exact hI.iv 2 (mF 2 rfl) rfl (Nat.le_of_ble_eq_true rfl) rfl
            obtain ⟨f51, f52⟩ := hw
            try rw [(show xi (E37 2) 5 = y39 from vi_e fy39)] at f51
            try rw [(show xi (E47 2) 5 = y49 from vi_e fy49)] at f51
            obtain ⟨y53, ey53⟩ : ∃ y : Int32, y = v7_2 + (1 : Int32) := ⟨_, rfl⟩
            obtain ⟨ty53, iy53⟩ := ti_add (e := 1) (f := 200) i15 ln_1 ey53 (by decide)
            have ty53 : y53.toInt = v7_2.toInt + 1 := ty53
            have iy53 : 1 ≤ y53.toInt ∧ y53.toInt ≤ 200 := iy53
            refine lv_iinc (v := y53) (lv' := [(2, .int y53), (3, .int y29), (0, .ref (ad 2)), (1, .int a0)]) hx hb dX10_readSum_59 hl (k := 1) rfl (by rw [ey53]; rfl) (by decide) rfl (fun ls hl => ?_)
            refine lv_goto (tgt := 7) hx hb dX10_readSum_62 (by decide) ?_
            exact ih7 y49 y53 E47 _ _ _ i50 (iv_w iy53 (by decide)) (by have h9 := i50; omega) (Lp.step (op := isAdd) (cb := jb) hx7_1 f25 (ix_add.mp f27.2) (by omega) k35 f42 f52 ty53 (fun t m => termS_mono false t m n) (fun t m a c h => opL_1 (termS_mono false t m n) rfl h)) (by first | exact ms_su hx7_2 ty53 (by decide) | omega) hI hKp fy49 hP hS (lv_sub hl [0, 2, 3] rfl)
        · -- isOneOfX, case 1
          obtain ⟨rfl, f54⟩ := hw
          refine lv_if_eq (tgt := 65) hx hb dX10_readSum_23 (by decide) (fun c55 => ?_) (fun c55 => ?_)
          · --23 taken
            rw [hQ]
            exact W.vret hx hb hr (fun t ht hW => ⟨⟨E19, rfl, ⟨hI, hKp, ⟨by (try rw [(show xi (E19 2) 5 = w7_2_5 from vi_e ((kq20 2 5 rfl).trans hs7_2_5))]); (try rw [ey1]); all_goals omega, Lp.exit (op := isAdd) hx7_1 f25 (no_add f54) (fun t m a c h => opL_0 h)⟩⟩, by show va_P (dC, dI) vwCl (WL (LC cf) ad E19) t.heap; rw [ht]; exact hP⟩, hS.F ht⟩) hS.2.2 dX10_readSum_65
          · --23 not
            exact absurd c55 (by decide)
  exact hL7 (201) y7 (0 : Int32) E5 _ _ _ i8 (iv_w ln_0 (by decide)) (by have h9 := i8; omega) (Lp.start f10 lpS (by decide)) (by have h9 := ln_0; first | exact ms_bu h9.1 (by decide) | omega) hI hKp fy7 hP hS (lv_sub hl [0, 1, 2] rfl)
set_option maxHeartbeats 4000000 in
set_option maxRecDepth 100000 in
theorem q_readComparisonX (l : Launch) (n : Nat) (gS : C_readSumX l n) : C_readComparisonX l n := by
  intro dC dI cT cf hC ad E sz a0 hI0 hh0 hh1
  obtain ⟨⟨hc0, hc1, hc2, hc3, hc4, hc5⟩, hcr⟩ := id hC
  refine Met.ofW (cc := cX10_readComparison) (maxL := 3) (ret := none) (by decide) rfl ?_
  intro p e s m args below meth c s₁ B hml hv
  obtain ⟨hargs, hsz, hP, hK, hD0, hEV⟩ := hv
  subst hsz
  have hx := B.exec
  have hb := B.bytes
  have hr := B.returns
  have hts := atoms_spec (ws := v_readComparisonX) B.pre
  have hown : s.vm.findClass RX10 = some m.cls := findClass_of_methodNamed B.named
  have hlocks := B.notSynchronized
  have hinX10 : ∀ w ∈ u_ws RX10 TX10 10, w ∈ v_readComparisonX := fun w h => vA_in _ w (in_X10 w h)
  generalize hAe : va_A (WL (LC cf) ad E) s.heap.size = A at hEV ⊢
  have hA : ∀ q : Nat, s.heap.size ≤ q → A q := fun q h => by rw [← hAe]; exact Or.inr h
  have hD : va_D A (WL (LC cf) ad E) := by rw [← hAe]; exact hD0.self
  have hS : va_S A s.heap s.heap [] := va_S.rf
  have hI := hI0
  have hKp : Kp w_readComparisonX E E := Kp.rf
  have hl := lv_entry ([.ref (ad 2), .int a0]) (n := 3) (Nat.le_of_ble_eq_true rfl)
  obtain ⟨Q, hQ⟩ : ∃ Q, Q = MQ below (va_Qv (S := Nat → va_E) (fun u => IXL cT (shC cf) (spC cf) (LC cf) ad u ∧ Kp w_readComparisonX E u ∧ (((xi (E 2) 5).toInt ≤ (xi (u 2) 5).toInt) ∧ (RdC (fun t m a => cmpS false t m n a) E u))) (HBL dC dI (LC cf) ad) (A)) args s 0 0 (A) := ⟨_, rfl⟩
  rw [← hQ, show entryFrame m args 3 = _ from (congrArg (fun z => entryFrame m z 3) hargs).trans (lg_entry_eq _ _ _)]
  generalize (lg_sl ([.ref (ad 2), .int a0]) ++ List.replicate (3 - (lg_sl ([.ref (ad 2), .int a0])).length) Slot.unset).toArray = ls at hl ⊢
  have hl : lv_has ls 3 [(0, .ref (ad 2)), (1, .int a0)] := hl
  obtain ⟨y1, ey1⟩ : ∃ y, xi (E 2) 5 = y := ⟨_, rfl⟩
  have fy1 : xv (E 2) 5 = .int y1 := (hI.fi 2 (mF 2 rfl) rfl (Nat.le_of_ble_eq_true rfl) rfl).trans (congrArg Value.int ey1)
  have i2 : 0 ≤ y1.toInt ∧ y1.toInt ≤ 200 := by rw [← ey1]; exact hI.iv 2 (mF 2 rfl) rfl (Nat.le_of_ble_eq_true rfl) rfl
  refine lv_aload_n hx hb dX10_readComparison_0 rfl (lv_at hl 0 rfl) ?_
  refine th_iL (va_runV (As := []) (rest := []) ⟨hx, hb, hml, hown, hts⟩ (q_nextX l dC dI cT cf hC ad E s.heap.size hI) (cwV 0 hts (gi_V (in_8 _ (zs16 (zs4 (zs4 (zs1 (zs1 (zs1 (zs0)))))))) (in_8 _ (zs16 (zs4 (zs4 (zs4 (zs0)))))) (in_8 _ (zs16 (zs4 (zs4 (zs4 (zs1 (zs0))))))) (in_8 _ (zs4 (zs4 (zs4 (zs1 (zs1 (zs0))))))) (in_8 _ (zs16 (zs1 (zs1 (zs1 (zs0))))))) rfl rfl rfl ⟨rfl, hz_yX10_next_0⟩ ⟨(show 0 + 1 ≤ 7 * n + 10 from nl_1 (Nat.le_of_ble_eq_true rfl)), (show 8 + (1 + 11) + 40 * (0) ≤ 40 * (7 * n + 10) from nl_2 (Nat.le_of_ble_eq_true rfl))⟩) ⟨HWL_bl, va_recv hK hP (ci := 11) (q0 := posL 2 (LC cf)) rfl (hI.ob 2 (mF 2 rfl) rfl), (HWL_wi hP hK (WL_D hD) hS hA hEV)⟩ rfl rfl hl.1 rfl (lv_room (Nat.le_of_ble_eq_true rfl)) dX10_readComparison_1 ⟨Nat.le_of_ble_eq_true rfl, Nat.le_of_ble_eq_true rfl⟩) (WL_D hD) hS hA (fun r3 E4 H locs hw hP hS => ?_)
  obtain ⟨hI, kq5, hw⟩ := hw
  have hKb := hKp
  have hKp := hKp.tr kq5 (wl_sub rfl rfl)
  obtain ⟨y6, ey6⟩ : ∃ y, xi (E4 2) 2 = y := ⟨_, rfl⟩
  have fy6 : xv (E4 2) 2 = .int y6 := (hI.fi 2 (mF 2 rfl) rfl (Nat.le_of_ble_eq_true rfl) rfl).trans (congrArg Value.int ey6)
  have i7 : 0 ≤ y6.toInt ∧ y6.toInt ≤ 200 := by rw [← ey6]; exact hI.iv 2 (mF 2 rfl) rfl (Nat.le_of_ble_eq_true rfl) rfl
  obtain ⟨f8, f9, f10⟩ := hw
  have i11 : 0 ≤ (xi (E 2) 1).toInt ∧ (xi (E 2) 1).toInt ≤ 200 := hI0.iv 2 (mF 2 rfl) rfl (Nat.le_of_ble_eq_true rfl) rfl
  try rw [(show xi (E4 2) 2 = y6 from vi_e fy6)] at f9
  refine lv_istore_n (lv' := [(2, .int r3), (0, .ref (ad 2)), (1, .int a0)]) hx hb dX10_readComparison_4 rfl hl (by decide) rfl (fun ls hl => ?_)
  obtain ⟨qs12, vs13, hRqs12, hSSqs12⟩ := hEV.2.1.2.2.1
  refine va_ldcS hx hb hown hRqs12 dX10_readComparison_5 ?_
  refine lv_iload_n hx hb dX10_readComparison_7 rfl (lv_at hl 0 rfl) ?_
  refine th_pi (va_runSN (As := [.ref qs12, .int r3]) (rest := []) ⟨hx, hb, hml, hown, hts⟩ (q_isOneOfX l qs12 vs13 tCMP r3 (by decide) (by decide) f8) ⟨va_cnB 2 hts (gi_0 (in_8 _ (zs16 (zs4 (zs4 (zs4 (zs1 (zs1 (zs1 (zs0)))))))))) rfl rfl rfl (hEV.1.1 _ (List.mem_of_getElem? (i := 12) rfl)) (hts _ (vA_in _ _ (in_4 _ (zs16 (zs4 (zs1 (zs1 (zs1 (zs0))))))))) hz_yX12_isOneOf_2 ⟨(show 4 + 1 ≤ 7 * n + 10 from nl_1 (Nat.le_of_ble_eq_true rfl)), (show 8 + (2 + 11) + 40 * (4) ≤ 40 * (7 * n + 10) from nl_2 (Nat.le_of_ble_eq_true rfl))⟩, (hts _ (vA_in _ _ (in_8 _ (zs16 (zs4 (zs4 (zs4 (zs1 (zs1 (zs0)))))))))), trivial⟩ ⟨fun a U g mk q => ⟨q.1, SS_c q.2⟩, fun U hU hW => ⟨rfl, SS_w hU hW hS (fun _ h => h.elim) hSSqs12⟩⟩ rfl rfl hl.1 rfl (lv_room (Nat.le_of_ble_eq_true rfl)) dX10_readComparison_8 ⟨Nat.le_of_ble_eq_true rfl, Nat.le_of_ble_eq_true rfl⟩) hS (fun r14 H1 locs1 hw hk1 hS => ?_)
  have hP := ub_keep hP hk1
  generalize H1 = H at hP hS ⊢
  generalize locs1 = locs at hS ⊢
  rcases hw with hw | hw
  · -- isOneOfX, case 0
    obtain ⟨rfl, f15⟩ := hw
    refine lv_if_ne (tgt := 19) hx hb dX10_readComparison_11 (by decide) (fun c16 => ?_) (fun c16 => ?_)
    · --11 taken
      refine lv_aload_n hx hb dX10_readComparison_19 rfl (lv_at hl 1 rfl) ?_
      refine lv_dup hx hb dX10_readComparison_20 rfl ?_
      refine th_getL (ci := 11) (C := RX10) (T := TX10) (N := 10) (v := .int y6) hx hb hts hinX10 hown hK hP hI 2 (mF 2 rfl) rfl rfl 2 (Nat.le_of_ble_eq_true rfl) (hts _ (vA_in _ _ (in_8 _ (zs4 (zs4 (zs1 (zs0))))))) (fun _ h9 => h9) fy6 dX10_readComparison_21 ?_
      refine lv_iconst (v := 1) hx hb dX10_readComparison_24 (by decide) ?_
      refine lv_iadd hx hb dX10_readComparison_25 ?_
      refine lv_topi (fun y17 ey17 => ?_)
      obtain ⟨ty17, iy17⟩ := ti_add (e := 1) (f := 201) i7 ln_1 ey17 (by decide)
      have ty17 : y17.toInt = y6.toInt + 1 := ty17
      have iy17 : 1 ≤ y17.toInt ∧ y17.toInt ≤ 201 := iy17
      have i18 : 1 ≤ y17.toInt ∧ y17.toInt ≤ 200 := by omega
      refine th_putL (ci := 11) (C := RX10) (T := TX10) (N := 10) (v := .int y17) (ty := .int) hx hb hts hinX10 tyX10 tyX10_ok nmX10 hown hK hP (WL_D hD) hS hI 2 (mF 2 rfl) rfl rfl 2 (Nat.le_of_ble_eq_true rfl) (hts _ (vA_in _ _ (in_8 _ (zs4 (zs4 (zs1 (zs0))))))) (fun _ h9 => h9) rfl (by decide +kernel) rfl rfl (okI rfl (iv_w i18 (by decide))) dX10_readComparison_26 (fun H locs E19 pw20 hI hP hS => ?_)
      have hKp := hKp.pw pw20 rfl
      have k21 : AtP E4 E19 := AtP.pw pw20.2 (vi_e fy6) (vi_e pw20.1) ty17 (by omega)
      refine lv_aload_n hx hb dX10_readComparison_29 rfl (lv_at hl 1 rfl) ?_
      refine lv_iload_n hx hb dX10_readComparison_30 rfl (lv_at hl 2 rfl) ?_
      refine th_vL (va_runV (As := [.int a0]) (rest := []) ⟨hx, hb, hml, hown, hts⟩ (gS dC dI cT cf hC ad E19 H.size a0 hI hh0 (by omega)) (cwV 1 hts (gi_V (in_8 _ (zs16 (zs16 (zs4 (zs1 (zs1 (zs1 (zs0)))))))) (in_9 _ zs0) (in_9 _ (zs1 (zs0))) (in_8 _ (zs4 (zs4 (zs4 (zs1 (zs1 (zs0))))))) (in_9 _ (zs1 (zs1 (zs0))))) rfl rfl rfl (by decide +kernel) ⟨(show 7 * n + 9 + 1 ≤ 7 * n + 10 from nl_4 (Nat.le_of_ble_eq_true rfl) (Nat.le_of_ble_eq_true rfl)), (show 8 + (4 + 11) + 40 * (7 * n + 9) ≤ 40 * (7 * n + 10) from nl_3 (Nat.le_of_ble_eq_true rfl) (Nat.le_of_ble_eq_true rfl))⟩) ⟨HWL_bl, va_recv hK hP (ci := 11) (q0 := posL 2 (LC cf)) rfl (hI.ob 2 (mF 2 rfl) rfl), (HWL_wi hP hK (WL_D hD) hS hA hEV)⟩ rfl rfl hl.1 rfl (lv_room (Nat.le_of_ble_eq_true rfl)) dX10_readComparison_31 ⟨Nat.le_of_ble_eq_true rfl, Nat.le_of_ble_eq_true rfl⟩) (WL_D hD) hS hA (fun E23 H locs hw hP hS => ?_)
      obtain ⟨hI, kq24, hw⟩ := hw
      have hKb := hKp
      have hKp := hKp.tr kq24 (wl_sub rfl rfl)
      obtain ⟨y25, ey25⟩ : ∃ y, xi (E23 2) 5 = y := ⟨_, rfl⟩
      have fy25 : xv (E23 2) 5 = .int y25 := (hI.fi 2 (mF 2 rfl) rfl (Nat.le_of_ble_eq_true rfl) rfl).trans (congrArg Value.int ey25)
      have i26 : 0 ≤ y25.toInt ∧ y25.toInt ≤ 200 := by rw [← ey25]; exact hI.iv 2 (mF 2 rfl) rfl (Nat.le_of_ble_eq_true rfl) rfl
      obtain ⟨f27, f28⟩ := hw
      try rw [(show xi (E19 2) 5 = y1 from vi_e ((pw20.2 2 5 (fun q9 => absurd q9.2 (Nat.ne_of_beq_eq_false rfl))).trans ((kq5 2 5 rfl).trans fy1)))] at f27
      try rw [(show xi (E23 2) 5 = y25 from vi_e fy25)] at f27
      refine lv_aload_n hx hb dX10_readComparison_34 rfl (lv_at hl 1 rfl) ?_
      refine lv_iload_n hx hb dX10_readComparison_35 rfl (lv_at hl 0 rfl) ?_
      refine th_pi (va_runS (As := [.int r3]) (rest := [.ref (ad 2)]) ⟨hx, hb, hml, hown, hts⟩ (q_casSign l r3 (by omega)) (va_cwS 1 hts (gi_S (in_9 _ (zs4 (zs1 (zs1 (zs0))))) (in_7 _ (zs4 (zs4 (zs4 (zs1 (zs0)))))) (in_7 _ (zs1 (zs1 (zs0)))) (in_7 _ (zs4 (zs4 (zs4 (zs1 (zs1 (zs0)))))))) rfl rfl rfl hz_yX7_asSign_1 ⟨(show 0 + 1 ≤ 7 * n + 10 from nl_1 (Nat.le_of_ble_eq_true rfl)), (show 8 + (1 + 11) + 40 * (0) ≤ 40 * (7 * n + 10) from nl_2 (Nat.le_of_ble_eq_true rfl))⟩) ⟨fun _ _ _ _ q => q, fun _ _ _ => ⟨rfl, trivial⟩⟩ rfl rfl hl.1 rfl (lv_room (Nat.le_of_ble_eq_true rfl)) dX10_readComparison_36 ⟨Nat.le_of_ble_eq_true rfl, Nat.le_of_ble_eq_true rfl⟩) hS (fun r29 H1 locs1 hw hk1 hS => ?_)
      have hP := ub_keep hP hk1
      generalize H1 = H at hP hS ⊢
      generalize locs1 = locs at hS ⊢
      obtain ⟨f30, f31⟩ := hw
      refine th_vL (va_runV (As := [.int r29]) (rest := []) ⟨hx, hb, hml, hown, hts⟩ (q_addX l dC dI cT cf hC ad E23 H.size r29 hI) (cwV 1 hts (gi_V (in_9 _ (zs4 (zs1 (zs1 (zs1 (zs0)))))) (in_9 _ (zs4 (zs4 (zs0)))) (in_9 _ (zs4 (zs4 (zs1 (zs0))))) (in_8 _ (zs4 (zs4 (zs4 (zs1 (zs1 (zs0))))))) (in_7 _ (zs16 (zs4 (zs4 (zs4 (zs1 (zs0)))))))) rfl rfl rfl ⟨rfl, hz_yX10_add_1⟩ ⟨(show 0 + 1 ≤ 7 * n + 10 from nl_1 (Nat.le_of_ble_eq_true rfl)), (show 8 + (2 + 11) + 40 * (0) ≤ 40 * (7 * n + 10) from nl_2 (Nat.le_of_ble_eq_true rfl))⟩) ⟨HWL_bl, va_recv hK hP (ci := 11) (q0 := posL 2 (LC cf)) rfl (hI.ob 2 (mF 2 rfl) rfl), (HWL_wi hP hK (WL_D hD) hS hA hEV)⟩ rfl rfl hl.1 rfl (lv_room (Nat.le_of_ble_eq_true rfl)) dX10_readComparison_39 ⟨Nat.le_of_ble_eq_true rfl, Nat.le_of_ble_eq_true rfl⟩) (WL_D hD) hS hA (fun E33 H locs hw hP hS => ?_)
      obtain ⟨hI, kq34, hw⟩ := hw
      have hKb := hKp
      have hKp := hKp.tr kq34 (wl_sub rfl rfl)
      obtain ⟨y35, ey35⟩ : ∃ y, xi (E33 2) 5 = y := ⟨_, rfl⟩
      have fy35 : xv (E33 2) 5 = .int y35 := (hI.fi 2 (mF 2 rfl) rfl (Nat.le_of_ble_eq_true rfl) rfl).trans (congrArg Value.int ey35)
      have i36 : 0 ≤ y35.toInt ∧ y35.toInt ≤ 200 := by rw [← ey35]; exact hI.iv 2 (mF 2 rfl) rfl (Nat.le_of_ble_eq_true rfl) rfl
      obtain ⟨f37, f38⟩ := hw
      try rw [(show xi (E23 2) 5 = y25 from vi_e fy25)] at f37
      try rw [(show xi (E33 2) 5 = y35 from vi_e fy35)] at f37
      rw [hQ]
      exact W.vret hx hb hr (fun t ht hW => ⟨⟨E33, rfl, ⟨hI, hKp, ⟨by (try rw [(show xi (E33 2) 5 = y35 from vi_e fy35)]); (try rw [ey1]); all_goals omega, cmC f10 (ix_cmp.mp f15.2) k21 f28 f38⟩⟩, by show va_P (dC, dI) vwCl (WL (LC cf) ad E33) t.heap; rw [ht]; exact hP⟩, hS.F ht⟩) hS.2.2 dX10_readComparison_42
    · --11 not
      exact absurd c16 (by decide)
  · -- isOneOfX, case 1
    obtain ⟨rfl, f39⟩ := hw
    refine lv_if_ne (tgt := 19) hx hb dX10_readComparison_11 (by decide) (fun c40 => ?_) (fun c40 => ?_)
    · --11 taken
      exact absurd c40 (by decide)
    · --11 not
      refine lv_aload_n hx hb dX10_readComparison_14 rfl (lv_at hl 1 rfl) ?_
      refine th_vL (va_runV (As := []) (rest := []) ⟨hx, hb, hml, hown, hts⟩ (q_failX l dC dI cT cf hC ad E4 H.size hI) (cwV 0 hts (gi_V (in_8 _ (zs4 (zs4 (zs1 (zs1 (zs1 (zs0))))))) (in_8 _ (zs4 (zs4 (zs4 (zs0))))) (in_8 _ (zs4 (zs4 (zs4 (zs1 (zs0)))))) (in_8 _ (zs4 (zs4 (zs4 (zs1 (zs1 (zs0))))))) (in_8 _ (zs4 (zs1 (zs1 (zs1 (zs0))))))) rfl rfl rfl ⟨rfl, hz_yX10_fail_0⟩ ⟨(show 0 + 1 ≤ 7 * n + 10 from nl_1 (Nat.le_of_ble_eq_true rfl)), (show 8 + (1 + 11) + 40 * (0) ≤ 40 * (7 * n + 10) from nl_2 (Nat.le_of_ble_eq_true rfl))⟩) ⟨HWL_bl, va_recv hK hP (ci := 11) (q0 := posL 2 (LC cf)) rfl (hI.ob 2 (mF 2 rfl) rfl), (HWL_wi hP hK (WL_D hD) hS hA hEV)⟩ rfl rfl hl.1 rfl (lv_room (Nat.le_of_ble_eq_true rfl)) dX10_readComparison_15 ⟨Nat.le_of_ble_eq_true rfl, Nat.le_of_ble_eq_true rfl⟩) (WL_D hD) hS hA (fun E42 H locs hw hP hS => ?_)
      obtain ⟨hI, kq43, hw⟩ := hw
      have hKb := hKp
      have hKp := hKp.tr kq43 (wl_sub rfl rfl)
      have f44 := hw
      rw [hQ]
      exact W.vret hx hb hr (fun t ht hW => ⟨⟨E42, rfl, ⟨hI, hKp, ⟨by (try rw [(show xi (E42 2) 5 = y1 from vi_e ((kq43 2 5 rfl).trans ((kq5 2 5 rfl).trans fy1)))]); (try rw [ey1]); all_goals omega, cmC_no f10 (no_cmp f39) f44⟩⟩, by show va_P (dC, dI) vwCl (WL (LC cf) ad E42) t.heap; rw [ht]; exact hP⟩, hS.F ht⟩) hS.2.2 dX10_readComparison_18
set_option maxHeartbeats 4000000 in
set_option maxRecDepth 100000 in
theorem q_readUnitX (l : Launch) (n : Nat) (gS : C_readSumX l n) (gC : C_readComparisonX l n) (gU : ∀ k, k < n → C_readUnitX l k) (gO : ∀ k, k < n → C_readConditionX l k) : C_readUnitX l n := by
  intro dC dI cT cf hC ad E sz a0 a1 hI0 hh0 hh1 hh2
  obtain ⟨⟨hc0, hc1, hc2, hc3, hc4, hc5⟩, hcr⟩ := id hC
  refine Met.ofW (cc := cX10_readUnit) (maxL := 4) (ret := none) (by decide) rfl ?_
  intro p e s m args below meth c s₁ B hml hv
  obtain ⟨hargs, hsz, hP, hK, hD0, hEV⟩ := hv
  subst hsz
  have hx := B.exec
  have hb := B.bytes
  have hr := B.returns
  have hts := atoms_spec (ws := v_readUnitX) B.pre
  have hown : s.vm.findClass RX10 = some m.cls := findClass_of_methodNamed B.named
  have hlocks := B.notSynchronized
  generalize hAe : va_A (WL (LC cf) ad E) s.heap.size = A at hEV ⊢
  have hA : ∀ q : Nat, s.heap.size ≤ q → A q := fun q h => by rw [← hAe]; exact Or.inr h
  have hD : va_D A (WL (LC cf) ad E) := by rw [← hAe]; exact hD0.self
  have hS : va_S A s.heap s.heap [] := va_S.rf
  have hI := hI0
  have hKp : Kp w_readUnitX E E := Kp.rf
  have hl := lv_entry ([.ref (ad 2), .int a0, .int a1]) (n := 4) (Nat.le_of_ble_eq_true rfl)
  obtain ⟨Q, hQ⟩ : ∃ Q, Q = MQ below (va_Qv (S := Nat → va_E) (fun u => IXL cT (shC cf) (spC cf) (LC cf) ad u ∧ Kp w_readUnitX E u ∧ (((xi (E 2) 5).toInt ≤ (xi (u 2) 5).toInt) ∧ (RdC (unX a1 n) E u))) (HBL dC dI (LC cf) ad) (A)) args s 0 0 (A) := ⟨_, rfl⟩
  rw [← hQ, show entryFrame m args 4 = _ from (congrArg (fun z => entryFrame m z 4) hargs).trans (lg_entry_eq _ _ _)]
  generalize (lg_sl ([.ref (ad 2), .int a0, .int a1]) ++ List.replicate (4 - (lg_sl ([.ref (ad 2), .int a0, .int a1])).length) Slot.unset).toArray = ls at hl ⊢
  have hl : lv_has ls 4 [(0, .ref (ad 2)), (1, .int a0), (2, .int a1)] := hl
  obtain ⟨y1, ey1⟩ : ∃ y, xi (E 2) 5 = y := ⟨_, rfl⟩
  have fy1 : xv (E 2) 5 = .int y1 := (hI.fi 2 (mF 2 rfl) rfl (Nat.le_of_ble_eq_true rfl) rfl).trans (congrArg Value.int ey1)
  have i2 : 0 ≤ y1.toInt ∧ y1.toInt ≤ 200 := by rw [← ey1]; exact hI.iv 2 (mF 2 rfl) rfl (Nat.le_of_ble_eq_true rfl) rfl
  refine lv_iload_n hx hb dX10_readUnit_0 rfl (lv_at hl 2 rfl) ?_
  refine lv_if_eq (tgt := 8) hx hb dX10_readUnit_1 (by decide) (fun c3 => ?_) (fun c3 => ?_)
  · --1 taken
    have t4 : a1.toInt = 0 := ti_eq c3
    have i5 : 0 ≤ a1.toInt ∧ a1.toInt ≤ 0 := iv_eqi t4 hh2 (il_ 0) (by decide)
    refine lv_aload_n hx hb dX10_readUnit_8 rfl (lv_at hl 0 rfl) ?_
    refine th_iL (va_runV (As := []) (rest := []) ⟨hx, hb, hml, hown, hts⟩ (q_nextX l dC dI cT cf hC ad E s.heap.size hI) (cwV 0 hts (gi_V (in_8 _ (zs16 (zs4 (zs4 (zs1 (zs1 (zs1 (zs0)))))))) (in_8 _ (zs16 (zs4 (zs4 (zs4 (zs0)))))) (in_8 _ (zs16 (zs4 (zs4 (zs4 (zs1 (zs0))))))) (in_8 _ (zs4 (zs4 (zs4 (zs1 (zs1 (zs0))))))) (in_8 _ (zs16 (zs1 (zs1 (zs1 (zs0))))))) rfl rfl rfl ⟨rfl, hz_yX10_next_0⟩ ⟨(show 0 + 1 ≤ 7 * n + 11 from nl_1 (Nat.le_of_ble_eq_true rfl)), (show 8 + (1 + 11) + 40 * (0) ≤ 40 * (7 * n + 11) from nl_2 (Nat.le_of_ble_eq_true rfl))⟩) ⟨HWL_bl, va_recv hK hP (ci := 11) (q0 := posL 2 (LC cf)) rfl (hI.ob 2 (mF 2 rfl) rfl), (HWL_wi hP hK (WL_D hD) hS hA hEV)⟩ rfl rfl hl.1 rfl (lv_room (Nat.le_of_ble_eq_true rfl)) dX10_readUnit_9 ⟨Nat.le_of_ble_eq_true rfl, Nat.le_of_ble_eq_true rfl⟩) (WL_D hD) hS hA (fun r6 E7 H locs hw hP hS => ?_)
    obtain ⟨hI, kq8, hw⟩ := hw
    have hKb := hKp
    have hKp := hKp.tr kq8 (wl_sub rfl rfl)
    obtain ⟨y9, ey9⟩ : ∃ y, xi (E7 2) 2 = y := ⟨_, rfl⟩
    have fy9 : xv (E7 2) 2 = .int y9 := (hI.fi 2 (mF 2 rfl) rfl (Nat.le_of_ble_eq_true rfl) rfl).trans (congrArg Value.int ey9)
    have i10 : 0 ≤ y9.toInt ∧ y9.toInt ≤ 200 := by rw [← ey9]; exact hI.iv 2 (mF 2 rfl) rfl (Nat.le_of_ble_eq_true rfl) rfl
    obtain ⟨f11, f12, f13⟩ := hw
    have i14 : 0 ≤ (xi (E 2) 1).toInt ∧ (xi (E 2) 1).toInt ≤ 200 := hI0.iv 2 (mF 2 rfl) rfl (Nat.le_of_ble_eq_true rfl) rfl
    try rw [(show xi (E7 2) 2 = y9 from vi_e fy9)] at f12
    refine lv_istore_n (lv' := [(3, .int r6), (0, .ref (ad 2)), (1, .int a0), (2, .int a1)]) hx hb dX10_readUnit_12 rfl hl (by decide) rfl (fun ls hl => ?_)
    refine lv_iload_n hx hb dX10_readUnit_13 rfl (lv_at hl 0 rfl) ?_
    refine lv_bipush (v := 33) hx hb dX10_readUnit_14 (by decide) ?_
    refine lv_icmp_ne (tgt := 48) hx hb dX10_readUnit_16 (by decide) (fun c15 => ?_) (fun c15 => ?_)
    · --16 taken
      have t16 : ¬ r6.toInt = 33 := ti_ne c15
      refine lv_iload_n hx hb dX10_readUnit_48 rfl (lv_at hl 0 rfl) ?_
      refine lv_bipush (v := 40) hx hb dX10_readUnit_49 (by decide) ?_
      refine lv_icmp_ne (tgt := 80) hx hb dX10_readUnit_51 (by decide) (fun c17 => ?_) (fun c17 => ?_)
      · --51 taken
        have t18 : ¬ r6.toInt = 40 := ti_ne c17
        refine lv_iload_n hx hb dX10_readUnit_80 rfl (lv_at hl 3 rfl) ?_
        refine lv_if_ne (tgt := 89) hx hb dX10_readUnit_81 (by decide) (fun c19 => ?_) (fun c19 => ?_)
        · --81 taken
          have t20 : ¬ a1.toInt = 0 := ti_ne c19
          have i21 : 1 ≤ a1.toInt ∧ a1.toInt ≤ 0 := iv_ne_l t20 i5 (il_ 0)
          exact iv_no i21 (by decide)
        · --81 not
          have t22 : a1.toInt = 0 := ti_eq c19
          refine lv_aload_n hx hb dX10_readUnit_84 rfl (lv_at hl 1 rfl) ?_
          refine lv_iload_n hx hb dX10_readUnit_85 rfl (lv_at hl 2 rfl) ?_
          refine th_vL (va_runV (As := [.int a0]) (rest := []) ⟨hx, hb, hml, hown, hts⟩ (gS dC dI cT cf hC ad E7 H.size a0 hI hh0 (by omega)) (cwV 1 hts (gi_V (in_8 _ (zs16 (zs16 (zs4 (zs1 (zs1 (zs1 (zs0)))))))) (in_9 _ zs0) (in_9 _ (zs1 (zs0))) (in_8 _ (zs4 (zs4 (zs4 (zs1 (zs1 (zs0))))))) (in_9 _ (zs1 (zs1 (zs0))))) rfl rfl rfl (by decide +kernel) ⟨(show 7 * n + 9 + 1 ≤ 7 * n + 11 from nl_4 (Nat.le_of_ble_eq_true rfl) (Nat.le_of_ble_eq_true rfl)), (show 8 + (4 + 11) + 40 * (7 * n + 9) ≤ 40 * (7 * n + 11) from nl_3 (Nat.le_of_ble_eq_true rfl) (Nat.le_of_ble_eq_true rfl))⟩) ⟨HWL_bl, va_recv hK hP (ci := 11) (q0 := posL 2 (LC cf)) rfl (hI.ob 2 (mF 2 rfl) rfl), (HWL_wi hP hK (WL_D hD) hS hA hEV)⟩ rfl rfl hl.1 rfl (lv_room (Nat.le_of_ble_eq_true rfl)) dX10_readUnit_86 ⟨Nat.le_of_ble_eq_true rfl, Nat.le_of_ble_eq_true rfl⟩) (WL_D hD) hS hA (fun E24 H locs hw hP hS => ?_)
          obtain ⟨hI, kq25, hw⟩ := hw
          have hKb := hKp
          have hKp := hKp.tr kq25 (wl_sub rfl rfl)
          obtain ⟨y26, ey26⟩ : ∃ y, xi (E24 2) 5 = y := ⟨_, rfl⟩
          have fy26 : xv (E24 2) 5 = .int y26 := (hI.fi 2 (mF 2 rfl) rfl (Nat.le_of_ble_eq_true rfl) rfl).trans (congrArg Value.int ey26)
          have i27 : 0 ≤ y26.toInt ∧ y26.toInt ≤ 200 := by rw [← ey26]; exact hI.iv 2 (mF 2 rfl) rfl (Nat.le_of_ble_eq_true rfl) rfl
          obtain ⟨f28, f29⟩ := hw
          try rw [(show xi (E7 2) 5 = y1 from vi_e ((kq8 2 5 rfl).trans fy1))] at f28
          try rw [(show xi (E24 2) 5 = y26 from vi_e fy26)] at f28
          refine lv_aload_n hx hb dX10_readUnit_89 rfl (lv_at hl 1 rfl) ?_
          refine lv_iload_n hx hb dX10_readUnit_90 rfl (lv_at hl 2 rfl) ?_
          refine th_vL (va_runV (As := [.int a0]) (rest := []) ⟨hx, hb, hml, hown, hts⟩ (gC dC dI cT cf hC ad E24 H.size a0 hI hh0 (by omega)) (cwV 1 hts (gi_V (in_10 _ zs0) (in_10 _ (zs1 (zs0))) (in_10 _ (zs1 (zs1 (zs0)))) (in_8 _ (zs4 (zs4 (zs4 (zs1 (zs1 (zs0))))))) (in_10 _ (zs1 (zs1 (zs1 (zs0)))))) rfl rfl rfl (by decide +kernel) ⟨(show 7 * n + 10 + 1 ≤ 7 * n + 11 from nl_4 (Nat.le_of_ble_eq_true rfl) (Nat.le_of_ble_eq_true rfl)), (show 8 + (3 + 11) + 40 * (7 * n + 10) ≤ 40 * (7 * n + 11) from nl_3 (Nat.le_of_ble_eq_true rfl) (Nat.le_of_ble_eq_true rfl))⟩) ⟨HWL_bl, va_recv hK hP (ci := 11) (q0 := posL 2 (LC cf)) rfl (hI.ob 2 (mF 2 rfl) rfl), (HWL_wi hP hK (WL_D hD) hS hA hEV)⟩ rfl rfl hl.1 rfl (lv_room (Nat.le_of_ble_eq_true rfl)) dX10_readUnit_91 ⟨Nat.le_of_ble_eq_true rfl, Nat.le_of_ble_eq_true rfl⟩) (WL_D hD) hS hA (fun E31 H locs hw hP hS => ?_)
          obtain ⟨hI, kq32, hw⟩ := hw
          have hKb := hKp
          have hKp := hKp.tr kq32 (wl_sub rfl rfl)
          obtain ⟨y33, ey33⟩ : ∃ y, xi (E31 2) 5 = y := ⟨_, rfl⟩
          have fy33 : xv (E31 2) 5 = .int y33 := (hI.fi 2 (mF 2 rfl) rfl (Nat.le_of_ble_eq_true rfl) rfl).trans (congrArg Value.int ey33)
          have i34 : 0 ≤ y33.toInt ∧ y33.toInt ≤ 200 := by rw [← ey33]; exact hI.iv 2 (mF 2 rfl) rfl (Nat.le_of_ble_eq_true rfl) rfl
          obtain ⟨f35, f36⟩ := hw
          try rw [(show xi (E24 2) 5 = y26 from vi_e fy26)] at f35
          try rw [(show xi (E31 2) 5 = y33 from vi_e fy33)] at f35
          rw [hQ]
          exact W.vret hx hb hr (fun t ht hW => ⟨⟨E31, rfl, ⟨hI, hKp, ⟨by (try rw [(show xi (E31 2) 5 = y33 from vi_e fy33)]); (try rw [ey1]); all_goals omega, unC_c (by omega) f13 (by omega) (by omega) f29 f36⟩⟩, by show va_P (dC, dI) vwCl (WL (LC cf) ad E31) t.heap; rw [ht]; exact hP⟩, hS.F ht⟩) hS.2.2 dX10_readUnit_94
      · --51 not
        have t37 : r6.toInt = 40 := ti_eq c17
        have i38 : 40 ≤ r6.toInt ∧ r6.toInt ≤ 40 := iv_eqi t37 f11 (il_ 40) (by decide)
        refine lv_aload_n hx hb dX10_readUnit_54 rfl (lv_at hl 1 rfl) ?_
        refine lv_iload_n hx hb dX10_readUnit_55 rfl (lv_at hl 2 rfl) ?_
        refine th_iL (va_runV (As := [.int a0]) (rest := []) ⟨hx, hb, hml, hown, hts⟩ (q_goDeeperX l dC dI cT cf hC ad E7 H.size a0 hI hh0 (by (try rw [(show xi (E7 2) 2 = y9 from vi_e fy9)]); (try rw [hKp.ei 2 1 rfl]); omega)) (cwV 1 hts (gi_V (in_9 _ (zs16 (zs4 (zs1 (zs0))))) (in_9 _ (zs16 (zs4 (zs1 (zs1 (zs0)))))) (in_9 _ (zs16 (zs4 (zs1 (zs1 (zs1 (zs0))))))) (in_8 _ (zs4 (zs4 (zs4 (zs1 (zs1 (zs0))))))) (in_8 _ (zs4 (zs4 (zs1 (zs1 (zs0))))))) rfl rfl rfl ⟨rfl, hz_yX10_goDeeper_1⟩ ⟨(show 1 + 1 ≤ 7 * n + 11 from nl_1 (Nat.le_of_ble_eq_true rfl)), (show 8 + (2 + 11) + 40 * (1) ≤ 40 * (7 * n + 11) from nl_2 (Nat.le_of_ble_eq_true rfl))⟩) ⟨HWL_bl, va_recv hK hP (ci := 11) (q0 := posL 2 (LC cf)) rfl (hI.ob 2 (mF 2 rfl) rfl), (HWL_wi hP hK (WL_D hD) hS hA hEV)⟩ rfl rfl hl.1 rfl (lv_room (Nat.le_of_ble_eq_true rfl)) dX10_readUnit_56 ⟨Nat.le_of_ble_eq_true rfl, Nat.le_of_ble_eq_true rfl⟩) (WL_D hD) hS hA (fun r39 E40 H locs hw hP hS => ?_)
        obtain ⟨hI, kq41, hw⟩ := hw
        have hKb := hKp
        have hKp := hKp.tr kq41 (wl_sub rfl rfl)
        rcases hw with hw | hw
        · -- goDeeperX, case 0
          obtain ⟨rfl, f42, f43⟩ := hw
          obtain ⟨k9, hk9⟩ : ∃ k9, n = k9 + 1 := ⟨n - 1, by omega⟩
          refine lv_if_ne (tgt := 63) hx hb dX10_readUnit_59 (by decide) (fun c44 => ?_) (fun c44 => ?_)
          · --59 taken
            refine lv_aload_n hx hb dX10_readUnit_63 rfl (lv_at hl 1 rfl) ?_
            refine lv_iload_n hx hb dX10_readUnit_64 rfl (lv_at hl 2 rfl) ?_
            refine lv_iconst (v := 1) hx hb dX10_readUnit_65 (by decide) ?_
            refine lv_iadd hx hb dX10_readUnit_66 ?_
            refine lv_topi (fun y45 ey45 => ?_)
            obtain ⟨ty45, iy45⟩ := ti_add (e := 1) (f := 8) f42 ln_1 ey45 (by decide)
            have ty45 : y45.toInt = a0.toInt + 1 := ty45
            have iy45 : 1 ≤ y45.toInt ∧ y45.toInt ≤ 8 := iy45
            refine lv_iconst (v := 0) hx hb dX10_readUnit_67 (by decide) ?_
            have z0 := ln_0
            refine th_vL (va_runV (As := [.int y45, .int 0]) (rest := []) ⟨hx, hb, hml, hown, hts⟩ ((gO k9 (by omega)) dC dI cT cf hC ad E40 H.size y45 (0 : Int32) hI (iv_w iy45 (by decide)) (by omega) (iv_w ln_0 (by decide))) (cwV 2 hts (gi_V (in_9 _ (zs16 (zs4 (zs4 (zs4 (zs0)))))) (in_9 _ (zs16 (zs4 (zs4 (zs4 (zs1 (zs0))))))) (in_9 _ (zs16 (zs4 (zs4 (zs4 (zs1 (zs1 (zs0)))))))) (in_8 _ (zs4 (zs4 (zs4 (zs1 (zs1 (zs0))))))) (in_9 _ (zs16 (zs4 (zs4 (zs4 (zs1 (zs1 (zs1 (zs0)))))))))) rfl rfl rfl (by decide +kernel) ⟨(show 7 * k9 + 13 + 1 ≤ 7 * n + 11 by omega), (show 8 + (4 + 11) + 40 * (7 * k9 + 13) ≤ 40 * (7 * n + 11) by omega)⟩) ⟨HWL_bl, va_recv hK hP (ci := 11) (q0 := posL 2 (LC cf)) rfl (hI.ob 2 (mF 2 rfl) rfl), (HWL_wi hP hK (WL_D hD) hS hA hEV)⟩ rfl rfl hl.1 rfl (lv_room (Nat.le_of_ble_eq_true rfl)) dX10_readUnit_68 ⟨Nat.le_of_ble_eq_true rfl, Nat.le_of_ble_eq_true rfl⟩) (WL_D hD) hS hA (fun E47 H locs hw hP hS => ?_)
            obtain ⟨hI, kq48, hw⟩ := hw
            have hKb := hKp
            have hKp := hKp.tr kq48 (wl_sub rfl rfl)
            obtain ⟨y49, ey49⟩ : ∃ y, xi (E47 2) 5 = y := ⟨_, rfl⟩
            have fy49 : xv (E47 2) 5 = .int y49 := (hI.fi 2 (mF 2 rfl) rfl (Nat.le_of_ble_eq_true rfl) rfl).trans (congrArg Value.int ey49)
            have i50 : 0 ≤ y49.toInt ∧ y49.toInt ≤ 200 := by rw [← ey49]; exact hI.iv 2 (mF 2 rfl) rfl (Nat.le_of_ble_eq_true rfl) rfl
            obtain ⟨f51, f52⟩ := hw
            try rw [(show xi (E40 2) 5 = y1 from vi_e ((kq41 2 5 rfl).trans ((kq8 2 5 rfl).trans fy1)))] at f51
            try rw [(show xi (E47 2) 5 = y49 from vi_e fy49)] at f51
            refine lv_aload_n hx hb dX10_readUnit_71 rfl (lv_at hl 1 rfl) ?_
            refine lv_bipush (v := 41) hx hb dX10_readUnit_72 (by decide) ?_
            refine th_vL (va_runV (As := [.int 41]) (rest := []) ⟨hx, hb, hml, hown, hts⟩ (q_takeX l dC dI cT cf hC ad E47 H.size (41 : Int32) hI (iv_w ln_41 (by decide))) (cwV 1 hts (gi_V (in_8 _ (zs16 (zs16 (zs1 (zs1 (zs1 (zs0))))))) (in_8 _ (zs16 (zs16 (zs4 (zs0))))) (in_8 _ (zs16 (zs16 (zs4 (zs1 (zs0)))))) (in_8 _ (zs4 (zs4 (zs4 (zs1 (zs1 (zs0))))))) (in_8 _ (zs16 (zs16 (zs4 (zs1 (zs1 (zs0)))))))) rfl rfl rfl ⟨rfl, hz_yX10_take_1⟩ ⟨(show 1 + 1 ≤ 7 * n + 11 from nl_1 (Nat.le_of_ble_eq_true rfl)), (show 8 + (2 + 11) + 40 * (1) ≤ 40 * (7 * n + 11) from nl_2 (Nat.le_of_ble_eq_true rfl))⟩) ⟨HWL_bl, va_recv hK hP (ci := 11) (q0 := posL 2 (LC cf)) rfl (hI.ob 2 (mF 2 rfl) rfl), (HWL_wi hP hK (WL_D hD) hS hA hEV)⟩ rfl rfl hl.1 rfl (lv_room (Nat.le_of_ble_eq_true rfl)) dX10_readUnit_74 ⟨Nat.le_of_ble_eq_true rfl, Nat.le_of_ble_eq_true rfl⟩) (WL_D hD) hS hA (fun E54 H locs hw hP hS => ?_)
            obtain ⟨hI, kq55, hw⟩ := hw
            have hKb := hKp
            have hKp := hKp.tr kq55 (wl_sub rfl rfl)
            have f56 := hw
            refine lv_goto (tgt := 94) hx hb dX10_readUnit_77 (by decide) ?_
            rw [hQ]
            exact W.vret hx hb hr (fun t ht hW => ⟨⟨E54, rfl, ⟨hI, hKp, ⟨by (try rw [(show xi (E54 2) 5 = y49 from vi_e ((kq55 2 5 rfl).trans fy49))]); (try rw [ey1]); all_goals omega, unC_p (by omega) f13 (by omega) f43 f52 f56 hk9⟩⟩, by show va_P (dC, dI) vwCl (WL (LC cf) ad E54) t.heap; rw [ht]; exact hP⟩, hS.F ht⟩) hS.2.2 dX10_readUnit_94
          · --59 not
            exact absurd c44 (by decide)
        · -- goDeeperX, case 1
          obtain ⟨rfl, f57, f58⟩ := hw
          refine lv_if_ne (tgt := 63) hx hb dX10_readUnit_59 (by decide) (fun c59 => ?_) (fun c59 => ?_)
          · --59 taken
            exact absurd c59 (by decide)
          · --59 not
            rw [hQ]
            exact W.vret hx hb hr (fun t ht hW => ⟨⟨E40, rfl, ⟨hI, hKp, ⟨by (try rw [(show xi (E40 2) 5 = y1 from vi_e ((kq41 2 5 rfl).trans ((kq8 2 5 rfl).trans fy1)))]); (try rw [ey1]); all_goals omega, unC_p0 (by omega) f13 (by omega) f58 (by omega)⟩⟩, by show va_P (dC, dI) vwCl (WL (LC cf) ad E40) t.heap; rw [ht]; exact hP⟩, hS.F ht⟩) hS.2.2 dX10_readUnit_62
    · --16 not
      have t60 : r6.toInt = 33 := ti_eq c15
      have i61 : 33 ≤ r6.toInt ∧ r6.toInt ≤ 33 := iv_eqi t60 f11 (il_ 33) (by decide)
      refine lv_aload_n hx hb dX10_readUnit_19 rfl (lv_at hl 1 rfl) ?_
      refine lv_iload_n hx hb dX10_readUnit_20 rfl (lv_at hl 2 rfl) ?_
      refine th_iL (va_runV (As := [.int a0]) (rest := []) ⟨hx, hb, hml, hown, hts⟩ (q_goDeeperX l dC dI cT cf hC ad E7 H.size a0 hI hh0 (by (try rw [(show xi (E7 2) 2 = y9 from vi_e fy9)]); (try rw [hKp.ei 2 1 rfl]); omega)) (cwV 1 hts (gi_V (in_9 _ (zs16 (zs4 (zs1 (zs0))))) (in_9 _ (zs16 (zs4 (zs1 (zs1 (zs0)))))) (in_9 _ (zs16 (zs4 (zs1 (zs1 (zs1 (zs0))))))) (in_8 _ (zs4 (zs4 (zs4 (zs1 (zs1 (zs0))))))) (in_8 _ (zs4 (zs4 (zs1 (zs1 (zs0))))))) rfl rfl rfl ⟨rfl, hz_yX10_goDeeper_1⟩ ⟨(show 1 + 1 ≤ 7 * n + 11 from nl_1 (Nat.le_of_ble_eq_true rfl)), (show 8 + (2 + 11) + 40 * (1) ≤ 40 * (7 * n + 11) from nl_2 (Nat.le_of_ble_eq_true rfl))⟩) ⟨HWL_bl, va_recv hK hP (ci := 11) (q0 := posL 2 (LC cf)) rfl (hI.ob 2 (mF 2 rfl) rfl), (HWL_wi hP hK (WL_D hD) hS hA hEV)⟩ rfl rfl hl.1 rfl (lv_room (Nat.le_of_ble_eq_true rfl)) dX10_readUnit_21 ⟨Nat.le_of_ble_eq_true rfl, Nat.le_of_ble_eq_true rfl⟩) (WL_D hD) hS hA (fun r62 E63 H locs hw hP hS => ?_)
      obtain ⟨hI, kq64, hw⟩ := hw
      have hKb := hKp
      have hKp := hKp.tr kq64 (wl_sub rfl rfl)
      rcases hw with hw | hw
      · -- goDeeperX, case 0
        obtain ⟨rfl, f65, f66⟩ := hw
        obtain ⟨k9, hk9⟩ : ∃ k9, n = k9 + 1 := ⟨n - 1, by omega⟩
        refine lv_if_ne (tgt := 28) hx hb dX10_readUnit_24 (by decide) (fun c67 => ?_) (fun c67 => ?_)
        · --24 taken
          refine lv_aload_n hx hb dX10_readUnit_28 rfl (lv_at hl 1 rfl) ?_
          refine lv_iload_n hx hb dX10_readUnit_29 rfl (lv_at hl 2 rfl) ?_
          refine lv_iconst (v := 1) hx hb dX10_readUnit_30 (by decide) ?_
          refine lv_iadd hx hb dX10_readUnit_31 ?_
          refine lv_topi (fun y68 ey68 => ?_)
          obtain ⟨ty68, iy68⟩ := ti_add (e := 1) (f := 8) f65 ln_1 ey68 (by decide)
          have ty68 : y68.toInt = a0.toInt + 1 := ty68
          have iy68 : 1 ≤ y68.toInt ∧ y68.toInt ≤ 8 := iy68
          refine lv_iconst (v := 0) hx hb dX10_readUnit_32 (by decide) ?_
          have z0 := ln_0
          refine th_vL (va_runV (As := [.int y68, .int 0]) (rest := []) ⟨hx, hb, hml, hown, hts⟩ ((gU k9 (by omega)) dC dI cT cf hC ad E63 H.size y68 (0 : Int32) hI (iv_w iy68 (by decide)) (by omega) (iv_w ln_0 (by decide))) (cwV 2 hts (gi_V (in_9 _ (zs16 (zs16 (zs4 (zs0))))) (in_9 _ (zs16 (zs16 (zs4 (zs1 (zs0)))))) (in_9 _ (zs16 (zs16 (zs4 (zs1 (zs1 (zs0))))))) (in_8 _ (zs4 (zs4 (zs4 (zs1 (zs1 (zs0))))))) (in_9 _ (zs16 (zs16 (zs4 (zs1 (zs1 (zs1 (zs0))))))))) rfl rfl rfl (by decide +kernel) ⟨(show 7 * k9 + 11 + 1 ≤ 7 * n + 11 by omega), (show 8 + (4 + 11) + 40 * (7 * k9 + 11) ≤ 40 * (7 * n + 11) by omega)⟩) ⟨HWL_bl, va_recv hK hP (ci := 11) (q0 := posL 2 (LC cf)) rfl (hI.ob 2 (mF 2 rfl) rfl), (HWL_wi hP hK (WL_D hD) hS hA hEV)⟩ rfl rfl hl.1 rfl (lv_room (Nat.le_of_ble_eq_true rfl)) dX10_readUnit_33 ⟨Nat.le_of_ble_eq_true rfl, Nat.le_of_ble_eq_true rfl⟩) (WL_D hD) hS hA (fun E70 H locs hw hP hS => ?_)
          obtain ⟨hI, kq71, hw⟩ := hw
          have hKb := hKp
          have hKp := hKp.tr kq71 (wl_sub rfl rfl)
          obtain ⟨y72, ey72⟩ : ∃ y, xi (E70 2) 5 = y := ⟨_, rfl⟩
          have fy72 : xv (E70 2) 5 = .int y72 := (hI.fi 2 (mF 2 rfl) rfl (Nat.le_of_ble_eq_true rfl) rfl).trans (congrArg Value.int ey72)
          have i73 : 0 ≤ y72.toInt ∧ y72.toInt ≤ 200 := by rw [← ey72]; exact hI.iv 2 (mF 2 rfl) rfl (Nat.le_of_ble_eq_true rfl) rfl
          obtain ⟨f74, f75⟩ := hw
          try rw [(show xi (E63 2) 5 = y1 from vi_e ((kq64 2 5 rfl).trans ((kq8 2 5 rfl).trans fy1)))] at f74
          try rw [(show xi (E70 2) 5 = y72 from vi_e fy72)] at f74
          refine lv_aload_n hx hb dX10_readUnit_36 rfl (lv_at hl 1 rfl) ?_
          refine lv_bipush (v := 33) hx hb dX10_readUnit_37 (by decide) ?_
          refine th_pi (va_runS (As := [.int 33]) (rest := [.ref (ad 2)]) ⟨hx, hb, hml, hown, hts⟩ (q_casSign l (33 : Int32) (iv_w ln_33 (by decide))) (va_cwS 1 hts (gi_S (in_9 _ (zs4 (zs1 (zs1 (zs0))))) (in_7 _ (zs4 (zs4 (zs4 (zs1 (zs0)))))) (in_7 _ (zs1 (zs1 (zs0)))) (in_7 _ (zs4 (zs4 (zs4 (zs1 (zs1 (zs0)))))))) rfl rfl rfl hz_yX7_asSign_1 ⟨(show 0 + 1 ≤ 7 * n + 11 from nl_1 (Nat.le_of_ble_eq_true rfl)), (show 8 + (1 + 11) + 40 * (0) ≤ 40 * (7 * n + 11) from nl_2 (Nat.le_of_ble_eq_true rfl))⟩) ⟨fun _ _ _ _ q => q, fun _ _ _ => ⟨rfl, trivial⟩⟩ rfl rfl hl.1 rfl (lv_room (Nat.le_of_ble_eq_true rfl)) dX10_readUnit_39 ⟨Nat.le_of_ble_eq_true rfl, Nat.le_of_ble_eq_true rfl⟩) hS (fun r76 H1 locs1 hw hk1 hS => ?_)
          have hP := ub_keep hP hk1
          generalize H1 = H at hP hS ⊢
          generalize locs1 = locs at hS ⊢
          obtain ⟨f77, f78⟩ := hw
          refine th_vL (va_runV (As := [.int r76]) (rest := []) ⟨hx, hb, hml, hown, hts⟩ (q_addX l dC dI cT cf hC ad E70 H.size r76 hI) (cwV 1 hts (gi_V (in_9 _ (zs4 (zs1 (zs1 (zs1 (zs0)))))) (in_9 _ (zs4 (zs4 (zs0)))) (in_9 _ (zs4 (zs4 (zs1 (zs0))))) (in_8 _ (zs4 (zs4 (zs4 (zs1 (zs1 (zs0))))))) (in_7 _ (zs16 (zs4 (zs4 (zs4 (zs1 (zs0)))))))) rfl rfl rfl ⟨rfl, hz_yX10_add_1⟩ ⟨(show 0 + 1 ≤ 7 * n + 11 from nl_1 (Nat.le_of_ble_eq_true rfl)), (show 8 + (2 + 11) + 40 * (0) ≤ 40 * (7 * n + 11) from nl_2 (Nat.le_of_ble_eq_true rfl))⟩) ⟨HWL_bl, va_recv hK hP (ci := 11) (q0 := posL 2 (LC cf)) rfl (hI.ob 2 (mF 2 rfl) rfl), (HWL_wi hP hK (WL_D hD) hS hA hEV)⟩ rfl rfl hl.1 rfl (lv_room (Nat.le_of_ble_eq_true rfl)) dX10_readUnit_42 ⟨Nat.le_of_ble_eq_true rfl, Nat.le_of_ble_eq_true rfl⟩) (WL_D hD) hS hA (fun E80 H locs hw hP hS => ?_)
          obtain ⟨hI, kq81, hw⟩ := hw
          have hKb := hKp
          have hKp := hKp.tr kq81 (wl_sub rfl rfl)
          obtain ⟨y82, ey82⟩ : ∃ y, xi (E80 2) 5 = y := ⟨_, rfl⟩
          have fy82 : xv (E80 2) 5 = .int y82 := (hI.fi 2 (mF 2 rfl) rfl (Nat.le_of_ble_eq_true rfl) rfl).trans (congrArg Value.int ey82)
          have i83 : 0 ≤ y82.toInt ∧ y82.toInt ≤ 200 := by rw [← ey82]; exact hI.iv 2 (mF 2 rfl) rfl (Nat.le_of_ble_eq_true rfl) rfl
          obtain ⟨f84, f85⟩ := hw
          try rw [(show xi (E70 2) 5 = y72 from vi_e fy72)] at f84
          try rw [(show xi (E80 2) 5 = y82 from vi_e fy82)] at f84
          refine lv_goto (tgt := 94) hx hb dX10_readUnit_45 (by decide) ?_
          rw [hQ]
          exact W.vret hx hb hr (fun t ht hW => ⟨⟨E80, rfl, ⟨hI, hKp, ⟨by (try rw [(show xi (E80 2) 5 = y82 from vi_e fy82)]); (try rw [ey1]); all_goals omega, unC_n (by omega) f13 (by omega) f66 f75 f85 hk9⟩⟩, by show va_P (dC, dI) vwCl (WL (LC cf) ad E80) t.heap; rw [ht]; exact hP⟩, hS.F ht⟩) hS.2.2 dX10_readUnit_94
        · --24 not
          exact absurd c67 (by decide)
      · -- goDeeperX, case 1
        obtain ⟨rfl, f86, f87⟩ := hw
        refine lv_if_ne (tgt := 28) hx hb dX10_readUnit_24 (by decide) (fun c88 => ?_) (fun c88 => ?_)
        · --24 taken
          exact absurd c88 (by decide)
        · --24 not
          rw [hQ]
          exact W.vret hx hb hr (fun t ht hW => ⟨⟨E63, rfl, ⟨hI, hKp, ⟨by (try rw [(show xi (E63 2) 5 = y1 from vi_e ((kq64 2 5 rfl).trans ((kq8 2 5 rfl).trans fy1)))]); (try rw [ey1]); all_goals omega, unC_n0 (by omega) f13 (by omega) f87 (by omega)⟩⟩, by show va_P (dC, dI) vwCl (WL (LC cf) ad E63) t.heap; rw [ht]; exact hP⟩, hS.F ht⟩) hS.2.2 dX10_readUnit_27
  · --1 not
    have t89 : ¬ a1.toInt = 0 := ti_ne c3
    have i90 : 1 ≤ a1.toInt ∧ a1.toInt ≤ 1 := iv_ne_l t89 hh2 (il_ 0)
    refine lv_iconst (v := -1) hx hb dX10_readUnit_4 (by decide) ?_
    refine lv_goto (tgt := 12) hx hb dX10_readUnit_5 (by decide) ?_
    refine lv_istore_n (lv' := [(3, .int (-1)), (0, .ref (ad 2)), (1, .int a0), (2, .int a1)]) hx hb dX10_readUnit_12 rfl hl (by decide) rfl (fun ls hl => ?_)
    refine lv_iload_n hx hb dX10_readUnit_13 rfl (lv_at hl 0 rfl) ?_
    refine lv_bipush (v := 33) hx hb dX10_readUnit_14 (by decide) ?_
    refine lv_icmp_ne (tgt := 48) hx hb dX10_readUnit_16 (by decide) (fun c91 => ?_) (fun c91 => ?_)
    · --16 taken
      refine lv_iload_n hx hb dX10_readUnit_48 rfl (lv_at hl 0 rfl) ?_
      refine lv_bipush (v := 40) hx hb dX10_readUnit_49 (by decide) ?_
      refine lv_icmp_ne (tgt := 80) hx hb dX10_readUnit_51 (by decide) (fun c92 => ?_) (fun c92 => ?_)
      · --51 taken
        refine lv_iload_n hx hb dX10_readUnit_80 rfl (lv_at hl 3 rfl) ?_
        refine lv_if_ne (tgt := 89) hx hb dX10_readUnit_81 (by decide) (fun c93 => ?_) (fun c93 => ?_)
        · --81 taken
          have t94 : ¬ a1.toInt = 0 := ti_ne c93
          refine lv_aload_n hx hb dX10_readUnit_89 rfl (lv_at hl 1 rfl) ?_
          refine lv_iload_n hx hb dX10_readUnit_90 rfl (lv_at hl 2 rfl) ?_
          refine th_vL (va_runV (As := [.int a0]) (rest := []) ⟨hx, hb, hml, hown, hts⟩ (gC dC dI cT cf hC ad E s.heap.size a0 hI hh0 (by omega)) (cwV 1 hts (gi_V (in_10 _ zs0) (in_10 _ (zs1 (zs0))) (in_10 _ (zs1 (zs1 (zs0)))) (in_8 _ (zs4 (zs4 (zs4 (zs1 (zs1 (zs0))))))) (in_10 _ (zs1 (zs1 (zs1 (zs0)))))) rfl rfl rfl (by decide +kernel) ⟨(show 7 * n + 10 + 1 ≤ 7 * n + 11 from nl_4 (Nat.le_of_ble_eq_true rfl) (Nat.le_of_ble_eq_true rfl)), (show 8 + (3 + 11) + 40 * (7 * n + 10) ≤ 40 * (7 * n + 11) from nl_3 (Nat.le_of_ble_eq_true rfl) (Nat.le_of_ble_eq_true rfl))⟩) ⟨HWL_bl, va_recv hK hP (ci := 11) (q0 := posL 2 (LC cf)) rfl (hI.ob 2 (mF 2 rfl) rfl), (HWL_wi hP hK (WL_D hD) hS hA hEV)⟩ rfl rfl hl.1 rfl (lv_room (Nat.le_of_ble_eq_true rfl)) dX10_readUnit_91 ⟨Nat.le_of_ble_eq_true rfl, Nat.le_of_ble_eq_true rfl⟩) (WL_D hD) hS hA (fun E96 H locs hw hP hS => ?_)
          obtain ⟨hI, kq97, hw⟩ := hw
          have hKb := hKp
          have hKp := hKp.tr kq97 (wl_sub rfl rfl)
          obtain ⟨y98, ey98⟩ : ∃ y, xi (E96 2) 5 = y := ⟨_, rfl⟩
          have fy98 : xv (E96 2) 5 = .int y98 := (hI.fi 2 (mF 2 rfl) rfl (Nat.le_of_ble_eq_true rfl) rfl).trans (congrArg Value.int ey98)
          have i99 : 0 ≤ y98.toInt ∧ y98.toInt ≤ 200 := by rw [← ey98]; exact hI.iv 2 (mF 2 rfl) rfl (Nat.le_of_ble_eq_true rfl) rfl
          obtain ⟨f100, f101⟩ := hw
          try rw [(show xi (E 2) 5 = y1 from vi_e fy1)] at f100
          try rw [(show xi (E96 2) 5 = y98 from vi_e fy98)] at f100
          rw [hQ]
          exact W.vret hx hb hr (fun t ht hW => ⟨⟨E96, rfl, ⟨hI, hKp, ⟨by (try rw [(show xi (E96 2) 5 = y98 from vi_e fy98)]); (try rw [ey1]); all_goals omega, unC_b (by omega) f101⟩⟩, by show va_P (dC, dI) vwCl (WL (LC cf) ad E96) t.heap; rw [ht]; exact hP⟩, hS.F ht⟩) hS.2.2 dX10_readUnit_94
        · --81 not
          have t102 : a1.toInt = 0 := ti_eq c93
          have i103 : 1 ≤ a1.toInt ∧ a1.toInt ≤ 0 := iv_eqi t102 i90 (il_ 0) (by decide)
          exact iv_no i103 (by decide)
      · --51 not
        exact absurd c92 (by decide)
    · --16 not
      exact absurd c91 (by decide)
set_option maxHeartbeats 4000000 in
set_option maxRecDepth 100000 in
theorem q_readPartX (l : Launch) (n : Nat) (gU : C_readUnitX l n) : C_readPartX l n := by
  intro dC dI cT cf hC ad E sz a0 a1 hI0 hh0 hh1 hh2
  obtain ⟨⟨hc0, hc1, hc2, hc3, hc4, hc5⟩, hcr⟩ := id hC
  refine Met.ofW (cc := cX10_readPart) (maxL := 4) (ret := none) (by decide) rfl ?_
  intro p e s m args below meth c s₁ B hml hv
  obtain ⟨hargs, hsz, hP, hK, hD0, hEV⟩ := hv
  subst hsz
  have hx := B.exec
  have hb := B.bytes
  have hr := B.returns
  have hts := atoms_spec (ws := v_readPartX) B.pre
  have hown : s.vm.findClass RX10 = some m.cls := findClass_of_methodNamed B.named
  have hlocks := B.notSynchronized
  have hinX10 : ∀ w ∈ u_ws RX10 TX10 10, w ∈ v_readPartX := fun w h => vA_in _ w (in_X10 w h)
  generalize hAe : va_A (WL (LC cf) ad E) s.heap.size = A at hEV ⊢
  have hA : ∀ q : Nat, s.heap.size ≤ q → A q := fun q h => by rw [← hAe]; exact Or.inr h
  have hD : va_D A (WL (LC cf) ad E) := by rw [← hAe]; exact hD0.self
  have hS : va_S A s.heap s.heap [] := va_S.rf
  have hI := hI0
  have hKp : Kp w_readPartX E E := Kp.rf
  have hl := lv_entry ([.ref (ad 2), .int a0, .int a1]) (n := 4) (Nat.le_of_ble_eq_true rfl)
  obtain ⟨Q, hQ⟩ : ∃ Q, Q = MQ below (va_Qv (S := Nat → va_E) (fun u => IXL cT (shC cf) (spC cf) (LC cf) ad u ∧ Kp w_readPartX E u ∧ (((xi (E 2) 5).toInt ≤ (xi (u 2) 5).toInt) ∧ (RdC (paX a1 n) E u))) (HBL dC dI (LC cf) ad) (A)) args s 0 0 (A) := ⟨_, rfl⟩
  rw [← hQ, show entryFrame m args 4 = _ from (congrArg (fun z => entryFrame m z 4) hargs).trans (lg_entry_eq _ _ _)]
  generalize (lg_sl ([.ref (ad 2), .int a0, .int a1]) ++ List.replicate (4 - (lg_sl ([.ref (ad 2), .int a0, .int a1])).length) Slot.unset).toArray = ls at hl ⊢
  have hl : lv_has ls 4 [(0, .ref (ad 2)), (1, .int a0), (2, .int a1)] := hl
  obtain ⟨y1, ey1⟩ : ∃ y, xi (E 2) 5 = y := ⟨_, rfl⟩
  have fy1 : xv (E 2) 5 = .int y1 := (hI.fi 2 (mF 2 rfl) rfl (Nat.le_of_ble_eq_true rfl) rfl).trans (congrArg Value.int ey1)
  have i2 : 0 ≤ y1.toInt ∧ y1.toInt ≤ 200 := by rw [← ey1]; exact hI.iv 2 (mF 2 rfl) rfl (Nat.le_of_ble_eq_true rfl) rfl
  have i3 : 0 ≤ (xi (E 2) 1).toInt ∧ (xi (E 2) 1).toInt ≤ 200 := hI0.iv 2 (mF 2 rfl) rfl (Nat.le_of_ble_eq_true rfl) rfl
  refine lv_aload_n hx hb dX10_readPart_0 rfl (lv_at hl 0 rfl) ?_
  refine lv_iload_n hx hb dX10_readPart_1 rfl (lv_at hl 1 rfl) ?_
  refine lv_iload_n hx hb dX10_readPart_2 rfl (lv_at hl 2 rfl) ?_
  refine th_vL (va_runV (As := [.int a0, .int a1]) (rest := []) ⟨hx, hb, hml, hown, hts⟩ (gU dC dI cT cf hC ad E s.heap.size a0 a1 hI hh0 (by omega) hh2) (cwV 2 hts (gi_V (in_9 _ (zs16 (zs16 (zs4 (zs0))))) (in_9 _ (zs16 (zs16 (zs4 (zs1 (zs0)))))) (in_9 _ (zs16 (zs16 (zs4 (zs1 (zs1 (zs0))))))) (in_8 _ (zs4 (zs4 (zs4 (zs1 (zs1 (zs0))))))) (in_9 _ (zs16 (zs16 (zs4 (zs1 (zs1 (zs1 (zs0))))))))) rfl rfl rfl (by decide +kernel) ⟨(show 7 * n + 11 + 1 ≤ 7 * n + 12 from nl_4 (Nat.le_of_ble_eq_true rfl) (Nat.le_of_ble_eq_true rfl)), (show 8 + (4 + 11) + 40 * (7 * n + 11) ≤ 40 * (7 * n + 12) from nl_3 (Nat.le_of_ble_eq_true rfl) (Nat.le_of_ble_eq_true rfl))⟩) ⟨HWL_bl, va_recv hK hP (ci := 11) (q0 := posL 2 (LC cf)) rfl (hI.ob 2 (mF 2 rfl) rfl), (HWL_wi hP hK (WL_D hD) hS hA hEV)⟩ rfl rfl hl.1 rfl (lv_room (Nat.le_of_ble_eq_true rfl)) dX10_readPart_3 ⟨Nat.le_of_ble_eq_true rfl, Nat.le_of_ble_eq_true rfl⟩) (WL_D hD) hS hA (fun E5 H locs hw hP hS => ?_)
  obtain ⟨hI, kq6, hw⟩ := hw
  have hKb := hKp
  have hKp := hKp.tr kq6 (wl_sub rfl rfl)
  obtain ⟨y7, ey7⟩ : ∃ y, xi (E5 2) 5 = y := ⟨_, rfl⟩
  have fy7 : xv (E5 2) 5 = .int y7 := (hI.fi 2 (mF 2 rfl) rfl (Nat.le_of_ble_eq_true rfl) rfl).trans (congrArg Value.int ey7)
  have i8 : 0 ≤ y7.toInt ∧ y7.toInt ≤ 200 := by rw [← ey7]; exact hI.iv 2 (mF 2 rfl) rfl (Nat.le_of_ble_eq_true rfl) rfl
  obtain ⟨f9, f10⟩ := hw
  try rw [(show xi (E 2) 5 = y1 from vi_e fy1)] at f9
  try rw [(show xi (E5 2) 5 = y7 from vi_e fy7)] at f9
  refine lv_iconst (v := 0) hx hb dX10_readPart_6 (by decide) ?_
  refine lv_istore_n (lv' := [(3, .int 0), (0, .ref (ad 2)), (1, .int a0), (2, .int a1)]) hx hb dX10_readPart_7 rfl hl (by decide) rfl (fun ls hl => ?_)
  have hL8 : ∀ d : Nat, ∀ (w8_2_5 : Int32) (v8_3 : Int32) (E8_ : Nat → va_E) (H : Heap) (locs : List Loc) (ls : Array Slot), 0 ≤ w8_2_5.toInt ∧ w8_2_5.toInt ≤ 200 → 0 ≤ v8_3.toInt ∧ v8_3.toInt ≤ 200 → y1.toInt ≤ w8_2_5.toInt → Lp (paX a1 n) (fun t m => opL t m isAnd jb ((unX 0 n) t m)) v8_3.toInt E E8_ → 200 - v8_3.toInt < (d : Int) → IXL cT (shC cf) (spC cf) (LC cf) ad E8_ → Kp w_readPartX E E8_ → xv (E8_ 2) 5 = .int w8_2_5 → va_P (dC, dI) vwCl (WL (LC cf) ad E8_) H → va_S A s.heap H locs → lv_has ls 4 [(3, .int v8_3), (0, .ref (ad 2)), (1, .int a0), (2, .int a1)] → W p l e (headSpec v_readPartX (rm_readPartX n)).room s m args below meth c H locs 0 0 Q (F0 m 8 ls []) := by
    intro d
    induction d with
    | zero =>
      intro w8_2_5 v8_3 E8_ H locs ls hw8_2_5 hv8_3 hx8_0 hx8_1 hx8_2 hI hKp hs8_2_5 hP hS hl
      exact absurd hx8_2 (by first | exact ms_zu hv8_3.2 | omega)
    | succ d ih8 =>
      intro w8_2_5 v8_3 E8_ H locs ls hw8_2_5 hv8_3 hx8_0 hx8_1 hx8_2 hI hKp hs8_2_5 hP hS hl
      refine lv_iload_n hx hb dX10_readPart_8 rfl (lv_at hl 0 rfl) ?_
      refine lv_sipush (v := 200) hx hb dX10_readPart_9 (by decide) ?_
      refine lv_icmp_ge (tgt := 55) hx hb dX10_readPart_12 (by decide) (fun c11 => ?_) (fun c11 => ?_)
      · --12 taken
        have t12 : (200 : Int) ≤ v8_3.toInt := ti_le c11
        have i13 : 200 ≤ v8_3.toInt ∧ v8_3.toInt ≤ 200 := iv_le_r t12 (il_ 200) hv8_3 (by decide)
        rw [hQ]
        exact W.vret hx hb hr (fun t ht hW => ⟨⟨E8_, rfl, ⟨hI, hKp, ⟨by (try rw [(show xi (E8_ 2) 5 = w8_2_5 from vi_e hs8_2_5)]); (try rw [ey1]); all_goals omega, Lp.fin (op := isAnd) hx8_1 (by have kl := tN_e (E := E) (by omega); omega) rfl (fun t m a c h => opL_0 h)⟩⟩, by show va_P (dC, dI) vwCl (WL (LC cf) ad E8_) t.heap; rw [ht]; exact hP⟩, hS.F ht⟩) hS.2.2 dX10_readPart_55
      · --12 not
        have t14 : v8_3.toInt < 200 := ti_nle c11
        have i15 : 0 ≤ v8_3.toInt ∧ v8_3.toInt ≤ 199 := iv_lt_l t14 hv8_3 (il_ 200) (by decide)
        refine lv_aload_n hx hb dX10_readPart_15 rfl (lv_at hl 1 rfl) ?_
        refine th_iL (va_runV (As := []) (rest := []) ⟨hx, hb, hml, hown, hts⟩ (q_nextX l dC dI cT cf hC ad E8_ H.size hI) (cwV 0 hts (gi_V (in_8 _ (zs16 (zs4 (zs4 (zs1 (zs1 (zs1 (zs0)))))))) (in_8 _ (zs16 (zs4 (zs4 (zs4 (zs0)))))) (in_8 _ (zs16 (zs4 (zs4 (zs4 (zs1 (zs0))))))) (in_8 _ (zs4 (zs4 (zs4 (zs1 (zs1 (zs0))))))) (in_8 _ (zs16 (zs1 (zs1 (zs1 (zs0))))))) rfl rfl rfl ⟨rfl, hz_yX10_next_0⟩ ⟨(show 0 + 1 ≤ 7 * n + 12 from nl_1 (Nat.le_of_ble_eq_true rfl)), (show 8 + (1 + 11) + 40 * (0) ≤ 40 * (7 * n + 12) from nl_2 (Nat.le_of_ble_eq_true rfl))⟩) ⟨HWL_bl, va_recv hK hP (ci := 11) (q0 := posL 2 (LC cf)) rfl (hI.ob 2 (mF 2 rfl) rfl), (HWL_wi hP hK (WL_D hD) hS hA hEV)⟩ rfl rfl hl.1 rfl (lv_room (Nat.le_of_ble_eq_true rfl)) dX10_readPart_16 ⟨Nat.le_of_ble_eq_true rfl, Nat.le_of_ble_eq_true rfl⟩) (WL_D hD) hS hA (fun r16 E17 H locs hw hP hS => ?_)
        obtain ⟨hI, kq18, hw⟩ := hw
        have hKb := hKp
        have hKp := hKp.tr kq18 (wl_sub rfl rfl)
        obtain ⟨y19, ey19⟩ : ∃ y, xi (E17 2) 2 = y := ⟨_, rfl⟩
        have fy19 : xv (E17 2) 2 = .int y19 := (hI.fi 2 (mF 2 rfl) rfl (Nat.le_of_ble_eq_true rfl) rfl).trans (congrArg Value.int ey19)
        have i20 : 0 ≤ y19.toInt ∧ y19.toInt ≤ 200 := by rw [← ey19]; exact hI.iv 2 (mF 2 rfl) rfl (Nat.le_of_ble_eq_true rfl) rfl
        obtain ⟨f21, f22, f23⟩ := hw
        try rw [hKb.ei 2 1 rfl] at f22
        try rw [(show xi (E17 2) 2 = y19 from vi_e fy19)] at f22
        refine lv_bipush (v := 38) hx hb dX10_readPart_19 (by decide) ?_
        refine lv_icmp_ne (tgt := 55) hx hb dX10_readPart_21 (by decide) (fun c24 => ?_) (fun c24 => ?_)
        · --21 taken
          have t25 : ¬ r16.toInt = 38 := ti_ne c24
          rw [hQ]
          exact W.vret hx hb hr (fun t ht hW => ⟨⟨E17, rfl, ⟨hI, hKp, ⟨by (try rw [(show xi (E17 2) 5 = w8_2_5 from vi_e ((kq18 2 5 rfl).trans hs8_2_5))]); (try rw [ey1]); all_goals omega, Lp.exit (op := isAnd) hx8_1 f23 (fun q9 => by have q8 := is_and.mp q9; omega) (fun t m a c h => opL_0 h)⟩⟩, by show va_P (dC, dI) vwCl (WL (LC cf) ad E17) t.heap; rw [ht]; exact hP⟩, hS.F ht⟩) hS.2.2 dX10_readPart_55
        · --21 not
          have t26 : r16.toInt = 38 := ti_eq c24
          have i27 : 38 ≤ r16.toInt ∧ r16.toInt ≤ 38 := iv_eqi t26 f21 (il_ 38) (by decide)
          refine lv_aload_n hx hb dX10_readPart_24 rfl (lv_at hl 1 rfl) ?_
          refine lv_dup hx hb dX10_readPart_25 rfl ?_
          refine th_getL (ci := 11) (C := RX10) (T := TX10) (N := 10) (v := .int y19) hx hb hts hinX10 hown hK hP hI 2 (mF 2 rfl) rfl rfl 2 (Nat.le_of_ble_eq_true rfl) (hts _ (vA_in _ _ (in_8 _ (zs4 (zs4 (zs1 (zs0))))))) (fun _ h9 => h9) fy19 dX10_readPart_26 ?_
          refine lv_iconst (v := 1) hx hb dX10_readPart_29 (by decide) ?_
          refine lv_iadd hx hb dX10_readPart_30 ?_
          refine lv_topi (fun y28 ey28 => ?_)
          obtain ⟨ty28, iy28⟩ := ti_add (e := 1) (f := 201) i20 ln_1 ey28 (by decide)
          have ty28 : y28.toInt = y19.toInt + 1 := ty28
          have iy28 : 1 ≤ y28.toInt ∧ y28.toInt ≤ 201 := iy28
          have i29 : 1 ≤ y28.toInt ∧ y28.toInt ≤ 200 := by omega
          refine th_putL (ci := 11) (C := RX10) (T := TX10) (N := 10) (v := .int y28) (ty := .int) hx hb hts hinX10 tyX10 tyX10_ok nmX10 hown hK hP (WL_D hD) hS hI 2 (mF 2 rfl) rfl rfl 2 (Nat.le_of_ble_eq_true rfl) (hts _ (vA_in _ _ (in_8 _ (zs4 (zs4 (zs1 (zs0))))))) (fun _ h9 => h9) rfl (by decide +kernel) rfl rfl (okI rfl (iv_w i29 (by decide))) dX10_readPart_31 (fun H locs E30 pw31 hI hP hS => ?_)
          have hKp := hKp.pw pw31 rfl
          have k32 : AtP E17 E30 := AtP.pw pw31.2 (vi_e fy19) (vi_e pw31.1) ty28 (by omega)
          refine lv_aload_n hx hb dX10_readPart_34 rfl (lv_at hl 1 rfl) ?_
          refine lv_iload_n hx hb dX10_readPart_35 rfl (lv_at hl 2 rfl) ?_
          refine lv_iconst (v := 0) hx hb dX10_readPart_36 (by decide) ?_
          have z0 := ln_0
          refine th_vL (va_runV (As := [.int a0, .int 0]) (rest := []) ⟨hx, hb, hml, hown, hts⟩ (gU dC dI cT cf hC ad E30 H.size a0 (0 : Int32) hI hh0 (by omega) (iv_w ln_0 (by decide))) (cwV 2 hts (gi_V (in_9 _ (zs16 (zs16 (zs4 (zs0))))) (in_9 _ (zs16 (zs16 (zs4 (zs1 (zs0)))))) (in_9 _ (zs16 (zs16 (zs4 (zs1 (zs1 (zs0))))))) (in_8 _ (zs4 (zs4 (zs4 (zs1 (zs1 (zs0))))))) (in_9 _ (zs16 (zs16 (zs4 (zs1 (zs1 (zs1 (zs0))))))))) rfl rfl rfl (by decide +kernel) ⟨(show 7 * n + 11 + 1 ≤ 7 * n + 12 from nl_4 (Nat.le_of_ble_eq_true rfl) (Nat.le_of_ble_eq_true rfl)), (show 8 + (4 + 11) + 40 * (7 * n + 11) ≤ 40 * (7 * n + 12) from nl_3 (Nat.le_of_ble_eq_true rfl) (Nat.le_of_ble_eq_true rfl))⟩) ⟨HWL_bl, va_recv hK hP (ci := 11) (q0 := posL 2 (LC cf)) rfl (hI.ob 2 (mF 2 rfl) rfl), (HWL_wi hP hK (WL_D hD) hS hA hEV)⟩ rfl rfl hl.1 rfl (lv_room (Nat.le_of_ble_eq_true rfl)) dX10_readPart_37 ⟨Nat.le_of_ble_eq_true rfl, Nat.le_of_ble_eq_true rfl⟩) (WL_D hD) hS hA (fun E34 H locs hw hP hS => ?_)
          obtain ⟨hI, kq35, hw⟩ := hw
          have hKb := hKp
          have hKp := hKp.tr kq35 (wl_sub rfl rfl)
          obtain ⟨y36, ey36⟩ : ∃ y, xi (E34 2) 5 = y := ⟨_, rfl⟩
          have fy36 : xv (E34 2) 5 = .int y36 := (hI.fi 2 (mF 2 rfl) rfl (Nat.le_of_ble_eq_true rfl) rfl).trans (congrArg Value.int ey36)
          have i37 : 0 ≤ y36.toInt ∧ y36.toInt ≤ 200 := by rw [← ey36]; exact hI.iv 2 (mF 2 rfl) rfl (Nat.le_of_ble_eq_true rfl) rfl
          obtain ⟨f38, f39⟩ := hw
          try rw [(show xi (E30 2) 5 = w8_2_5 from vi_e ((pw31.2 2 5 (fun q9 => absurd q9.2 (Nat.ne_of_beq_eq_false rfl))).trans ((kq18 2 5 rfl).trans hs8_2_5)))] at f38
          try rw [(show xi (E34 2) 5 = y36 from vi_e fy36)] at f38
          refine lv_aload_n hx hb dX10_readPart_40 rfl (lv_at hl 1 rfl) ?_
          refine lv_bipush (v := 38) hx hb dX10_readPart_41 (by decide) ?_
          refine th_pi (va_runS (As := [.int 38]) (rest := [.ref (ad 2)]) ⟨hx, hb, hml, hown, hts⟩ (q_casSign l (38 : Int32) (iv_w ln_38 (by decide))) (va_cwS 1 hts (gi_S (in_9 _ (zs4 (zs1 (zs1 (zs0))))) (in_7 _ (zs4 (zs4 (zs4 (zs1 (zs0)))))) (in_7 _ (zs1 (zs1 (zs0)))) (in_7 _ (zs4 (zs4 (zs4 (zs1 (zs1 (zs0)))))))) rfl rfl rfl hz_yX7_asSign_1 ⟨(show 0 + 1 ≤ 7 * n + 12 from nl_1 (Nat.le_of_ble_eq_true rfl)), (show 8 + (1 + 11) + 40 * (0) ≤ 40 * (7 * n + 12) from nl_2 (Nat.le_of_ble_eq_true rfl))⟩) ⟨fun _ _ _ _ q => q, fun _ _ _ => ⟨rfl, trivial⟩⟩ rfl rfl hl.1 rfl (lv_room (Nat.le_of_ble_eq_true rfl)) dX10_readPart_43 ⟨Nat.le_of_ble_eq_true rfl, Nat.le_of_ble_eq_true rfl⟩) hS (fun r40 H1 locs1 hw hk1 hS => ?_)
          have hP := ub_keep hP hk1
          generalize H1 = H at hP hS ⊢
          generalize locs1 = locs at hS ⊢
          obtain ⟨f41, f42⟩ := hw
          refine th_vL (va_runV (As := [.int r40]) (rest := []) ⟨hx, hb, hml, hown, hts⟩ (q_addX l dC dI cT cf hC ad E34 H.size r40 hI) (cwV 1 hts (gi_V (in_9 _ (zs4 (zs1 (zs1 (zs1 (zs0)))))) (in_9 _ (zs4 (zs4 (zs0)))) (in_9 _ (zs4 (zs4 (zs1 (zs0))))) (in_8 _ (zs4 (zs4 (zs4 (zs1 (zs1 (zs0))))))) (in_7 _ (zs16 (zs4 (zs4 (zs4 (zs1 (zs0)))))))) rfl rfl rfl ⟨rfl, hz_yX10_add_1⟩ ⟨(show 0 + 1 ≤ 7 * n + 12 from nl_1 (Nat.le_of_ble_eq_true rfl)), (show 8 + (2 + 11) + 40 * (0) ≤ 40 * (7 * n + 12) from nl_2 (Nat.le_of_ble_eq_true rfl))⟩) ⟨HWL_bl, va_recv hK hP (ci := 11) (q0 := posL 2 (LC cf)) rfl (hI.ob 2 (mF 2 rfl) rfl), (HWL_wi hP hK (WL_D hD) hS hA hEV)⟩ rfl rfl hl.1 rfl (lv_room (Nat.le_of_ble_eq_true rfl)) dX10_readPart_46 ⟨Nat.le_of_ble_eq_true rfl, Nat.le_of_ble_eq_true rfl⟩) (WL_D hD) hS hA (fun E44 H locs hw hP hS => ?_)
          obtain ⟨hI, kq45, hw⟩ := hw
          have hKb := hKp
          have hKp := hKp.tr kq45 (wl_sub rfl rfl)
          obtain ⟨y46, ey46⟩ : ∃ y, xi (E44 2) 5 = y := ⟨_, rfl⟩
          have fy46 : xv (E44 2) 5 = .int y46 := (hI.fi 2 (mF 2 rfl) rfl (Nat.le_of_ble_eq_true rfl) rfl).trans (congrArg Value.int ey46)
          have i47 : 0 ≤ y46.toInt ∧ y46.toInt ≤ 200 := by rw [← ey46]; exact hI.iv 2 (mF 2 rfl) rfl (Nat.le_of_ble_eq_true rfl) rfl
          obtain ⟨f48, f49⟩ := hw
          try rw [(show xi (E34 2) 5 = y36 from vi_e fy36)] at f48
          try rw [(show xi (E44 2) 5 = y46 from vi_e fy46)] at f48
          obtain ⟨y50, ey50⟩ : ∃ y : Int32, y = v8_3 + (1 : Int32) := ⟨_, rfl⟩
          obtain ⟨ty50, iy50⟩ := ti_add (e := 1) (f := 200) i15 ln_1 ey50 (by decide)
          have ty50 : y50.toInt = v8_3.toInt + 1 := ty50
          have iy50 : 1 ≤ y50.toInt ∧ y50.toInt ≤ 200 := iy50
          refine lv_iinc (v := y50) (lv' := [(3, .int y50), (0, .ref (ad 2)), (1, .int a0), (2, .int a1)]) hx hb dX10_readPart_49 hl (k := 0) rfl (by rw [ey50]; rfl) (by decide) rfl (fun ls hl => ?_)
          refine lv_goto (tgt := 8) hx hb dX10_readPart_52 (by decide) ?_
          exact ih8 y46 y50 E44 _ _ _ i47 (iv_w iy50 (by decide)) (by have h9 := i47; omega) (Lp.step (op := isAnd) (cb := jb) hx8_1 f23 (is_and.mpr (by omega)) (by omega) k32 f39 f49 ty50 (fun t m => unX_mono n t m) (fun t m a c h => opL_1 (unX_mono n t m) rfl h)) (by first | exact ms_su hx8_2 ty50 (by decide) | omega) hI hKp fy46 hP hS (lv_sub hl [0, 1, 2, 3] rfl)
  exact hL8 (201) y7 (0 : Int32) E5 _ _ _ i8 (iv_w ln_0 (by decide)) (by have h9 := i8; omega) (Lp.start f10 lpP (by decide)) (by have h9 := ln_0; first | exact ms_bu h9.1 (by decide) | omega) hI hKp fy7 hP hS (lv_sub hl [0, 1, 2, 3] rfl)
set_option maxHeartbeats 4000000 in
set_option maxRecDepth 100000 in
theorem q_readConditionX (l : Launch) (n : Nat) (gP : C_readPartX l n) : C_readConditionX l n := by
  intro dC dI cT cf hC ad E sz a0 a1 hI0 hh0 hh1 hh2
  obtain ⟨⟨hc0, hc1, hc2, hc3, hc4, hc5⟩, hcr⟩ := id hC
  refine Met.ofW (cc := cX10_readCondition) (maxL := 4) (ret := none) (by decide) rfl ?_
  intro p e s m args below meth c s₁ B hml hv
  obtain ⟨hargs, hsz, hP, hK, hD0, hEV⟩ := hv
  subst hsz
  have hx := B.exec
  have hb := B.bytes
  have hr := B.returns
  have hts := atoms_spec (ws := v_readConditionX) B.pre
  have hown : s.vm.findClass RX10 = some m.cls := findClass_of_methodNamed B.named
  have hlocks := B.notSynchronized
  have hinX10 : ∀ w ∈ u_ws RX10 TX10 10, w ∈ v_readConditionX := fun w h => vA_in _ w (in_X10 w h)
  generalize hAe : va_A (WL (LC cf) ad E) s.heap.size = A at hEV ⊢
  have hA : ∀ q : Nat, s.heap.size ≤ q → A q := fun q h => by rw [← hAe]; exact Or.inr h
  have hD : va_D A (WL (LC cf) ad E) := by rw [← hAe]; exact hD0.self
  have hS : va_S A s.heap s.heap [] := va_S.rf
  have hI := hI0
  have hKp : Kp w_readConditionX E E := Kp.rf
  have hl := lv_entry ([.ref (ad 2), .int a0, .int a1]) (n := 4) (Nat.le_of_ble_eq_true rfl)
  obtain ⟨Q, hQ⟩ : ∃ Q, Q = MQ below (va_Qv (S := Nat → va_E) (fun u => IXL cT (shC cf) (spC cf) (LC cf) ad u ∧ Kp w_readConditionX E u ∧ (((xi (E 2) 5).toInt ≤ (xi (u 2) 5).toInt) ∧ (RdC (coX a1 n) E u))) (HBL dC dI (LC cf) ad) (A)) args s 0 0 (A) := ⟨_, rfl⟩
  rw [← hQ, show entryFrame m args 4 = _ from (congrArg (fun z => entryFrame m z 4) hargs).trans (lg_entry_eq _ _ _)]
  generalize (lg_sl ([.ref (ad 2), .int a0, .int a1]) ++ List.replicate (4 - (lg_sl ([.ref (ad 2), .int a0, .int a1])).length) Slot.unset).toArray = ls at hl ⊢
  have hl : lv_has ls 4 [(0, .ref (ad 2)), (1, .int a0), (2, .int a1)] := hl
  obtain ⟨y1, ey1⟩ : ∃ y, xi (E 2) 5 = y := ⟨_, rfl⟩
  have fy1 : xv (E 2) 5 = .int y1 := (hI.fi 2 (mF 2 rfl) rfl (Nat.le_of_ble_eq_true rfl) rfl).trans (congrArg Value.int ey1)
  have i2 : 0 ≤ y1.toInt ∧ y1.toInt ≤ 200 := by rw [← ey1]; exact hI.iv 2 (mF 2 rfl) rfl (Nat.le_of_ble_eq_true rfl) rfl
  have i3 : 0 ≤ (xi (E 2) 1).toInt ∧ (xi (E 2) 1).toInt ≤ 200 := hI0.iv 2 (mF 2 rfl) rfl (Nat.le_of_ble_eq_true rfl) rfl
  refine lv_aload_n hx hb dX10_readCondition_0 rfl (lv_at hl 0 rfl) ?_
  refine lv_iload_n hx hb dX10_readCondition_1 rfl (lv_at hl 1 rfl) ?_
  refine lv_iload_n hx hb dX10_readCondition_2 rfl (lv_at hl 2 rfl) ?_
  refine th_vL (va_runV (As := [.int a0, .int a1]) (rest := []) ⟨hx, hb, hml, hown, hts⟩ (gP dC dI cT cf hC ad E s.heap.size a0 a1 hI hh0 (by omega) hh2) (cwV 2 hts (gi_V (in_9 _ (zs16 (zs16 (zs0)))) (in_9 _ (zs16 (zs16 (zs1 (zs0))))) (in_9 _ (zs16 (zs16 (zs1 (zs1 (zs0)))))) (in_8 _ (zs4 (zs4 (zs4 (zs1 (zs1 (zs0))))))) (in_9 _ (zs16 (zs16 (zs1 (zs1 (zs1 (zs0)))))))) rfl rfl rfl (by decide +kernel) ⟨(show 7 * n + 12 + 1 ≤ 7 * n + 13 from nl_4 (Nat.le_of_ble_eq_true rfl) (Nat.le_of_ble_eq_true rfl)), (show 8 + (4 + 11) + 40 * (7 * n + 12) ≤ 40 * (7 * n + 13) from nl_3 (Nat.le_of_ble_eq_true rfl) (Nat.le_of_ble_eq_true rfl))⟩) ⟨HWL_bl, va_recv hK hP (ci := 11) (q0 := posL 2 (LC cf)) rfl (hI.ob 2 (mF 2 rfl) rfl), (HWL_wi hP hK (WL_D hD) hS hA hEV)⟩ rfl rfl hl.1 rfl (lv_room (Nat.le_of_ble_eq_true rfl)) dX10_readCondition_3 ⟨Nat.le_of_ble_eq_true rfl, Nat.le_of_ble_eq_true rfl⟩) (WL_D hD) hS hA (fun E5 H locs hw hP hS => ?_)
  obtain ⟨hI, kq6, hw⟩ := hw
  have hKb := hKp
  have hKp := hKp.tr kq6 (wl_sub rfl rfl)
  obtain ⟨y7, ey7⟩ : ∃ y, xi (E5 2) 5 = y := ⟨_, rfl⟩
  have fy7 : xv (E5 2) 5 = .int y7 := (hI.fi 2 (mF 2 rfl) rfl (Nat.le_of_ble_eq_true rfl) rfl).trans (congrArg Value.int ey7)
  have i8 : 0 ≤ y7.toInt ∧ y7.toInt ≤ 200 := by rw [← ey7]; exact hI.iv 2 (mF 2 rfl) rfl (Nat.le_of_ble_eq_true rfl) rfl
  obtain ⟨f9, f10⟩ := hw
  try rw [(show xi (E 2) 5 = y1 from vi_e fy1)] at f9
  try rw [(show xi (E5 2) 5 = y7 from vi_e fy7)] at f9
  refine lv_iconst (v := 0) hx hb dX10_readCondition_6 (by decide) ?_
  refine lv_istore_n (lv' := [(3, .int 0), (0, .ref (ad 2)), (1, .int a0), (2, .int a1)]) hx hb dX10_readCondition_7 rfl hl (by decide) rfl (fun ls hl => ?_)
  have hL8 : ∀ d : Nat, ∀ (w8_2_5 : Int32) (v8_3 : Int32) (E8_ : Nat → va_E) (H : Heap) (locs : List Loc) (ls : Array Slot), 0 ≤ w8_2_5.toInt ∧ w8_2_5.toInt ≤ 200 → 0 ≤ v8_3.toInt ∧ v8_3.toInt ≤ 200 → y1.toInt ≤ w8_2_5.toInt → Lp (coX a1 n) (fun t m => opL t m isOr jb ((paX 0 n) t m)) v8_3.toInt E E8_ → 200 - v8_3.toInt < (d : Int) → IXL cT (shC cf) (spC cf) (LC cf) ad E8_ → Kp w_readConditionX E E8_ → xv (E8_ 2) 5 = .int w8_2_5 → va_P (dC, dI) vwCl (WL (LC cf) ad E8_) H → va_S A s.heap H locs → lv_has ls 4 [(3, .int v8_3), (0, .ref (ad 2)), (1, .int a0), (2, .int a1)] → W p l e (headSpec v_readConditionX (rm_readConditionX n)).room s m args below meth c H locs 0 0 Q (F0 m 8 ls []) := by
    intro d
    induction d with
    | zero =>
      intro w8_2_5 v8_3 E8_ H locs ls hw8_2_5 hv8_3 hx8_0 hx8_1 hx8_2 hI hKp hs8_2_5 hP hS hl
      exact absurd hx8_2 (by first | exact ms_zu hv8_3.2 | omega)
    | succ d ih8 =>
      intro w8_2_5 v8_3 E8_ H locs ls hw8_2_5 hv8_3 hx8_0 hx8_1 hx8_2 hI hKp hs8_2_5 hP hS hl
      refine lv_iload_n hx hb dX10_readCondition_8 rfl (lv_at hl 0 rfl) ?_
      refine lv_sipush (v := 200) hx hb dX10_readCondition_9 (by decide) ?_
      refine lv_icmp_ge (tgt := 55) hx hb dX10_readCondition_12 (by decide) (fun c11 => ?_) (fun c11 => ?_)
      · --12 taken
        have t12 : (200 : Int) ≤ v8_3.toInt := ti_le c11
        have i13 : 200 ≤ v8_3.toInt ∧ v8_3.toInt ≤ 200 := iv_le_r t12 (il_ 200) hv8_3 (by decide)
        rw [hQ]
        exact W.vret hx hb hr (fun t ht hW => ⟨⟨E8_, rfl, ⟨hI, hKp, ⟨by (try rw [(show xi (E8_ 2) 5 = w8_2_5 from vi_e hs8_2_5)]); (try rw [ey1]); all_goals omega, Lp.fin (op := isOr) hx8_1 (by have kl := tN_e (E := E) (by omega); omega) rfl (fun t m a c h => opL_0 h)⟩⟩, by show va_P (dC, dI) vwCl (WL (LC cf) ad E8_) t.heap; rw [ht]; exact hP⟩, hS.F ht⟩) hS.2.2 dX10_readCondition_55
      · --12 not
        have t14 : v8_3.toInt < 200 := ti_nle c11
        have i15 : 0 ≤ v8_3.toInt ∧ v8_3.toInt ≤ 199 := iv_lt_l t14 hv8_3 (il_ 200) (by decide)
        refine lv_aload_n hx hb dX10_readCondition_15 rfl (lv_at hl 1 rfl) ?_
        refine th_iL (va_runV (As := []) (rest := []) ⟨hx, hb, hml, hown, hts⟩ (q_nextX l dC dI cT cf hC ad E8_ H.size hI) (cwV 0 hts (gi_V (in_8 _ (zs16 (zs4 (zs4 (zs1 (zs1 (zs1 (zs0)))))))) (in_8 _ (zs16 (zs4 (zs4 (zs4 (zs0)))))) (in_8 _ (zs16 (zs4 (zs4 (zs4 (zs1 (zs0))))))) (in_8 _ (zs4 (zs4 (zs4 (zs1 (zs1 (zs0))))))) (in_8 _ (zs16 (zs1 (zs1 (zs1 (zs0))))))) rfl rfl rfl ⟨rfl, hz_yX10_next_0⟩ ⟨(show 0 + 1 ≤ 7 * n + 13 from nl_1 (Nat.le_of_ble_eq_true rfl)), (show 8 + (1 + 11) + 40 * (0) ≤ 40 * (7 * n + 13) from nl_2 (Nat.le_of_ble_eq_true rfl))⟩) ⟨HWL_bl, va_recv hK hP (ci := 11) (q0 := posL 2 (LC cf)) rfl (hI.ob 2 (mF 2 rfl) rfl), (HWL_wi hP hK (WL_D hD) hS hA hEV)⟩ rfl rfl hl.1 rfl (lv_room (Nat.le_of_ble_eq_true rfl)) dX10_readCondition_16 ⟨Nat.le_of_ble_eq_true rfl, Nat.le_of_ble_eq_true rfl⟩) (WL_D hD) hS hA (fun r16 E17 H locs hw hP hS => ?_)
        obtain ⟨hI, kq18, hw⟩ := hw
        have hKb := hKp
        have hKp := hKp.tr kq18 (wl_sub rfl rfl)
        obtain ⟨y19, ey19⟩ : ∃ y, xi (E17 2) 2 = y := ⟨_, rfl⟩
        have fy19 : xv (E17 2) 2 = .int y19 := (hI.fi 2 (mF 2 rfl) rfl (Nat.le_of_ble_eq_true rfl) rfl).trans (congrArg Value.int ey19)
        have i20 : 0 ≤ y19.toInt ∧ y19.toInt ≤ 200 := by rw [← ey19]; exact hI.iv 2 (mF 2 rfl) rfl (Nat.le_of_ble_eq_true rfl) rfl
        obtain ⟨f21, f22, f23⟩ := hw
        try rw [hKb.ei 2 1 rfl] at f22
        try rw [(show xi (E17 2) 2 = y19 from vi_e fy19)] at f22
        refine lv_bipush (v := 124) hx hb dX10_readCondition_19 (by decide) ?_
        refine lv_icmp_ne (tgt := 55) hx hb dX10_readCondition_21 (by decide) (fun c24 => ?_) (fun c24 => ?_)
        · --21 taken
          have t25 : ¬ r16.toInt = 124 := ti_ne c24
          rw [hQ]
          exact W.vret hx hb hr (fun t ht hW => ⟨⟨E17, rfl, ⟨hI, hKp, ⟨by (try rw [(show xi (E17 2) 5 = w8_2_5 from vi_e ((kq18 2 5 rfl).trans hs8_2_5))]); (try rw [ey1]); all_goals omega, Lp.exit (op := isOr) hx8_1 f23 (fun q9 => by have q8 := is_or.mp q9; omega) (fun t m a c h => opL_0 h)⟩⟩, by show va_P (dC, dI) vwCl (WL (LC cf) ad E17) t.heap; rw [ht]; exact hP⟩, hS.F ht⟩) hS.2.2 dX10_readCondition_55
        · --21 not
          have t26 : r16.toInt = 124 := ti_eq c24
          have i27 : 124 ≤ r16.toInt ∧ r16.toInt ≤ 124 := iv_eqi t26 f21 (il_ 124) (by decide)
          refine lv_aload_n hx hb dX10_readCondition_24 rfl (lv_at hl 1 rfl) ?_
          refine lv_dup hx hb dX10_readCondition_25 rfl ?_
          refine th_getL (ci := 11) (C := RX10) (T := TX10) (N := 10) (v := .int y19) hx hb hts hinX10 hown hK hP hI 2 (mF 2 rfl) rfl rfl 2 (Nat.le_of_ble_eq_true rfl) (hts _ (vA_in _ _ (in_8 _ (zs4 (zs4 (zs1 (zs0))))))) (fun _ h9 => h9) fy19 dX10_readCondition_26 ?_
          refine lv_iconst (v := 1) hx hb dX10_readCondition_29 (by decide) ?_
          refine lv_iadd hx hb dX10_readCondition_30 ?_
          refine lv_topi (fun y28 ey28 => ?_)
          obtain ⟨ty28, iy28⟩ := ti_add (e := 1) (f := 201) i20 ln_1 ey28 (by decide)
          have ty28 : y28.toInt = y19.toInt + 1 := ty28
          have iy28 : 1 ≤ y28.toInt ∧ y28.toInt ≤ 201 := iy28
          have i29 : 1 ≤ y28.toInt ∧ y28.toInt ≤ 200 := by omega
          refine th_putL (ci := 11) (C := RX10) (T := TX10) (N := 10) (v := .int y28) (ty := .int) hx hb hts hinX10 tyX10 tyX10_ok nmX10 hown hK hP (WL_D hD) hS hI 2 (mF 2 rfl) rfl rfl 2 (Nat.le_of_ble_eq_true rfl) (hts _ (vA_in _ _ (in_8 _ (zs4 (zs4 (zs1 (zs0))))))) (fun _ h9 => h9) rfl (by decide +kernel) rfl rfl (okI rfl (iv_w i29 (by decide))) dX10_readCondition_31 (fun H locs E30 pw31 hI hP hS => ?_)
          have hKp := hKp.pw pw31 rfl
          have k32 : AtP E17 E30 := AtP.pw pw31.2 (vi_e fy19) (vi_e pw31.1) ty28 (by omega)
          refine lv_aload_n hx hb dX10_readCondition_34 rfl (lv_at hl 1 rfl) ?_
          refine lv_iload_n hx hb dX10_readCondition_35 rfl (lv_at hl 2 rfl) ?_
          refine lv_iconst (v := 0) hx hb dX10_readCondition_36 (by decide) ?_
          have z0 := ln_0
          refine th_vL (va_runV (As := [.int a0, .int 0]) (rest := []) ⟨hx, hb, hml, hown, hts⟩ (gP dC dI cT cf hC ad E30 H.size a0 (0 : Int32) hI hh0 (by omega) (iv_w ln_0 (by decide))) (cwV 2 hts (gi_V (in_9 _ (zs16 (zs16 (zs0)))) (in_9 _ (zs16 (zs16 (zs1 (zs0))))) (in_9 _ (zs16 (zs16 (zs1 (zs1 (zs0)))))) (in_8 _ (zs4 (zs4 (zs4 (zs1 (zs1 (zs0))))))) (in_9 _ (zs16 (zs16 (zs1 (zs1 (zs1 (zs0)))))))) rfl rfl rfl (by decide +kernel) ⟨(show 7 * n + 12 + 1 ≤ 7 * n + 13 from nl_4 (Nat.le_of_ble_eq_true rfl) (Nat.le_of_ble_eq_true rfl)), (show 8 + (4 + 11) + 40 * (7 * n + 12) ≤ 40 * (7 * n + 13) from nl_3 (Nat.le_of_ble_eq_true rfl) (Nat.le_of_ble_eq_true rfl))⟩) ⟨HWL_bl, va_recv hK hP (ci := 11) (q0 := posL 2 (LC cf)) rfl (hI.ob 2 (mF 2 rfl) rfl), (HWL_wi hP hK (WL_D hD) hS hA hEV)⟩ rfl rfl hl.1 rfl (lv_room (Nat.le_of_ble_eq_true rfl)) dX10_readCondition_37 ⟨Nat.le_of_ble_eq_true rfl, Nat.le_of_ble_eq_true rfl⟩) (WL_D hD) hS hA (fun E34 H locs hw hP hS => ?_)
          obtain ⟨hI, kq35, hw⟩ := hw
          have hKb := hKp
          have hKp := hKp.tr kq35 (wl_sub rfl rfl)
          obtain ⟨y36, ey36⟩ : ∃ y, xi (E34 2) 5 = y := ⟨_, rfl⟩
          have fy36 : xv (E34 2) 5 = .int y36 := (hI.fi 2 (mF 2 rfl) rfl (Nat.le_of_ble_eq_true rfl) rfl).trans (congrArg Value.int ey36)
          have i37 : 0 ≤ y36.toInt ∧ y36.toInt ≤ 200 := by rw [← ey36]; exact hI.iv 2 (mF 2 rfl) rfl (Nat.le_of_ble_eq_true rfl) rfl
          obtain ⟨f38, f39⟩ := hw
          try rw [(show xi (E30 2) 5 = w8_2_5 from vi_e ((pw31.2 2 5 (fun q9 => absurd q9.2 (Nat.ne_of_beq_eq_false rfl))).trans ((kq18 2 5 rfl).trans hs8_2_5)))] at f38
          try rw [(show xi (E34 2) 5 = y36 from vi_e fy36)] at f38
          refine lv_aload_n hx hb dX10_readCondition_40 rfl (lv_at hl 1 rfl) ?_
          refine lv_bipush (v := 124) hx hb dX10_readCondition_41 (by decide) ?_
          refine th_pi (va_runS (As := [.int 124]) (rest := [.ref (ad 2)]) ⟨hx, hb, hml, hown, hts⟩ (q_casSign l (124 : Int32) (iv_w ln_124 (by decide))) (va_cwS 1 hts (gi_S (in_9 _ (zs4 (zs1 (zs1 (zs0))))) (in_7 _ (zs4 (zs4 (zs4 (zs1 (zs0)))))) (in_7 _ (zs1 (zs1 (zs0)))) (in_7 _ (zs4 (zs4 (zs4 (zs1 (zs1 (zs0)))))))) rfl rfl rfl hz_yX7_asSign_1 ⟨(show 0 + 1 ≤ 7 * n + 13 from nl_1 (Nat.le_of_ble_eq_true rfl)), (show 8 + (1 + 11) + 40 * (0) ≤ 40 * (7 * n + 13) from nl_2 (Nat.le_of_ble_eq_true rfl))⟩) ⟨fun _ _ _ _ q => q, fun _ _ _ => ⟨rfl, trivial⟩⟩ rfl rfl hl.1 rfl (lv_room (Nat.le_of_ble_eq_true rfl)) dX10_readCondition_43 ⟨Nat.le_of_ble_eq_true rfl, Nat.le_of_ble_eq_true rfl⟩) hS (fun r40 H1 locs1 hw hk1 hS => ?_)
          have hP := ub_keep hP hk1
          generalize H1 = H at hP hS ⊢
          generalize locs1 = locs at hS ⊢
          obtain ⟨f41, f42⟩ := hw
          refine th_vL (va_runV (As := [.int r40]) (rest := []) ⟨hx, hb, hml, hown, hts⟩ (q_addX l dC dI cT cf hC ad E34 H.size r40 hI) (cwV 1 hts (gi_V (in_9 _ (zs4 (zs1 (zs1 (zs1 (zs0)))))) (in_9 _ (zs4 (zs4 (zs0)))) (in_9 _ (zs4 (zs4 (zs1 (zs0))))) (in_8 _ (zs4 (zs4 (zs4 (zs1 (zs1 (zs0))))))) (in_7 _ (zs16 (zs4 (zs4 (zs4 (zs1 (zs0)))))))) rfl rfl rfl ⟨rfl, hz_yX10_add_1⟩ ⟨(show 0 + 1 ≤ 7 * n + 13 from nl_1 (Nat.le_of_ble_eq_true rfl)), (show 8 + (2 + 11) + 40 * (0) ≤ 40 * (7 * n + 13) from nl_2 (Nat.le_of_ble_eq_true rfl))⟩) ⟨HWL_bl, va_recv hK hP (ci := 11) (q0 := posL 2 (LC cf)) rfl (hI.ob 2 (mF 2 rfl) rfl), (HWL_wi hP hK (WL_D hD) hS hA hEV)⟩ rfl rfl hl.1 rfl (lv_room (Nat.le_of_ble_eq_true rfl)) dX10_readCondition_46 ⟨Nat.le_of_ble_eq_true rfl, Nat.le_of_ble_eq_true rfl⟩) (WL_D hD) hS hA (fun E44 H locs hw hP hS => ?_)
          obtain ⟨hI, kq45, hw⟩ := hw
          have hKb := hKp
          have hKp := hKp.tr kq45 (wl_sub rfl rfl)
          obtain ⟨y46, ey46⟩ : ∃ y, xi (E44 2) 5 = y := ⟨_, rfl⟩
          have fy46 : xv (E44 2) 5 = .int y46 := (hI.fi 2 (mF 2 rfl) rfl (Nat.le_of_ble_eq_true rfl) rfl).trans (congrArg Value.int ey46)
          have i47 : 0 ≤ y46.toInt ∧ y46.toInt ≤ 200 := by rw [← ey46]; exact hI.iv 2 (mF 2 rfl) rfl (Nat.le_of_ble_eq_true rfl) rfl
          obtain ⟨f48, f49⟩ := hw
          try rw [(show xi (E34 2) 5 = y36 from vi_e fy36)] at f48
          try rw [(show xi (E44 2) 5 = y46 from vi_e fy46)] at f48
          obtain ⟨y50, ey50⟩ : ∃ y : Int32, y = v8_3 + (1 : Int32) := ⟨_, rfl⟩
          obtain ⟨ty50, iy50⟩ := ti_add (e := 1) (f := 200) i15 ln_1 ey50 (by decide)
          have ty50 : y50.toInt = v8_3.toInt + 1 := ty50
          have iy50 : 1 ≤ y50.toInt ∧ y50.toInt ≤ 200 := iy50
          refine lv_iinc (v := y50) (lv' := [(3, .int y50), (0, .ref (ad 2)), (1, .int a0), (2, .int a1)]) hx hb dX10_readCondition_49 hl (k := 0) rfl (by rw [ey50]; rfl) (by decide) rfl (fun ls hl => ?_)
          refine lv_goto (tgt := 8) hx hb dX10_readCondition_52 (by decide) ?_
          exact ih8 y46 y50 E44 _ _ _ i47 (iv_w iy50 (by decide)) (by have h9 := i47; omega) (Lp.step (op := isOr) (cb := jb) hx8_1 f23 (is_or.mpr (by omega)) (by omega) k32 f39 f49 ty50 (fun t m => paX_mono n t m) (fun t m a c h => opL_1 (paX_mono n t m) rfl h)) (by first | exact ms_su hx8_2 ty50 (by decide) | omega) hI hKp fy46 hP hS (lv_sub hl [0, 1, 2, 3] rfl)
  exact hL8 (201) y7 (0 : Int32) E5 _ _ _ i8 (iv_w ln_0 (by decide)) (by have h9 := i8; omega) (Lp.start f10 lpO (by decide)) (by have h9 := ln_0; first | exact ms_bu h9.1 (by decide) | omega) hI hKp fy7 hP hS (lv_sub hl [0, 1, 2, 3] rfl)
theorem q_cgroupX (l : Launch) : ∀ n, C_readSumX l n ∧ C_readUnitX l n ∧ C_readConditionX l n := by
  have key : ∀ n, ∀ k, k < n → C_readSumX l k ∧ C_readUnitX l k ∧ C_readConditionX l k := by
    intro n
    induction n with
    | zero => intro k hk; exact absurd hk (by omega)
    | succ n ih =>
      intro k hk
      have h1 := q_readAtomX l k (fun j hj => (ih j (by omega)).1)
      have h3 := q_readSumX l k (q_readTermX l k h1)
      have h4 := q_readComparisonX l k h3
      have h5 := q_readUnitX l k h3 h4 (fun j hj => (ih j (by omega)).2.1) (fun j hj => (ih j (by omega)).2.2)
      exact ⟨h3, h5, q_readConditionX l k (q_readPartX l k h5)⟩
  exact fun n => key (n + 1) n (by omega)
