set_option maxRecDepth 100000 in
theorem zh_dX13_worth_0_0 : zc cX13_worth 0 [42, 28, 29, 182, 1, 117, 54, 4, 21, 4, 2, 160, 0, 17, 27, 16] = true := by decide +kernel
set_option maxRecDepth 100000 in
theorem zh_dX13_worth_15_16 : zc cX13_worth 16 [110, 160, 0, 9, 17, 3, 232, 167, 0, 4, 3, 172, 42, 42, 180, 0] = true := by decide +kernel
set_option maxRecDepth 100000 in
theorem zh_dX13_worth_30_32 : zc cX13_worth 32 [32, 17, 0, 200, 21, 4, 104, 42, 180, 0, 35, 21, 4, 46, 27, 182] = true := by decide +kernel
set_option maxRecDepth 100000 in
theorem zh_dX13_worth_47_48 : zc cX13_worth 48 [1, 110, 42, 180, 1, 104, 172] = true := by decide +kernel
set_option maxRecDepth 100000 in
theorem zh_dX13_canBe_0_0 : zc cX13_canBe 0 [3, 54, 7, 21, 7, 42, 180, 1, 204, 162, 0, 84, 42, 180, 0, 126] = true := by decide +kernel
set_option maxRecDepth 100000 in
theorem zh_dX13_canBe_16_16 : zc cX13_canBe 16 [21, 7, 46, 27, 160, 0, 67, 42, 180, 0, 129, 21, 7, 46, 28, 160] = true := by decide +kernel
set_option maxRecDepth 100000 in
theorem zh_dX13_canBe_31_32 : zc cX13_canBe 32 [0, 56, 42, 180, 0, 147, 21, 7, 46, 21, 4, 164, 0, 6, 167, 0] = true := by decide +kernel
set_option maxRecDepth 100000 in
theorem zh_dX13_canBe_46_48 : zc cX13_canBe 48 [41, 42, 21, 7, 21, 5, 21, 6, 182, 1, 211, 133, 42, 180, 0, 68] = true := by decide +kernel
set_option maxRecDepth 100000 in
theorem zh_dX13_canBe_64_64 : zc cX13_canBe 64 [27, 46, 133, 42, 180, 0, 132, 21, 7, 46, 29, 100, 184, 1, 218, 133] = true := by decide +kernel
set_option maxRecDepth 100000 in
theorem zh_dX13_canBe_80_80 : zc cX13_canBe 80 [105, 148, 158, 0, 5, 3, 172, 132, 7, 1, 167, 255, 169, 4, 172] = true := by decide +kernel
set_option maxRecDepth 100000 in
theorem zh_dX13_east_0_0 : zc cX13_east 0 [26, 153, 0, 8, 26, 7, 160, 0, 7, 3, 167, 0, 13, 26, 7, 162] = true := by decide +kernel
set_option maxRecDepth 100000 in
theorem zh_dX13_east_15_16 : zc cX13_east 16 [0, 7, 4, 167, 0, 4, 2, 172] = true := by decide +kernel
set_option maxRecDepth 100000 in
theorem zh_dX13_south_0_0 : zc cX13_south 0 [26, 5, 159, 0, 9, 26, 16, 6, 160, 0, 7, 3, 167, 0, 19, 26] = true := by decide +kernel
set_option maxRecDepth 100000 in
theorem zh_dX13_south_16_16 : zc cX13_south 16 [5, 164, 0, 13, 26, 16, 6, 162, 0, 7, 4, 167, 0, 4, 2, 172] = true := by decide +kernel
set_option maxRecDepth 100000 in
theorem zh_dX13_far_0_0 : zc cX13_far 0 [26, 28, 100, 184, 1, 218, 27, 29, 100, 184, 1, 218, 184, 1, 129, 172] = true := by decide +kernel
theorem dX13_worth_0 : decode cX13_worth 0 = .ok (.aload_n 0, 1) := zo_42 (zi_at zh_dX13_worth_0_0 0 rfl)
theorem dX13_worth_1 : decode cX13_worth 1 = .ok (.iload_n 2, 1) := zo_28 (zi_at zh_dX13_worth_0_0 1 rfl)
theorem dX13_worth_2 : decode cX13_worth 2 = .ok (.iload_n 3, 1) := zo_29 (zi_at zh_dX13_worth_0_0 2 rfl)
theorem dX13_worth_3 : decode cX13_worth 3 = .ok (.invokevirtual 373, 3) := zo_182 (zi_at zh_dX13_worth_0_0 3 rfl) (zi_at zh_dX13_worth_0_0 4 rfl) (zi_at zh_dX13_worth_0_0 5 rfl) rfl
theorem dX13_worth_6 : decode cX13_worth 6 = .ok (.istore 4, 2) := zo_54 (zi_at zh_dX13_worth_0_0 6 rfl) (zi_at zh_dX13_worth_0_0 7 rfl)
theorem dX13_worth_8 : decode cX13_worth 8 = .ok (.iload 4, 2) := zo_21 (zi_at zh_dX13_worth_0_0 8 rfl) (zi_at zh_dX13_worth_0_0 9 rfl)
theorem dX13_worth_10 : decode cX13_worth 10 = .ok (.iconst (-1), 1) := zo_2 (zi_at zh_dX13_worth_0_0 10 rfl)
theorem dX13_worth_11 : decode cX13_worth 11 = .ok (.if_icmp .ne 17, 3) := zo_160 (zi_at zh_dX13_worth_0_0 11 rfl) (zi_at zh_dX13_worth_0_0 12 rfl) (zi_at zh_dX13_worth_0_0 13 rfl) rfl
theorem dX13_worth_14 : decode cX13_worth 14 = .ok (.iload_n 1, 1) := zo_27 (zi_at zh_dX13_worth_0_0 14 rfl)
theorem dX13_worth_15 : decode cX13_worth 15 = .ok (.bipush 110, 2) := zo_16 (zi_at zh_dX13_worth_0_0 15 rfl) (zi_at zh_dX13_worth_15_16 0 rfl) rfl
theorem dX13_worth_17 : decode cX13_worth 17 = .ok (.if_icmp .ne 9, 3) := zo_160 (zi_at zh_dX13_worth_15_16 1 rfl) (zi_at zh_dX13_worth_15_16 2 rfl) (zi_at zh_dX13_worth_15_16 3 rfl) rfl
theorem dX13_worth_20 : decode cX13_worth 20 = .ok (.sipush 1000, 3) := zo_17 (zi_at zh_dX13_worth_15_16 4 rfl) (zi_at zh_dX13_worth_15_16 5 rfl) (zi_at zh_dX13_worth_15_16 6 rfl) rfl
theorem dX13_worth_23 : decode cX13_worth 23 = .ok (.goto 4, 3) := zo_167 (zi_at zh_dX13_worth_15_16 7 rfl) (zi_at zh_dX13_worth_15_16 8 rfl) (zi_at zh_dX13_worth_15_16 9 rfl) rfl
theorem dX13_worth_26 : decode cX13_worth 26 = .ok (.iconst 0, 1) := zo_3 (zi_at zh_dX13_worth_15_16 10 rfl)
theorem dX13_worth_27 : decode cX13_worth 27 = .ok (.ireturn, 1) := zo_172 (zi_at zh_dX13_worth_15_16 11 rfl)
theorem dX13_worth_28 : decode cX13_worth 28 = .ok (.aload_n 0, 1) := zo_42 (zi_at zh_dX13_worth_15_16 12 rfl)
theorem dX13_worth_29 : decode cX13_worth 29 = .ok (.aload_n 0, 1) := zo_42 (zi_at zh_dX13_worth_15_16 13 rfl)
theorem dX13_worth_30 : decode cX13_worth 30 = .ok (.getfield 32, 3) := zo_180 (zi_at zh_dX13_worth_15_16 14 rfl) (zi_at zh_dX13_worth_15_16 15 rfl) (zi_at zh_dX13_worth_30_32 0 rfl) rfl
theorem dX13_worth_33 : decode cX13_worth 33 = .ok (.sipush 200, 3) := zo_17 (zi_at zh_dX13_worth_30_32 1 rfl) (zi_at zh_dX13_worth_30_32 2 rfl) (zi_at zh_dX13_worth_30_32 3 rfl) rfl
theorem dX13_worth_36 : decode cX13_worth 36 = .ok (.iload 4, 2) := zo_21 (zi_at zh_dX13_worth_30_32 4 rfl) (zi_at zh_dX13_worth_30_32 5 rfl)
theorem dX13_worth_38 : decode cX13_worth 38 = .ok (.imul, 1) := zo_104 (zi_at zh_dX13_worth_30_32 6 rfl)
theorem dX13_worth_39 : decode cX13_worth 39 = .ok (.aload_n 0, 1) := zo_42 (zi_at zh_dX13_worth_30_32 7 rfl)
theorem dX13_worth_40 : decode cX13_worth 40 = .ok (.getfield 35, 3) := zo_180 (zi_at zh_dX13_worth_30_32 8 rfl) (zi_at zh_dX13_worth_30_32 9 rfl) (zi_at zh_dX13_worth_30_32 10 rfl) rfl
theorem dX13_worth_43 : decode cX13_worth 43 = .ok (.iload 4, 2) := zo_21 (zi_at zh_dX13_worth_30_32 11 rfl) (zi_at zh_dX13_worth_30_32 12 rfl)
theorem dX13_worth_45 : decode cX13_worth 45 = .ok (.iaload, 1) := zo_46 (zi_at zh_dX13_worth_30_32 13 rfl)
theorem dX13_worth_46 : decode cX13_worth 46 = .ok (.iload_n 1, 1) := zo_27 (zi_at zh_dX13_worth_30_32 14 rfl)
theorem dX13_worth_47 : decode cX13_worth 47 = .ok (.invokevirtual 366, 3) := zo_182 (zi_at zh_dX13_worth_30_32 15 rfl) (zi_at zh_dX13_worth_47_48 0 rfl) (zi_at zh_dX13_worth_47_48 1 rfl) rfl
theorem dX13_worth_50 : decode cX13_worth 50 = .ok (.aload_n 0, 1) := zo_42 (zi_at zh_dX13_worth_47_48 2 rfl)
theorem dX13_worth_51 : decode cX13_worth 51 = .ok (.getfield 360, 3) := zo_180 (zi_at zh_dX13_worth_47_48 3 rfl) (zi_at zh_dX13_worth_47_48 4 rfl) (zi_at zh_dX13_worth_47_48 5 rfl) rfl
theorem dX13_worth_54 : decode cX13_worth 54 = .ok (.ireturn, 1) := zo_172 (zi_at zh_dX13_worth_47_48 6 rfl)
theorem dX13_canBe_0 : decode cX13_canBe 0 = .ok (.iconst 0, 1) := zo_3 (zi_at zh_dX13_canBe_0_0 0 rfl)
theorem dX13_canBe_1 : decode cX13_canBe 1 = .ok (.istore 7, 2) := zo_54 (zi_at zh_dX13_canBe_0_0 1 rfl) (zi_at zh_dX13_canBe_0_0 2 rfl)
theorem dX13_canBe_3 : decode cX13_canBe 3 = .ok (.iload 7, 2) := zo_21 (zi_at zh_dX13_canBe_0_0 3 rfl) (zi_at zh_dX13_canBe_0_0 4 rfl)
theorem dX13_canBe_5 : decode cX13_canBe 5 = .ok (.aload_n 0, 1) := zo_42 (zi_at zh_dX13_canBe_0_0 5 rfl)
theorem dX13_canBe_6 : decode cX13_canBe 6 = .ok (.getfield 460, 3) := zo_180 (zi_at zh_dX13_canBe_0_0 6 rfl) (zi_at zh_dX13_canBe_0_0 7 rfl) (zi_at zh_dX13_canBe_0_0 8 rfl) rfl
theorem dX13_canBe_9 : decode cX13_canBe 9 = .ok (.if_icmp .ge 84, 3) := zo_162 (zi_at zh_dX13_canBe_0_0 9 rfl) (zi_at zh_dX13_canBe_0_0 10 rfl) (zi_at zh_dX13_canBe_0_0 11 rfl) rfl
theorem dX13_canBe_12 : decode cX13_canBe 12 = .ok (.aload_n 0, 1) := zo_42 (zi_at zh_dX13_canBe_0_0 12 rfl)
theorem dX13_canBe_13 : decode cX13_canBe 13 = .ok (.getfield 126, 3) := zo_180 (zi_at zh_dX13_canBe_0_0 13 rfl) (zi_at zh_dX13_canBe_0_0 14 rfl) (zi_at zh_dX13_canBe_0_0 15 rfl) rfl
theorem dX13_canBe_16 : decode cX13_canBe 16 = .ok (.iload 7, 2) := zo_21 (zi_at zh_dX13_canBe_16_16 0 rfl) (zi_at zh_dX13_canBe_16_16 1 rfl)
theorem dX13_canBe_18 : decode cX13_canBe 18 = .ok (.iaload, 1) := zo_46 (zi_at zh_dX13_canBe_16_16 2 rfl)
theorem dX13_canBe_19 : decode cX13_canBe 19 = .ok (.iload_n 1, 1) := zo_27 (zi_at zh_dX13_canBe_16_16 3 rfl)
theorem dX13_canBe_20 : decode cX13_canBe 20 = .ok (.if_icmp .ne 67, 3) := zo_160 (zi_at zh_dX13_canBe_16_16 4 rfl) (zi_at zh_dX13_canBe_16_16 5 rfl) (zi_at zh_dX13_canBe_16_16 6 rfl) rfl
theorem dX13_canBe_23 : decode cX13_canBe 23 = .ok (.aload_n 0, 1) := zo_42 (zi_at zh_dX13_canBe_16_16 7 rfl)
theorem dX13_canBe_24 : decode cX13_canBe 24 = .ok (.getfield 129, 3) := zo_180 (zi_at zh_dX13_canBe_16_16 8 rfl) (zi_at zh_dX13_canBe_16_16 9 rfl) (zi_at zh_dX13_canBe_16_16 10 rfl) rfl
theorem dX13_canBe_27 : decode cX13_canBe 27 = .ok (.iload 7, 2) := zo_21 (zi_at zh_dX13_canBe_16_16 11 rfl) (zi_at zh_dX13_canBe_16_16 12 rfl)
theorem dX13_canBe_29 : decode cX13_canBe 29 = .ok (.iaload, 1) := zo_46 (zi_at zh_dX13_canBe_16_16 13 rfl)
theorem dX13_canBe_30 : decode cX13_canBe 30 = .ok (.iload_n 2, 1) := zo_28 (zi_at zh_dX13_canBe_16_16 14 rfl)
theorem dX13_canBe_31 : decode cX13_canBe 31 = .ok (.if_icmp .ne 56, 3) := zo_160 (zi_at zh_dX13_canBe_16_16 15 rfl) (zi_at zh_dX13_canBe_31_32 0 rfl) (zi_at zh_dX13_canBe_31_32 1 rfl) rfl
theorem dX13_canBe_34 : decode cX13_canBe 34 = .ok (.aload_n 0, 1) := zo_42 (zi_at zh_dX13_canBe_31_32 2 rfl)
theorem dX13_canBe_35 : decode cX13_canBe 35 = .ok (.getfield 147, 3) := zo_180 (zi_at zh_dX13_canBe_31_32 3 rfl) (zi_at zh_dX13_canBe_31_32 4 rfl) (zi_at zh_dX13_canBe_31_32 5 rfl) rfl
theorem dX13_canBe_38 : decode cX13_canBe 38 = .ok (.iload 7, 2) := zo_21 (zi_at zh_dX13_canBe_31_32 6 rfl) (zi_at zh_dX13_canBe_31_32 7 rfl)
theorem dX13_canBe_40 : decode cX13_canBe 40 = .ok (.iaload, 1) := zo_46 (zi_at zh_dX13_canBe_31_32 8 rfl)
theorem dX13_canBe_41 : decode cX13_canBe 41 = .ok (.iload 4, 2) := zo_21 (zi_at zh_dX13_canBe_31_32 9 rfl) (zi_at zh_dX13_canBe_31_32 10 rfl)
theorem dX13_canBe_43 : decode cX13_canBe 43 = .ok (.if_icmp .le 6, 3) := zo_164 (zi_at zh_dX13_canBe_31_32 11 rfl) (zi_at zh_dX13_canBe_31_32 12 rfl) (zi_at zh_dX13_canBe_31_32 13 rfl) rfl
theorem dX13_canBe_46 : decode cX13_canBe 46 = .ok (.goto 41, 3) := zo_167 (zi_at zh_dX13_canBe_31_32 14 rfl) (zi_at zh_dX13_canBe_31_32 15 rfl) (zi_at zh_dX13_canBe_46_48 0 rfl) rfl
theorem dX13_canBe_49 : decode cX13_canBe 49 = .ok (.aload_n 0, 1) := zo_42 (zi_at zh_dX13_canBe_46_48 1 rfl)
theorem dX13_canBe_50 : decode cX13_canBe 50 = .ok (.iload 7, 2) := zo_21 (zi_at zh_dX13_canBe_46_48 2 rfl) (zi_at zh_dX13_canBe_46_48 3 rfl)
theorem dX13_canBe_52 : decode cX13_canBe 52 = .ok (.iload 5, 2) := zo_21 (zi_at zh_dX13_canBe_46_48 4 rfl) (zi_at zh_dX13_canBe_46_48 5 rfl)
theorem dX13_canBe_54 : decode cX13_canBe 54 = .ok (.iload 6, 2) := zo_21 (zi_at zh_dX13_canBe_46_48 6 rfl) (zi_at zh_dX13_canBe_46_48 7 rfl)
theorem dX13_canBe_56 : decode cX13_canBe 56 = .ok (.invokevirtual 467, 3) := zo_182 (zi_at zh_dX13_canBe_46_48 8 rfl) (zi_at zh_dX13_canBe_46_48 9 rfl) (zi_at zh_dX13_canBe_46_48 10 rfl) rfl
theorem dX13_canBe_59 : decode cX13_canBe 59 = .ok (.i2l, 1) := zo_133 (zi_at zh_dX13_canBe_46_48 11 rfl)
theorem dX13_canBe_60 : decode cX13_canBe 60 = .ok (.aload_n 0, 1) := zo_42 (zi_at zh_dX13_canBe_46_48 12 rfl)
theorem dX13_canBe_61 : decode cX13_canBe 61 = .ok (.getfield 68, 3) := zo_180 (zi_at zh_dX13_canBe_46_48 13 rfl) (zi_at zh_dX13_canBe_46_48 14 rfl) (zi_at zh_dX13_canBe_46_48 15 rfl) rfl
theorem dX13_canBe_64 : decode cX13_canBe 64 = .ok (.iload_n 1, 1) := zo_27 (zi_at zh_dX13_canBe_64_64 0 rfl)
theorem dX13_canBe_65 : decode cX13_canBe 65 = .ok (.iaload, 1) := zo_46 (zi_at zh_dX13_canBe_64_64 1 rfl)
theorem dX13_canBe_66 : decode cX13_canBe 66 = .ok (.i2l, 1) := zo_133 (zi_at zh_dX13_canBe_64_64 2 rfl)
theorem dX13_canBe_67 : decode cX13_canBe 67 = .ok (.aload_n 0, 1) := zo_42 (zi_at zh_dX13_canBe_64_64 3 rfl)
theorem dX13_canBe_68 : decode cX13_canBe 68 = .ok (.getfield 132, 3) := zo_180 (zi_at zh_dX13_canBe_64_64 4 rfl) (zi_at zh_dX13_canBe_64_64 5 rfl) (zi_at zh_dX13_canBe_64_64 6 rfl) rfl
theorem dX13_canBe_71 : decode cX13_canBe 71 = .ok (.iload 7, 2) := zo_21 (zi_at zh_dX13_canBe_64_64 7 rfl) (zi_at zh_dX13_canBe_64_64 8 rfl)
theorem dX13_canBe_73 : decode cX13_canBe 73 = .ok (.iaload, 1) := zo_46 (zi_at zh_dX13_canBe_64_64 9 rfl)
theorem dX13_canBe_74 : decode cX13_canBe 74 = .ok (.iload_n 3, 1) := zo_29 (zi_at zh_dX13_canBe_64_64 10 rfl)
theorem dX13_canBe_75 : decode cX13_canBe 75 = .ok (.isub, 1) := zo_100 (zi_at zh_dX13_canBe_64_64 11 rfl)
theorem dX13_canBe_76 : decode cX13_canBe 76 = .ok (.invokestatic 474, 3) := zo_184 (zi_at zh_dX13_canBe_64_64 12 rfl) (zi_at zh_dX13_canBe_64_64 13 rfl) (zi_at zh_dX13_canBe_64_64 14 rfl) rfl
theorem dX13_canBe_79 : decode cX13_canBe 79 = .ok (.i2l, 1) := zo_133 (zi_at zh_dX13_canBe_64_64 15 rfl)
theorem dX13_canBe_80 : decode cX13_canBe 80 = .ok (.lmul, 1) := zo_105 (zi_at zh_dX13_canBe_80_80 0 rfl)
theorem dX13_canBe_81 : decode cX13_canBe 81 = .ok (.lcmp, 1) := zo_148 (zi_at zh_dX13_canBe_80_80 1 rfl)
theorem dX13_canBe_82 : decode cX13_canBe 82 = .ok (.ifCond .le 5, 3) := zo_158 (zi_at zh_dX13_canBe_80_80 2 rfl) (zi_at zh_dX13_canBe_80_80 3 rfl) (zi_at zh_dX13_canBe_80_80 4 rfl) rfl
theorem dX13_canBe_85 : decode cX13_canBe 85 = .ok (.iconst 0, 1) := zo_3 (zi_at zh_dX13_canBe_80_80 5 rfl)
theorem dX13_canBe_86 : decode cX13_canBe 86 = .ok (.ireturn, 1) := zo_172 (zi_at zh_dX13_canBe_80_80 6 rfl)
theorem dX13_canBe_87 : decode cX13_canBe 87 = .ok (.iinc 7 1, 3) := zo_132 (zi_at zh_dX13_canBe_80_80 7 rfl) (zi_at zh_dX13_canBe_80_80 8 rfl) (zi_at zh_dX13_canBe_80_80 9 rfl) rfl
theorem dX13_canBe_90 : decode cX13_canBe 90 = .ok (.goto (-87), 3) := zo_167 (zi_at zh_dX13_canBe_80_80 10 rfl) (zi_at zh_dX13_canBe_80_80 11 rfl) (zi_at zh_dX13_canBe_80_80 12 rfl) rfl
theorem dX13_canBe_93 : decode cX13_canBe 93 = .ok (.iconst 1, 1) := zo_4 (zi_at zh_dX13_canBe_80_80 13 rfl)
theorem dX13_canBe_94 : decode cX13_canBe 94 = .ok (.ireturn, 1) := zo_172 (zi_at zh_dX13_canBe_80_80 14 rfl)
theorem dX13_east_0 : decode cX13_east 0 = .ok (.iload_n 0, 1) := zo_26 (zi_at zh_dX13_east_0_0 0 rfl)
theorem dX13_east_1 : decode cX13_east 1 = .ok (.ifCond .eq 8, 3) := zo_153 (zi_at zh_dX13_east_0_0 1 rfl) (zi_at zh_dX13_east_0_0 2 rfl) (zi_at zh_dX13_east_0_0 3 rfl) rfl
theorem dX13_east_4 : decode cX13_east 4 = .ok (.iload_n 0, 1) := zo_26 (zi_at zh_dX13_east_0_0 4 rfl)
theorem dX13_east_5 : decode cX13_east 5 = .ok (.iconst 4, 1) := zo_7 (zi_at zh_dX13_east_0_0 5 rfl)
theorem dX13_east_6 : decode cX13_east 6 = .ok (.if_icmp .ne 7, 3) := zo_160 (zi_at zh_dX13_east_0_0 6 rfl) (zi_at zh_dX13_east_0_0 7 rfl) (zi_at zh_dX13_east_0_0 8 rfl) rfl
theorem dX13_east_9 : decode cX13_east 9 = .ok (.iconst 0, 1) := zo_3 (zi_at zh_dX13_east_0_0 9 rfl)
theorem dX13_east_10 : decode cX13_east 10 = .ok (.goto 13, 3) := zo_167 (zi_at zh_dX13_east_0_0 10 rfl) (zi_at zh_dX13_east_0_0 11 rfl) (zi_at zh_dX13_east_0_0 12 rfl) rfl
theorem dX13_east_13 : decode cX13_east 13 = .ok (.iload_n 0, 1) := zo_26 (zi_at zh_dX13_east_0_0 13 rfl)
theorem dX13_east_14 : decode cX13_east 14 = .ok (.iconst 4, 1) := zo_7 (zi_at zh_dX13_east_0_0 14 rfl)
theorem dX13_east_15 : decode cX13_east 15 = .ok (.if_icmp .ge 7, 3) := zo_162 (zi_at zh_dX13_east_0_0 15 rfl) (zi_at zh_dX13_east_15_16 0 rfl) (zi_at zh_dX13_east_15_16 1 rfl) rfl
theorem dX13_east_18 : decode cX13_east 18 = .ok (.iconst 1, 1) := zo_4 (zi_at zh_dX13_east_15_16 2 rfl)
theorem dX13_east_19 : decode cX13_east 19 = .ok (.goto 4, 3) := zo_167 (zi_at zh_dX13_east_15_16 3 rfl) (zi_at zh_dX13_east_15_16 4 rfl) (zi_at zh_dX13_east_15_16 5 rfl) rfl
theorem dX13_east_22 : decode cX13_east 22 = .ok (.iconst (-1), 1) := zo_2 (zi_at zh_dX13_east_15_16 6 rfl)
theorem dX13_east_23 : decode cX13_east 23 = .ok (.ireturn, 1) := zo_172 (zi_at zh_dX13_east_15_16 7 rfl)
theorem dX13_south_0 : decode cX13_south 0 = .ok (.iload_n 0, 1) := zo_26 (zi_at zh_dX13_south_0_0 0 rfl)
theorem dX13_south_1 : decode cX13_south 1 = .ok (.iconst 2, 1) := zo_5 (zi_at zh_dX13_south_0_0 1 rfl)
theorem dX13_south_2 : decode cX13_south 2 = .ok (.if_icmp .eq 9, 3) := zo_159 (zi_at zh_dX13_south_0_0 2 rfl) (zi_at zh_dX13_south_0_0 3 rfl) (zi_at zh_dX13_south_0_0 4 rfl) rfl
theorem dX13_south_5 : decode cX13_south 5 = .ok (.iload_n 0, 1) := zo_26 (zi_at zh_dX13_south_0_0 5 rfl)
theorem dX13_south_6 : decode cX13_south 6 = .ok (.bipush 6, 2) := zo_16 (zi_at zh_dX13_south_0_0 6 rfl) (zi_at zh_dX13_south_0_0 7 rfl) rfl
theorem dX13_south_8 : decode cX13_south 8 = .ok (.if_icmp .ne 7, 3) := zo_160 (zi_at zh_dX13_south_0_0 8 rfl) (zi_at zh_dX13_south_0_0 9 rfl) (zi_at zh_dX13_south_0_0 10 rfl) rfl
theorem dX13_south_11 : decode cX13_south 11 = .ok (.iconst 0, 1) := zo_3 (zi_at zh_dX13_south_0_0 11 rfl)
theorem dX13_south_12 : decode cX13_south 12 = .ok (.goto 19, 3) := zo_167 (zi_at zh_dX13_south_0_0 12 rfl) (zi_at zh_dX13_south_0_0 13 rfl) (zi_at zh_dX13_south_0_0 14 rfl) rfl
theorem dX13_south_15 : decode cX13_south 15 = .ok (.iload_n 0, 1) := zo_26 (zi_at zh_dX13_south_0_0 15 rfl)
theorem dX13_south_16 : decode cX13_south 16 = .ok (.iconst 2, 1) := zo_5 (zi_at zh_dX13_south_16_16 0 rfl)
theorem dX13_south_17 : decode cX13_south 17 = .ok (.if_icmp .le 13, 3) := zo_164 (zi_at zh_dX13_south_16_16 1 rfl) (zi_at zh_dX13_south_16_16 2 rfl) (zi_at zh_dX13_south_16_16 3 rfl) rfl
theorem dX13_south_20 : decode cX13_south 20 = .ok (.iload_n 0, 1) := zo_26 (zi_at zh_dX13_south_16_16 4 rfl)
theorem dX13_south_21 : decode cX13_south 21 = .ok (.bipush 6, 2) := zo_16 (zi_at zh_dX13_south_16_16 5 rfl) (zi_at zh_dX13_south_16_16 6 rfl) rfl
theorem dX13_south_23 : decode cX13_south 23 = .ok (.if_icmp .ge 7, 3) := zo_162 (zi_at zh_dX13_south_16_16 7 rfl) (zi_at zh_dX13_south_16_16 8 rfl) (zi_at zh_dX13_south_16_16 9 rfl) rfl
theorem dX13_south_26 : decode cX13_south 26 = .ok (.iconst 1, 1) := zo_4 (zi_at zh_dX13_south_16_16 10 rfl)
theorem dX13_south_27 : decode cX13_south 27 = .ok (.goto 4, 3) := zo_167 (zi_at zh_dX13_south_16_16 11 rfl) (zi_at zh_dX13_south_16_16 12 rfl) (zi_at zh_dX13_south_16_16 13 rfl) rfl
theorem dX13_south_30 : decode cX13_south 30 = .ok (.iconst (-1), 1) := zo_2 (zi_at zh_dX13_south_16_16 14 rfl)
theorem dX13_south_31 : decode cX13_south 31 = .ok (.ireturn, 1) := zo_172 (zi_at zh_dX13_south_16_16 15 rfl)
theorem dX13_far_0 : decode cX13_far 0 = .ok (.iload_n 0, 1) := zo_26 (zi_at zh_dX13_far_0_0 0 rfl)
theorem dX13_far_1 : decode cX13_far 1 = .ok (.iload_n 2, 1) := zo_28 (zi_at zh_dX13_far_0_0 1 rfl)
theorem dX13_far_2 : decode cX13_far 2 = .ok (.isub, 1) := zo_100 (zi_at zh_dX13_far_0_0 2 rfl)
theorem dX13_far_3 : decode cX13_far 3 = .ok (.invokestatic 474, 3) := zo_184 (zi_at zh_dX13_far_0_0 3 rfl) (zi_at zh_dX13_far_0_0 4 rfl) (zi_at zh_dX13_far_0_0 5 rfl) rfl
theorem dX13_far_6 : decode cX13_far 6 = .ok (.iload_n 1, 1) := zo_27 (zi_at zh_dX13_far_0_0 6 rfl)
theorem dX13_far_7 : decode cX13_far 7 = .ok (.iload_n 3, 1) := zo_29 (zi_at zh_dX13_far_0_0 7 rfl)
theorem dX13_far_8 : decode cX13_far 8 = .ok (.isub, 1) := zo_100 (zi_at zh_dX13_far_0_0 8 rfl)
theorem dX13_far_9 : decode cX13_far 9 = .ok (.invokestatic 474, 3) := zo_184 (zi_at zh_dX13_far_0_0 9 rfl) (zi_at zh_dX13_far_0_0 10 rfl) (zi_at zh_dX13_far_0_0 11 rfl) rfl
theorem dX13_far_12 : decode cX13_far 12 = .ok (.invokestatic 385, 3) := zo_184 (zi_at zh_dX13_far_0_0 12 rfl) (zi_at zh_dX13_far_0_0 13 rfl) (zi_at zh_dX13_far_0_0 14 rfl) rfl
theorem dX13_far_15 : decode cX13_far 15 = .ok (.ireturn, 1) := zo_172 (zi_at zh_dX13_far_0_0 15 rfl)
theorem hz_yX13_rulesOn_2 : yX13_rulesOn.cls ≠ "java/lang/invoke/MethodHandle" ∧ yX13_rulesOn.cls ≠ "java/lang/invoke/VarHandle" ∧ (parseMethodDescriptor yX13_rulesOn.desc).map (fun d => d.parameters.length) = some 2 := by decide +kernel
theorem hz_yX13_goThrough_4 : yX13_goThrough.cls ≠ "java/lang/invoke/MethodHandle" ∧ yX13_goThrough.cls ≠ "java/lang/invoke/VarHandle" ∧ (parseMethodDescriptor yX13_goThrough.desc).map (fun d => d.parameters.length) = some 4 := by decide +kernel
theorem hz_yX13_farFrom_3 : yX13_farFrom.cls ≠ "java/lang/invoke/MethodHandle" ∧ yX13_farFrom.cls ≠ "java/lang/invoke/VarHandle" ∧ (parseMethodDescriptor yX13_farFrom.desc).map (fun d => d.parameters.length) = some 3 := by decide +kernel
def v_worth : List Cond := .code yX13_worth cX13_worth 5 (some .int) :: vA
abbrev rm_worth : Room := { frames := 70, cells := 0, slots := 0, locals := 2800 }
def w_worth : Nat → Nat → Bool := wl [] [(0, 18), (0, 19), (0, 20), (0, 21), (0, 22), (0, 23), (0, 24), (0, 25), (0, 26)]
set_option maxHeartbeats 4000000 in
set_option maxRecDepth 100000 in
theorem q_worth (l : Launch) (dC : Nat → ClassId) (dI : Nat → Nat → Nat) (cT : Nat → ClassId) (ad : Nat → Nat) (E : Nat → va_E) (sz : Nat) (a0 : Int32) (a1 : Int32) (a2 : Int32) (hI0 : IX cT shM spM 72 ad E) (hh0 : 0 ≤ a0.toInt ∧ a0.toInt ≤ 127) : Met l yX13_worth v_worth rm_worth (va_Pc [.ref (ad 0), .int a0, .int a1, .int a2] (HW dC dI (TYM cT) 72 ad E sz)) (va_Qi (S := Nat → va_E) (fun r u => IX cT shM spM 72 ad u ∧ Kp w_worth E u ∧ (True)) (HB dC dI 72 ad) (va_A (WX 72 ad E) sz)) 0 0 (va_A (WX 72 ad E) sz) := by
  refine Met.ofW (cc := cX13_worth) (maxL := 5) (ret := (some .int)) (by decide) rfl ?_
  intro p e s m args below meth c s₁ B hml hv
  obtain ⟨hargs, hsz, hP, hK, hD0, hEV⟩ := hv
  subst hsz
  have hx := B.exec
  have hb := B.bytes
  have hr := B.returns
  have hts := atoms_spec (ws := v_worth) B.pre
  have hown : s.vm.findClass RX13 = some m.cls := findClass_of_methodNamed B.named
  have hlocks := B.notSynchronized
  have hinX13 : ∀ w ∈ u_ws RX13 TX13 97, w ∈ v_worth := fun w h => vA_in _ w (in_X13 w h)
  generalize hAe : va_A (WX 72 ad E) s.heap.size = A at hEV ⊢
  have hA : ∀ q : Nat, s.heap.size ≤ q → A q := fun q h => by rw [← hAe]; exact Or.inr h
  have hD : va_D A (WX 72 ad E) := by rw [← hAe]; exact hD0.self
  have hS : va_S A s.heap s.heap [] := va_S.rf
  have hI := hI0
  have hKp : Kp w_worth E E := Kp.rf
  have hl := lv_entry ([.ref (ad 0), .int a0, .int a1, .int a2]) (n := 5) (Nat.le_of_ble_eq_true rfl)
  obtain ⟨Q, hQ⟩ : ∃ Q, Q = MQ below (va_Qi (S := Nat → va_E) (fun r u => IX cT shM spM 72 ad u ∧ Kp w_worth E u ∧ (True)) (HB dC dI 72 ad) (A)) args s 0 0 (A) := ⟨_, rfl⟩
  rw [← hQ, show entryFrame m args 5 = _ from (congrArg (fun z => entryFrame m z 5) hargs).trans (lg_entry_eq _ _ _)]
  generalize (lg_sl ([.ref (ad 0), .int a0, .int a1, .int a2]) ++ List.replicate (5 - (lg_sl ([.ref (ad 0), .int a0, .int a1, .int a2])).length) Slot.unset).toArray = ls at hl ⊢
  have hl : lv_has ls 5 [(0, .ref (ad 0)), (1, .int a0), (2, .int a1), (3, .int a2)] := hl
  refine lv_aload_n hx hb dX13_worth_0 rfl (lv_at hl 0 rfl) ?_
  refine lv_iload_n hx hb dX13_worth_1 rfl (lv_at hl 2 rfl) ?_
  refine lv_iload_n hx hb dX13_worth_2 rfl (lv_at hl 3 rfl) ?_
  refine th_ri (va_runV (As := [.int a1, .int a2]) (rest := []) ⟨hx, hb, hml, hown, hts⟩ (q_rulesOn l dC dI cT ad E s.heap.size a1 a2 hI) (cwV 2 hts (gi_V (in_29 _ (zs1 (zs0))) (in_29 _ (zs1 (zs1 (zs0)))) (in_29 _ (zs1 (zs1 (zs1 (zs0))))) (in_24 _ (zs4 (zs4 (zs4 (zs1 (zs1 (zs1 (zs0)))))))) (in_29 _ (zs4 (zs0)))) rfl rfl rfl ⟨rfl, hz_yX13_rulesOn_2⟩ ⟨Nat.le_of_ble_eq_true rfl, Nat.le_of_ble_eq_true rfl⟩) ⟨HW_bl, va_recv hK hP (ci := 14) (q0 := 0) rfl (hI.ob 0 (Nat.le_of_ble_eq_true rfl) rfl), (HW_wi hP hK (WX_D hD) hS hA hEV)⟩ rfl rfl hl.1 rfl (lv_room (Nat.le_of_ble_eq_true rfl)) dX13_worth_3 ⟨Nat.le_of_ble_eq_true rfl, Nat.le_of_ble_eq_true rfl⟩) hS hP (fun r1 H locs hw hP hS => ?_)
  have f2 := hw
  refine lv_istore (lv' := [(4, .int r1), (0, .ref (ad 0)), (1, .int a0), (2, .int a1), (3, .int a2)]) hx hb dX13_worth_6 hl (by decide) rfl (fun ls hl => ?_)
  refine lv_iload hx hb dX13_worth_8 (lv_at hl 0 rfl) ?_
  refine lv_iconst (v := -1) hx hb dX13_worth_10 (by decide) ?_
  refine lv_icmp_ne (tgt := 28) hx hb dX13_worth_11 (by decide) (fun c3 => ?_) (fun c3 => ?_)
  · --11 taken
    have t4 : ¬ r1.toInt = -1 := ti_ne c3
    have i5 : 0 ≤ r1.toInt ∧ r1.toInt ≤ 15 := iv_ne_l t4 f2 (il_ (-1))
    refine lv_aload_n hx hb dX13_worth_28 rfl (lv_at hl 1 rfl) ?_
    refine lv_aload_n hx hb dX13_worth_29 rfl (lv_at hl 1 rfl) ?_
    refine th_get (ci := 14) (C := RX13) (T := TX13) (N := 97) (v := .ref (ad 8)) hx hb hts hinX13 hown hK hP hI 0 (Nat.le_of_ble_eq_true rfl) rfl rfl 11 (Nat.le_of_ble_eq_true rfl) (hts _ (vA_in _ _ (in_28 _ (zs16 (zs16 (zs4 (zs1 (zs1 (zs0))))))))) (fun _ h9 => h9) (hI.fr 0 (Nat.le_of_ble_eq_true rfl) rfl (Nat.le_of_ble_eq_true rfl) 8 rfl) dX13_worth_30 ?_
    refine lv_sipush (v := 200) hx hb dX13_worth_33 (by decide) ?_
    refine lv_iload hx hb dX13_worth_36 (lv_at hl 0 rfl) ?_
    refine lv_imul hx hb dX13_worth_38 ?_
    refine lv_topi (fun y6 ey6 => ?_)
    obtain ⟨ty6, iy6⟩ := ti_mul (e := 0) (f := 3000) ln_200 i5 ey6 (by decide)
    have ty6 : y6.toInt = 200 * r1.toInt := ty6
    have iy6 : 0 ≤ y6.toInt ∧ y6.toInt ≤ 3000 := iy6
    refine lv_aload_n hx hb dX13_worth_39 rfl (lv_at hl 1 rfl) ?_
    refine th_get (ci := 14) (C := RX13) (T := TX13) (N := 97) (v := .ref (ad 9)) hx hb hts hinX13 hown hK hP hI 0 (Nat.le_of_ble_eq_true rfl) rfl rfl 12 (Nat.le_of_ble_eq_true rfl) (hts _ (vA_in _ _ (in_28 _ (zs16 (zs16 (zs4 (zs1 (zs1 (zs1 (zs0)))))))))) (fun _ h9 => h9) (hI.fr 0 (Nat.le_of_ble_eq_true rfl) rfl (Nat.le_of_ble_eq_true rfl) 9 rfl) dX13_worth_40 ?_
    refine lv_iload hx hb dX13_worth_43 (lv_at hl 0 rfl) ?_
    have n8 : vp_in r1 16 := (iv_in (n := 16) i5 (by decide))
    refine th_iald hx hb hK hP hI 9 (Nat.le_of_ble_eq_true rfl) rfl rfl n8 dX13_worth_45 (fun y7 ey7 => ?_)
    have iy7 : 0 ≤ y7.toInt ∧ y7.toInt ≤ 200 := hI.el 9 (Nat.le_of_ble_eq_true rfl) rfl n8 (fun _ => rfl) ey7
    have ey7 := ey7.trans (hKp.ei 9 _ rfl)
    refine lv_iload_n hx hb dX13_worth_46 rfl (lv_at hl 2 rfl) ?_
    refine th_v (va_runV (As := [.ref (ad 8), .int y6, .int y7, .int a0]) (rest := []) ⟨hx, hb, hml, hown, hts⟩ (q_goThroughR l dC dI cT ad E H.size y6 y7 a0 hI iy6 iy7 hh0) (cwV 4 hts (gi_V (in_29 _ (zs4 (zs4 (zs0)))) (in_29 _ (zs4 (zs4 (zs1 (zs0))))) (in_29 _ (zs4 (zs4 (zs1 (zs1 (zs0)))))) (in_24 _ (zs4 (zs4 (zs4 (zs1 (zs1 (zs1 (zs0)))))))) (in_29 _ (zs4 (zs4 (zs1 (zs1 (zs1 (zs0)))))))) rfl rfl rfl ⟨rfl, hz_yX13_goThrough_4⟩ ⟨Nat.le_of_ble_eq_true rfl, Nat.le_of_ble_eq_true rfl⟩) ⟨HW_bl, va_recv hK hP (ci := 14) (q0 := 0) rfl (hI.ob 0 (Nat.le_of_ble_eq_true rfl) rfl), (HW_wi hP hK (WX_D hD) hS hA hEV)⟩ rfl rfl hl.1 rfl (lv_room (Nat.le_of_ble_eq_true rfl)) dX13_worth_47 ⟨Nat.le_of_ble_eq_true rfl, Nat.le_of_ble_eq_true rfl⟩) (WX_D hD) hS hA (fun E10 H locs hw hP hS => ?_)
    obtain ⟨hI, kq11, hw⟩ := hw
    have hKb := hKp
    have hKp := hKp.tr kq11 (wl_sub rfl rfl)
    refine lv_aload_n hx hb dX13_worth_50 rfl (lv_at hl 1 rfl) ?_
    obtain ⟨y12, ey12⟩ : ∃ y, xi (E10 0) 25 = y := ⟨_, rfl⟩
    have fy12 : xv (E10 0) 25 = .int y12 := (hI.fi 0 (Nat.le_of_ble_eq_true rfl) rfl (Nat.le_of_ble_eq_true rfl) rfl).trans (congrArg Value.int ey12)
    refine th_get (ci := 14) (C := RX13) (T := TX13) (N := 97) (v := .int y12) hx hb hts hinX13 hown hK hP hI 0 (Nat.le_of_ble_eq_true rfl) rfl rfl 25 (Nat.le_of_ble_eq_true rfl) (hts _ (vA_in _ _ (in_29 _ zs0))) (fun _ h9 => h9) fy12 dX13_worth_51 ?_
    rw [hQ]
    exact W.iret (v := y12) hx hb hr (fun t ht hW => ⟨⟨y12, E10, rfl, ⟨hI, hKp, trivial⟩, by show va_P (dC, dI) vwCl (WX 72 ad E10) t.heap; rw [ht]; exact hP⟩, hS.F ht⟩) hS.2.2 dX13_worth_54
  · --11 not
    have t13 : r1.toInt = -1 := ti_eq c3
    have i14 : -1 ≤ r1.toInt ∧ r1.toInt ≤ -1 := iv_eqi t13 f2 (il_ (-1)) (by decide)
    refine lv_iload_n hx hb dX13_worth_14 rfl (lv_at hl 2 rfl) ?_
    refine lv_bipush (v := 110) hx hb dX13_worth_15 (by decide) ?_
    refine lv_icmp_ne (tgt := 26) hx hb dX13_worth_17 (by decide) (fun c15 => ?_) (fun c15 => ?_)
    · --17 taken
      have t16 : ¬ a0.toInt = 110 := ti_ne c15
      refine lv_iconst (v := 0) hx hb dX13_worth_26 (by decide) ?_
      rw [hQ]
      exact W.iret (v := 0) hx hb hr (fun t ht hW => ⟨⟨0, E, rfl, ⟨hI, hKp, trivial⟩, by show va_P (dC, dI) vwCl (WX 72 ad E) t.heap; rw [ht]; exact hP⟩, hS.F ht⟩) hS.2.2 dX13_worth_27
    · --17 not
      have t17 : a0.toInt = 110 := ti_eq c15
      have i18 : 110 ≤ a0.toInt ∧ a0.toInt ≤ 110 := iv_eqi t17 hh0 (il_ 110) (by decide)
      refine lv_sipush (v := 1000) hx hb dX13_worth_20 (by decide) ?_
      refine lv_goto (tgt := 27) hx hb dX13_worth_23 (by decide) ?_
      rw [hQ]
      exact W.iret (v := 1000) hx hb hr (fun t ht hW => ⟨⟨1000, E, rfl, ⟨hI, hKp, trivial⟩, by show va_P (dC, dI) vwCl (WX 72 ad E) t.heap; rw [ht]; exact hP⟩, hS.F ht⟩) hS.2.2 dX13_worth_27
section
def v_east : List Cond := .code yX13_east cX13_east 1 (some .int) :: vA
abbrev rm_east : Room := { frames := 0, cells := 0, slots := 0, locals := 0 }
set_option maxHeartbeats 4000000 in
set_option maxRecDepth 100000 in
theorem q_east (l : Launch) (a0 : Int32)  : Met l yX13_east v_east rm_east (va_Pc [.int a0] (fun _ => True)) (va_Qi (S := Unit) (fun r _ => True) (fun _ _ => True) (fun _ => False)) 0 0 (fun _ => False) := by
  refine Met.ofW (cc := cX13_east) (maxL := 1) (ret := (some .int)) (by decide) rfl ?_
  intro p e s m args below meth c s₁ B hml hv
  obtain ⟨hargs, -⟩ := hv
  have hx := B.exec
  have hb := B.bytes
  have hr := B.returns
  have hts := atoms_spec (ws := v_east) B.pre
  have hown : s.vm.findClass RX13 = some m.cls := findClass_of_methodNamed B.named
  have hlocks := B.notSynchronized
  have hS : va_S (fun _ : Nat => False) s.heap s.heap [] := va_S.rf
  have hl := lv_entry ([.int a0]) (n := 1) (Nat.le_of_ble_eq_true rfl)
  obtain ⟨Q, hQ⟩ : ∃ Q, Q = MQ below (va_Qi (S := Unit) (fun r _ => True) (fun _ _ => True) (fun _ => False)) args s 0 0 (fun _ => False) := ⟨_, rfl⟩
  rw [← hQ, show entryFrame m args 1 = _ from (congrArg (fun z => entryFrame m z 1) hargs).trans (lg_entry_eq _ _ _)]
  generalize (lg_sl ([.int a0]) ++ List.replicate (1 - (lg_sl ([.int a0])).length) Slot.unset).toArray = ls at hl ⊢
  have hl : lv_has ls 1 [(0, .int a0)] := hl
  refine lv_iload_n hx hb dX13_east_0 rfl (lv_at hl 0 rfl) ?_
  refine lv_if_eq (tgt := 9) hx hb dX13_east_1 (by decide) (fun c1 => ?_) (fun c1 => ?_)
  · --1 taken
    have t2 : a0.toInt = 0 := ti_eq c1
    have i3 : 0 ≤ a0.toInt ∧ a0.toInt ≤ 0 := iv_eqi t2 (iv_all _) (il_ 0) (by decide)
    refine lv_iconst (v := 0) hx hb dX13_east_9 (by decide) ?_
    refine lv_goto (tgt := 23) hx hb dX13_east_10 (by decide) ?_
    rw [hQ]
    exact W.iret (v := 0) hx hb hr (fun t ht hW => ⟨⟨0, (), rfl, trivial, trivial⟩, hS.F ht⟩) hS.2.2 dX13_east_23
  · --1 not
    have t4 : ¬ a0.toInt = 0 := ti_ne c1
    refine lv_iload_n hx hb dX13_east_4 rfl (lv_at hl 0 rfl) ?_
    refine lv_iconst (v := 4) hx hb dX13_east_5 (by decide) ?_
    refine lv_icmp_ne (tgt := 13) hx hb dX13_east_6 (by decide) (fun c5 => ?_) (fun c5 => ?_)
    · --6 taken
      have t6 : ¬ a0.toInt = 4 := ti_ne c5
      refine lv_iload_n hx hb dX13_east_13 rfl (lv_at hl 0 rfl) ?_
      refine lv_iconst (v := 4) hx hb dX13_east_14 (by decide) ?_
      refine lv_icmp_ge (tgt := 22) hx hb dX13_east_15 (by decide) (fun c7 => ?_) (fun c7 => ?_)
      · --15 taken
        have t8 : (4 : Int) ≤ a0.toInt := ti_le c7
        have i9 : 4 ≤ a0.toInt ∧ a0.toInt ≤ 2147483647 := iv_le_r t8 (il_ 4) (iv_all _) (by decide)
        refine lv_iconst (v := -1) hx hb dX13_east_22 (by decide) ?_
        rw [hQ]
        exact W.iret (v := (-1)) hx hb hr (fun t ht hW => ⟨⟨(-1), (), rfl, trivial, trivial⟩, hS.F ht⟩) hS.2.2 dX13_east_23
      · --15 not
        have t10 : a0.toInt < 4 := ti_nle c7
        have i11 : -2147483648 ≤ a0.toInt ∧ a0.toInt ≤ 3 := iv_lt_l t10 (iv_all _) (il_ 4) (by decide)
        refine lv_iconst (v := 1) hx hb dX13_east_18 (by decide) ?_
        refine lv_goto (tgt := 23) hx hb dX13_east_19 (by decide) ?_
        rw [hQ]
        exact W.iret (v := 1) hx hb hr (fun t ht hW => ⟨⟨1, (), rfl, trivial, trivial⟩, hS.F ht⟩) hS.2.2 dX13_east_23
    · --6 not
      have t12 : a0.toInt = 4 := ti_eq c5
      have i13 : 4 ≤ a0.toInt ∧ a0.toInt ≤ 4 := iv_eqi t12 (iv_all _) (il_ 4) (by decide)
      refine lv_iconst (v := 0) hx hb dX13_east_9 (by decide) ?_
      refine lv_goto (tgt := 23) hx hb dX13_east_10 (by decide) ?_
      rw [hQ]
      exact W.iret (v := 0) hx hb hr (fun t ht hW => ⟨⟨0, (), rfl, trivial, trivial⟩, hS.F ht⟩) hS.2.2 dX13_east_23
def v_south : List Cond := .code yX13_south cX13_south 1 (some .int) :: vA
abbrev rm_south : Room := { frames := 0, cells := 0, slots := 0, locals := 0 }
set_option maxHeartbeats 4000000 in
set_option maxRecDepth 100000 in
theorem q_south (l : Launch) (a0 : Int32)  : Met l yX13_south v_south rm_south (va_Pc [.int a0] (fun _ => True)) (va_Qi (S := Unit) (fun r _ => True) (fun _ _ => True) (fun _ => False)) 0 0 (fun _ => False) := by
  refine Met.ofW (cc := cX13_south) (maxL := 1) (ret := (some .int)) (by decide) rfl ?_
  intro p e s m args below meth c s₁ B hml hv
  obtain ⟨hargs, -⟩ := hv
  have hx := B.exec
  have hb := B.bytes
  have hr := B.returns
  have hts := atoms_spec (ws := v_south) B.pre
  have hown : s.vm.findClass RX13 = some m.cls := findClass_of_methodNamed B.named
  have hlocks := B.notSynchronized
  have hS : va_S (fun _ : Nat => False) s.heap s.heap [] := va_S.rf
  have hl := lv_entry ([.int a0]) (n := 1) (Nat.le_of_ble_eq_true rfl)
  obtain ⟨Q, hQ⟩ : ∃ Q, Q = MQ below (va_Qi (S := Unit) (fun r _ => True) (fun _ _ => True) (fun _ => False)) args s 0 0 (fun _ => False) := ⟨_, rfl⟩
  rw [← hQ, show entryFrame m args 1 = _ from (congrArg (fun z => entryFrame m z 1) hargs).trans (lg_entry_eq _ _ _)]
  generalize (lg_sl ([.int a0]) ++ List.replicate (1 - (lg_sl ([.int a0])).length) Slot.unset).toArray = ls at hl ⊢
  have hl : lv_has ls 1 [(0, .int a0)] := hl
  refine lv_iload_n hx hb dX13_south_0 rfl (lv_at hl 0 rfl) ?_
  refine lv_iconst (v := 2) hx hb dX13_south_1 (by decide) ?_
  refine lv_icmp_eq (tgt := 11) hx hb dX13_south_2 (by decide) (fun c1 => ?_) (fun c1 => ?_)
  · --2 taken
    have t2 : a0.toInt = 2 := ti_eq c1
    have i3 : 2 ≤ a0.toInt ∧ a0.toInt ≤ 2 := iv_eqi t2 (iv_all _) (il_ 2) (by decide)
    refine lv_iconst (v := 0) hx hb dX13_south_11 (by decide) ?_
    refine lv_goto (tgt := 31) hx hb dX13_south_12 (by decide) ?_
    rw [hQ]
    exact W.iret (v := 0) hx hb hr (fun t ht hW => ⟨⟨0, (), rfl, trivial, trivial⟩, hS.F ht⟩) hS.2.2 dX13_south_31
  · --2 not
    have t4 : ¬ a0.toInt = 2 := ti_ne c1
    refine lv_iload_n hx hb dX13_south_5 rfl (lv_at hl 0 rfl) ?_
    refine lv_bipush (v := 6) hx hb dX13_south_6 (by decide) ?_
    refine lv_icmp_ne (tgt := 15) hx hb dX13_south_8 (by decide) (fun c5 => ?_) (fun c5 => ?_)
    · --8 taken
      have t6 : ¬ a0.toInt = 6 := ti_ne c5
      refine lv_iload_n hx hb dX13_south_15 rfl (lv_at hl 0 rfl) ?_
      refine lv_iconst (v := 2) hx hb dX13_south_16 (by decide) ?_
      refine lv_icmp_le (tgt := 30) hx hb dX13_south_17 (by decide) (fun c7 => ?_) (fun c7 => ?_)
      · --17 taken
        have t8 : a0.toInt ≤ 2 := ti_le c7
        have i9 : -2147483648 ≤ a0.toInt ∧ a0.toInt ≤ 2 := iv_le_l t8 (iv_all _) (il_ 2) (by decide)
        refine lv_iconst (v := -1) hx hb dX13_south_30 (by decide) ?_
        rw [hQ]
        exact W.iret (v := (-1)) hx hb hr (fun t ht hW => ⟨⟨(-1), (), rfl, trivial, trivial⟩, hS.F ht⟩) hS.2.2 dX13_south_31
      · --17 not
        have t10 : (2 : Int) < a0.toInt := ti_nle c7
        have i11 : 3 ≤ a0.toInt ∧ a0.toInt ≤ 2147483647 := iv_lt_r t10 (il_ 2) (iv_all _) (by decide)
        refine lv_iload_n hx hb dX13_south_20 rfl (lv_at hl 0 rfl) ?_
        refine lv_bipush (v := 6) hx hb dX13_south_21 (by decide) ?_
        refine lv_icmp_ge (tgt := 30) hx hb dX13_south_23 (by decide) (fun c12 => ?_) (fun c12 => ?_)
        · --23 taken
          have t13 : (6 : Int) ≤ a0.toInt := ti_le c12
          have i14 : 6 ≤ a0.toInt ∧ a0.toInt ≤ 2147483647 := iv_le_r t13 (il_ 6) i11 (by decide)
          refine lv_iconst (v := -1) hx hb dX13_south_30 (by decide) ?_
          rw [hQ]
          exact W.iret (v := (-1)) hx hb hr (fun t ht hW => ⟨⟨(-1), (), rfl, trivial, trivial⟩, hS.F ht⟩) hS.2.2 dX13_south_31
        · --23 not
          have t15 : a0.toInt < 6 := ti_nle c12
          have i16 : 3 ≤ a0.toInt ∧ a0.toInt ≤ 5 := iv_lt_l t15 i11 (il_ 6) (by decide)
          refine lv_iconst (v := 1) hx hb dX13_south_26 (by decide) ?_
          refine lv_goto (tgt := 31) hx hb dX13_south_27 (by decide) ?_
          rw [hQ]
          exact W.iret (v := 1) hx hb hr (fun t ht hW => ⟨⟨1, (), rfl, trivial, trivial⟩, hS.F ht⟩) hS.2.2 dX13_south_31
    · --8 not
      have t17 : a0.toInt = 6 := ti_eq c5
      have i18 : 6 ≤ a0.toInt ∧ a0.toInt ≤ 6 := iv_eqi t17 (iv_all _) (il_ 6) (by decide)
      refine lv_iconst (v := 0) hx hb dX13_south_11 (by decide) ?_
      refine lv_goto (tgt := 31) hx hb dX13_south_12 (by decide) ?_
      rw [hQ]
      exact W.iret (v := 0) hx hb hr (fun t ht hW => ⟨⟨0, (), rfl, trivial, trivial⟩, hS.F ht⟩) hS.2.2 dX13_south_31
def v_far : List Cond := .code yX13_far cX13_far 4 (some .int) :: vA
abbrev rm_far : Room := { frames := 1, cells := 0, slots := 0, locals := 40 }
set_option maxHeartbeats 4000000 in
set_option maxRecDepth 100000 in
theorem q_far (l : Launch) (a0 : Int32) (a1 : Int32) (a2 : Int32) (a3 : Int32)  : Met l yX13_far v_far rm_far (va_Pc [.int a0, .int a1, .int a2, .int a3] (fun _ => True)) (va_Qi (S := Unit) (fun r _ => True) (fun _ _ => True) (fun _ => False)) 0 0 (fun _ => False) := by
  refine Met.ofW (cc := cX13_far) (maxL := 4) (ret := (some .int)) (by decide) rfl ?_
  intro p e s m args below meth c s₁ B hml hv
  obtain ⟨hargs, -⟩ := hv
  have hx := B.exec
  have hb := B.bytes
  have hr := B.returns
  have hts := atoms_spec (ws := v_far) B.pre
  have hown : s.vm.findClass RX13 = some m.cls := findClass_of_methodNamed B.named
  have hlocks := B.notSynchronized
  have hS : va_S (fun _ : Nat => False) s.heap s.heap [] := va_S.rf
  have hl := lv_entry ([.int a0, .int a1, .int a2, .int a3]) (n := 4) (Nat.le_of_ble_eq_true rfl)
  obtain ⟨Q, hQ⟩ : ∃ Q, Q = MQ below (va_Qi (S := Unit) (fun r _ => True) (fun _ _ => True) (fun _ => False)) args s 0 0 (fun _ => False) := ⟨_, rfl⟩
  rw [← hQ, show entryFrame m args 4 = _ from (congrArg (fun z => entryFrame m z 4) hargs).trans (lg_entry_eq _ _ _)]
  generalize (lg_sl ([.int a0, .int a1, .int a2, .int a3]) ++ List.replicate (4 - (lg_sl ([.int a0, .int a1, .int a2, .int a3])).length) Slot.unset).toArray = ls at hl ⊢
  have hl : lv_has ls 4 [(0, .int a0), (1, .int a1), (2, .int a2), (3, .int a3)] := hl
  refine lv_iload_n hx hb dX13_far_0 rfl (lv_at hl 0 rfl) ?_
  refine lv_iload_n hx hb dX13_far_1 rfl (lv_at hl 2 rfl) ?_
  refine lv_isub hx hb dX13_far_2 ?_
  refine lv_topi (fun y1 ey1 => ?_)
  refine va_mabs hx hb (by rw [hml]; exact hl.1.symm) hown (hts _ (vA_in _ _ (in_25 _ (zs16 (zs16 (zs1 (zs1 (zs0)))))))) (hts _ (vA_in _ _ (in_23 _ (zs4 (zs4 (zs1 (zs1 (zs0)))))))) (hts _ (vA_in _ _ (in_0 _ (zs16 (zs16 (zs1 (zs0))))))) (hts _ (vA_in _ _ (in_23 _ (zs4 (zs4 (zs1 (zs1 (zs1 (zs0))))))))) (Nat.le_of_ble_eq_true rfl) (Nat.le_of_ble_eq_true rfl) (Nat.le_of_ble_eq_true rfl) (Nat.le_of_ble_eq_true rfl) dX13_far_3 ?_
  refine lv_topi (fun y2 ey2 => ?_)
  refine lv_iload_n hx hb dX13_far_6 rfl (lv_at hl 1 rfl) ?_
  refine lv_iload_n hx hb dX13_far_7 rfl (lv_at hl 3 rfl) ?_
  refine lv_isub hx hb dX13_far_8 ?_
  refine lv_topi (fun y3 ey3 => ?_)
  refine va_mabs hx hb (by rw [hml]; exact hl.1.symm) hown (hts _ (vA_in _ _ (in_25 _ (zs16 (zs16 (zs1 (zs1 (zs0)))))))) (hts _ (vA_in _ _ (in_23 _ (zs4 (zs4 (zs1 (zs1 (zs0)))))))) (hts _ (vA_in _ _ (in_0 _ (zs16 (zs16 (zs1 (zs0))))))) (hts _ (vA_in _ _ (in_23 _ (zs4 (zs4 (zs1 (zs1 (zs1 (zs0))))))))) (Nat.le_of_ble_eq_true rfl) (Nat.le_of_ble_eq_true rfl) (Nat.le_of_ble_eq_true rfl) (Nat.le_of_ble_eq_true rfl) dX13_far_9 ?_
  refine lv_topi (fun y4 ey4 => ?_)
  refine va_mmax hx hb (by rw [hml]; exact hl.1.symm) hown (hts _ (vA_in _ _ (in_25 _ (zs16 (zs4 (zs4 (zs1 (zs1 (zs1 (zs0)))))))))) (hts _ (vA_in _ _ (in_0 _ (zs16 (zs16 (zs0)))))) (hts _ (vA_in _ _ (in_0 _ (zs16 (zs16 (zs1 (zs0))))))) (hts _ (vA_in _ _ (in_0 _ (zs16 (zs16 (zs1 (zs1 (zs0)))))))) (Nat.le_of_ble_eq_true rfl) (Nat.le_of_ble_eq_true rfl) (Nat.le_of_ble_eq_true rfl) (Nat.le_of_ble_eq_true rfl) dX13_far_12 ?_
  refine lv_topi (fun y5 ey5 => ?_)
  obtain ⟨ty5, iy5⟩ := ti_max (e := (-2147483648)) (f := 2147483647) (iv_all _) (iv_all _) ey5 (by decide)
  have iy5 : -2147483648 ≤ y5.toInt ∧ y5.toInt ≤ 2147483647 := iy5
  rw [hQ]
  exact W.iret (v := y5) hx hb hr (fun t ht hW => ⟨⟨y5, (), rfl, trivial, trivial⟩, hS.F ht⟩) hS.2.2 dX13_far_15
def v_canBe : List Cond := .code yX13_canBe cX13_canBe 8 (some .boolean) :: vA
abbrev rm_canBe : Room := { frames := 2, cells := 0, slots := 0, locals := 80 }
set_option maxHeartbeats 4000000 in
set_option maxRecDepth 100000 in
theorem q_canBe (l : Launch) (dC : Nat → ClassId) (dI : Nat → Nat → Nat) (cT : Nat → ClassId) (ad : Nat → Nat) (E : Nat → va_E) (sz : Nat) (a0 : Int32) (a1 : Int32) (a2 : Int32) (a3 : Int32) (a4 : Int32) (a5 : Int32) (hI0 : IX cT shM spM 72 ad E) (hh0 : 0 ≤ a0.toInt ∧ a0.toInt ≤ 19) : Met l yX13_canBe v_canBe rm_canBe (va_Pc [.ref (ad 0), .int a0, .int a1, .int a2, .int a3, .int a4, .int a5] (HW dC dI (TYM cT) 72 ad E sz)) (va_Qi (S := Unit) (fun r _ => (r = 1) ∨ (r = 0)) (fun _ _ => True) (fun _ => False)) 0 0 (fun _ => False) := by
  refine Met.ofW (cc := cX13_canBe) (maxL := 8) (ret := (some .boolean)) (by decide) rfl ?_
  intro p e s m args below meth c s₁ B hml hv
  obtain ⟨hargs, hsz, hP, hK, hD0, hEV⟩ := hv
  subst hsz
  have hx := B.exec
  have hb := B.bytes
  have hr := B.returns
  have hts := atoms_spec (ws := v_canBe) B.pre
  have hown : s.vm.findClass RX13 = some m.cls := findClass_of_methodNamed B.named
  have hlocks := B.notSynchronized
  have hinX13 : ∀ w ∈ u_ws RX13 TX13 97, w ∈ v_canBe := fun w h => vA_in _ w (in_X13 w h)
  have hS : va_S (fun _ : Nat => False) s.heap s.heap [] := va_S.rf
  have hD := hD0
  have hI := hI0
  have hKp : Kp (wl [] []) E E := Kp.rf
  have hl := lv_entry ([.ref (ad 0), .int a0, .int a1, .int a2, .int a3, .int a4, .int a5]) (n := 8) (Nat.le_of_ble_eq_true rfl)
  obtain ⟨Q, hQ⟩ : ∃ Q, Q = MQ below (va_Qi (S := Unit) (fun r _ => (r = 1) ∨ (r = 0)) (fun _ _ => True) (fun _ => False)) args s 0 0 (fun _ => False) := ⟨_, rfl⟩
  rw [← hQ, show entryFrame m args 8 = _ from (congrArg (fun z => entryFrame m z 8) hargs).trans (lg_entry_eq _ _ _)]
  generalize (lg_sl ([.ref (ad 0), .int a0, .int a1, .int a2, .int a3, .int a4, .int a5]) ++ List.replicate (8 - (lg_sl ([.ref (ad 0), .int a0, .int a1, .int a2, .int a3, .int a4, .int a5])).length) Slot.unset).toArray = ls at hl ⊢
  have hl : lv_has ls 8 [(0, .ref (ad 0)), (1, .int a0), (2, .int a1), (3, .int a2), (4, .int a3), (5, .int a4), (6, .int a5)] := hl
  refine lv_iconst (v := 0) hx hb dX13_canBe_0 (by decide) ?_
  refine lv_istore (lv' := [(7, .int 0), (0, .ref (ad 0)), (1, .int a0), (2, .int a1), (3, .int a2), (4, .int a3), (5, .int a4), (6, .int a5)]) hx hb dX13_canBe_1 hl (by decide) rfl (fun ls hl => ?_)
  have hL3 : ∀ d : Nat, ∀ (v3_7 : Int32) (H : Heap) (locs : List Loc) (ls : Array Slot), 0 ≤ v3_7.toInt ∧ v3_7.toInt ≤ 200 → 200 - v3_7.toInt < (d : Int) → va_P (dC, dI) vwCl (WX 72 ad E) H → va_S (fun _ : Nat => False) s.heap H locs → lv_has ls 8 [(7, .int v3_7), (0, .ref (ad 0)), (1, .int a0), (2, .int a1), (3, .int a2), (4, .int a3), (5, .int a4), (6, .int a5)] → W p l e (headSpec v_canBe rm_canBe).room s m args below meth c H locs 0 0 Q (F0 m 3 ls []) := by
    intro d
    induction d with
    | zero =>
      intro v3_7 H locs ls hv3_7 hx3_0 hP hS hl
      exact absurd hx3_0 (by first | exact ms_zu hv3_7.2 | omega)
    | succ d ih3 =>
      intro v3_7 H locs ls hv3_7 hx3_0 hP hS hl
      refine lv_iload hx hb dX13_canBe_3 (lv_at hl 0 rfl) ?_
      refine lv_aload_n hx hb dX13_canBe_5 rfl (lv_at hl 1 rfl) ?_
      have i1 : 0 ≤ (xi (E 0) 74).toInt ∧ (xi (E 0) 74).toInt ≤ 200 := hI0.iv 0 (Nat.le_of_ble_eq_true rfl) rfl (Nat.le_of_ble_eq_true rfl) rfl
      refine th_get (ci := 14) (C := RX13) (T := TX13) (N := 97) (v := .int (xi (E 0) 74)) hx hb hts hinX13 hown hK hP hI 0 (Nat.le_of_ble_eq_true rfl) rfl rfl 74 (Nat.le_of_ble_eq_true rfl) (hts _ (vA_in _ _ (in_25 _ (zs4 (zs4 (zs1 (zs1 (zs1 (zs0))))))))) (fun _ h9 => h9) (th_v0 hKp hI0 0 (Nat.le_of_ble_eq_true rfl) rfl (Nat.le_of_ble_eq_true rfl) rfl rfl) dX13_canBe_6 ?_
      refine lv_icmp_ge (tgt := 93) hx hb dX13_canBe_9 (by decide) (fun c2 => ?_) (fun c2 => ?_)
      · --9 taken
        have t3 : (xi (E 0) 74).toInt ≤ v3_7.toInt := ti_le c2
        refine lv_iconst (v := 1) hx hb dX13_canBe_93 (by decide) ?_
        rw [hQ]
        exact W.zret (v := 1) hx hb hr rfl (fun t ht hW => ⟨⟨1, (), rfl, Or.inl rfl, trivial⟩, hS.F ht⟩) hS.2.2 dX13_canBe_94
      · --9 not
        have t4 : v3_7.toInt < (xi (E 0) 74).toInt := ti_nle c2
        have i5 : 0 ≤ v3_7.toInt ∧ v3_7.toInt ≤ 199 := iv_lt_l t4 hv3_7 i1 (by decide)
        have i6 : 1 ≤ (xi (E 0) 74).toInt ∧ (xi (E 0) 74).toInt ≤ 200 := iv_lt_r t4 hv3_7 i1 (by decide)
        refine lv_aload_n hx hb dX13_canBe_12 rfl (lv_at hl 1 rfl) ?_
        refine th_get (ci := 14) (C := RX13) (T := TX13) (N := 97) (v := .ref (ad 38)) hx hb hts hinX13 hown hK hP hI 0 (Nat.le_of_ble_eq_true rfl) rfl rfl 56 (Nat.le_of_ble_eq_true rfl) (hts _ (vA_in _ _ (in_25 _ (zs4 (zs4 (zs4 (zs0))))))) (fun _ h9 => h9) (hI.fr 0 (Nat.le_of_ble_eq_true rfl) rfl (Nat.le_of_ble_eq_true rfl) 38 rfl) dX13_canBe_13 ?_
        refine lv_iload hx hb dX13_canBe_16 (lv_at hl 0 rfl) ?_
        have n8 : vp_in v3_7 200 := (iv_in (n := 200) i5 (by decide))
        refine th_iald hx hb hK hP hI 38 (Nat.le_of_ble_eq_true rfl) rfl rfl n8 dX13_canBe_18 (fun y7 ey7 => ?_)
        have iy7 : 0 ≤ y7.toInt ∧ y7.toInt ≤ 19 := hI.el 38 (Nat.le_of_ble_eq_true rfl) rfl n8 (fun _ => rfl) ey7
        have ey7 := ey7.trans (hKp.ei 38 _ rfl)
        refine lv_iload_n hx hb dX13_canBe_19 rfl (lv_at hl 2 rfl) ?_
        refine lv_icmp_ne (tgt := 87) hx hb dX13_canBe_20 (by decide) (fun c9 => ?_) (fun c9 => ?_)
        · --20 taken
          have t10 : ¬ y7.toInt = a0.toInt := ti_ne c9
          obtain ⟨y11, ey11⟩ : ∃ y : Int32, y = v3_7 + (1 : Int32) := ⟨_, rfl⟩
          obtain ⟨ty11, iy11⟩ := ti_add (e := 1) (f := 200) i5 ln_1 ey11 (by decide)
          have ty11 : y11.toInt = v3_7.toInt + 1 := ty11
          have iy11 : 1 ≤ y11.toInt ∧ y11.toInt ≤ 200 := iy11
          refine lv_iinc (v := y11) (lv' := [(7, .int y11), (0, .ref (ad 0)), (1, .int a0), (2, .int a1), (3, .int a2), (4, .int a3), (5, .int a4), (6, .int a5)]) hx hb dX13_canBe_87 hl (k := 0) rfl (by rw [ey11]; rfl) (by decide) rfl (fun ls hl => ?_)
          refine lv_goto (tgt := 3) hx hb dX13_canBe_90 (by decide) ?_
          exact ih3 y11 _ _ _ (iv_w iy11 (by decide)) (by first | exact ms_su hx3_0 ty11 (by decide) | omega) hP hS (lv_sub hl [0, 1, 2, 3, 4, 5, 6, 7] rfl)
        · --20 not
          have t12 : y7.toInt = a0.toInt := ti_eq c9
          refine lv_aload_n hx hb dX13_canBe_23 rfl (lv_at hl 1 rfl) ?_
          refine th_get (ci := 14) (C := RX13) (T := TX13) (N := 97) (v := .ref (ad 39)) hx hb hts hinX13 hown hK hP hI 0 (Nat.le_of_ble_eq_true rfl) rfl rfl 57 (Nat.le_of_ble_eq_true rfl) (hts _ (vA_in _ _ (in_25 _ (zs4 (zs4 (zs4 (zs1 (zs0)))))))) (fun _ h9 => h9) (hI.fr 0 (Nat.le_of_ble_eq_true rfl) rfl (Nat.le_of_ble_eq_true rfl) 39 rfl) dX13_canBe_24 ?_
          refine lv_iload hx hb dX13_canBe_27 (lv_at hl 0 rfl) ?_
          have n14 : vp_in v3_7 200 := (iv_in (n := 200) i5 (by decide))
          refine th_iald hx hb hK hP hI 39 (Nat.le_of_ble_eq_true rfl) rfl rfl n14 dX13_canBe_29 (fun y13 ey13 => ?_)
          have iy13 : 0 ≤ y13.toInt ∧ y13.toInt ≤ 15 := hI.el 39 (Nat.le_of_ble_eq_true rfl) rfl n14 (fun _ => rfl) ey13
          have ey13 := ey13.trans (hKp.ei 39 _ rfl)
          refine lv_iload_n hx hb dX13_canBe_30 rfl (lv_at hl 3 rfl) ?_
          refine lv_icmp_ne (tgt := 87) hx hb dX13_canBe_31 (by decide) (fun c15 => ?_) (fun c15 => ?_)
          · --31 taken
            have t16 : ¬ y13.toInt = a1.toInt := ti_ne c15
            obtain ⟨y17, ey17⟩ : ∃ y : Int32, y = v3_7 + (1 : Int32) := ⟨_, rfl⟩
            obtain ⟨ty17, iy17⟩ := ti_add (e := 1) (f := 200) i5 ln_1 ey17 (by decide)
            have ty17 : y17.toInt = v3_7.toInt + 1 := ty17
            have iy17 : 1 ≤ y17.toInt ∧ y17.toInt ≤ 200 := iy17
            refine lv_iinc (v := y17) (lv' := [(7, .int y17), (0, .ref (ad 0)), (1, .int a0), (2, .int a1), (3, .int a2), (4, .int a3), (5, .int a4), (6, .int a5)]) hx hb dX13_canBe_87 hl (k := 0) rfl (by rw [ey17]; rfl) (by decide) rfl (fun ls hl => ?_)
            refine lv_goto (tgt := 3) hx hb dX13_canBe_90 (by decide) ?_
            exact ih3 y17 _ _ _ (iv_w iy17 (by decide)) (by first | exact ms_su hx3_0 ty17 (by decide) | omega) hP hS (lv_sub hl [0, 1, 2, 3, 4, 5, 6, 7] rfl)
          · --31 not
            have t18 : y13.toInt = a1.toInt := ti_eq c15
            have i19 : 0 ≤ a1.toInt ∧ a1.toInt ≤ 15 := iv_eqi t18.symm (iv_all _) iy13 (by decide)
            refine lv_aload_n hx hb dX13_canBe_34 rfl (lv_at hl 1 rfl) ?_
            refine th_get (ci := 14) (C := RX13) (T := TX13) (N := 97) (v := .ref (ad 45)) hx hb hts hinX13 hown hK hP hI 0 (Nat.le_of_ble_eq_true rfl) rfl rfl 63 (Nat.le_of_ble_eq_true rfl) (hts _ (vA_in _ _ (in_25 _ (zs4 (zs4 (zs4 (zs1 (zs1 (zs0))))))))) (fun _ h9 => h9) (hI.fr 0 (Nat.le_of_ble_eq_true rfl) rfl (Nat.le_of_ble_eq_true rfl) 45 rfl) dX13_canBe_35 ?_
            refine lv_iload hx hb dX13_canBe_38 (lv_at hl 0 rfl) ?_
            have n21 : vp_in v3_7 200 := (iv_in (n := 200) i5 (by decide))
            refine th_iald hx hb hK hP hI 45 (Nat.le_of_ble_eq_true rfl) rfl rfl n21 dX13_canBe_40 (fun y20 ey20 => ?_)
            have iy20 : 0 ≤ y20.toInt ∧ y20.toInt ≤ 400 := hI.el 45 (Nat.le_of_ble_eq_true rfl) rfl n21 (fun _ => rfl) ey20
            have ey20 := ey20.trans (hKp.ei 45 _ rfl)
            refine lv_iload hx hb dX13_canBe_41 (lv_at hl 5 rfl) ?_
            refine lv_icmp_le (tgt := 49) hx hb dX13_canBe_43 (by decide) (fun c22 => ?_) (fun c22 => ?_)
            · --43 taken
              have t23 : y20.toInt ≤ a3.toInt := ti_le c22
              have i24 : 0 ≤ a3.toInt ∧ a3.toInt ≤ 2147483647 := iv_le_r t23 iy20 (iv_all _) (by decide)
              refine lv_aload_n hx hb dX13_canBe_49 rfl (lv_at hl 1 rfl) ?_
              refine lv_iload hx hb dX13_canBe_50 (lv_at hl 0 rfl) ?_
              refine lv_iload hx hb dX13_canBe_52 (lv_at hl 6 rfl) ?_
              refine lv_iload hx hb dX13_canBe_54 (lv_at hl 7 rfl) ?_
              refine th_ri (va_runV (As := [.int v3_7, .int a4, .int a5]) (rest := []) ⟨hx, hb, hml, hown, hts⟩ (q_farFrom l dC dI cT ad E H.size v3_7 a4 a5 hI i5) (cwV 3 hts (gi_V (in_25 _ (zs16 (zs4 (zs1 (zs0))))) (in_25 _ (zs16 (zs4 (zs1 (zs1 (zs0)))))) (in_25 _ (zs16 (zs4 (zs1 (zs1 (zs1 (zs0))))))) (in_24 _ (zs4 (zs4 (zs4 (zs1 (zs1 (zs1 (zs0)))))))) (in_25 _ (zs16 (zs4 (zs4 (zs0)))))) rfl rfl rfl ⟨rfl, hz_yX13_farFrom_3⟩ ⟨Nat.le_of_ble_eq_true rfl, Nat.le_of_ble_eq_true rfl⟩) ⟨HW_bl, va_recv hK hP (ci := 14) (q0 := 0) rfl (hI.ob 0 (Nat.le_of_ble_eq_true rfl) rfl), (HW_wiR hP hK (WX_D hD) hS hEV)⟩ rfl rfl hl.1 rfl (lv_room (Nat.le_of_ble_eq_true rfl)) dX13_canBe_56 ⟨Nat.le_of_ble_eq_true rfl, Nat.le_of_ble_eq_true rfl⟩) hS hP (fun r25 H locs hw hP hS => ?_)
              refine lv_i2l hx hb dX13_canBe_59 rfl ?_
              refine lv_topl (fun y26 ey26 => ?_)
              refine lv_aload_n hx hb dX13_canBe_60 rfl (lv_at hl 1 rfl) ?_
              refine th_get (ci := 14) (C := RX13) (T := TX13) (N := 97) (v := .ref (ad 19)) hx hb hts hinX13 hown hK hP hI 0 (Nat.le_of_ble_eq_true rfl) rfl rfl 33 (Nat.le_of_ble_eq_true rfl) (hts _ (vA_in _ _ (in_25 _ (zs16 (zs16 (zs1 (zs0))))))) (fun _ h9 => h9) (hI.fr 0 (Nat.le_of_ble_eq_true rfl) rfl (Nat.le_of_ble_eq_true rfl) 19 rfl) dX13_canBe_61 ?_
              refine lv_iload_n hx hb dX13_canBe_64 rfl (lv_at hl 2 rfl) ?_
              have n28 : vp_in a0 20 := (iv_in (n := 20) hh0 (by decide))
              refine th_iald hx hb hK hP hI 19 (Nat.le_of_ble_eq_true rfl) rfl rfl n28 dX13_canBe_65 (fun y27 ey27 => ?_)
              have iy27 : 0 ≤ y27.toInt ∧ y27.toInt ≤ 9 := hI.el 19 (Nat.le_of_ble_eq_true rfl) rfl n28 (fun _ => rfl) ey27
              have ey27 := ey27.trans (hKp.ei 19 _ rfl)
              refine lv_i2l hx hb dX13_canBe_66 rfl ?_
              refine lv_topl (fun y29 ey29 => ?_)
              refine lv_aload_n hx hb dX13_canBe_67 rfl (lv_at hl 1 rfl) ?_
              refine th_get (ci := 14) (C := RX13) (T := TX13) (N := 97) (v := .ref (ad 40)) hx hb hts hinX13 hown hK hP hI 0 (Nat.le_of_ble_eq_true rfl) rfl rfl 58 (Nat.le_of_ble_eq_true rfl) (hts _ (vA_in _ _ (in_25 _ (zs4 (zs4 (zs4 (zs1 (zs1 (zs1 (zs0)))))))))) (fun _ h9 => h9) (hI.fr 0 (Nat.le_of_ble_eq_true rfl) rfl (Nat.le_of_ble_eq_true rfl) 40 rfl) dX13_canBe_68 ?_
              refine lv_iload hx hb dX13_canBe_71 (lv_at hl 0 rfl) ?_
              have n31 : vp_in v3_7 200 := (iv_in (n := 200) i5 (by decide))
              refine th_iald hx hb hK hP hI 40 (Nat.le_of_ble_eq_true rfl) rfl rfl n31 dX13_canBe_73 (fun y30 ey30 => ?_)
              have iy30 : 0 ≤ y30.toInt ∧ y30.toInt ≤ 100000 := hI.el 40 (Nat.le_of_ble_eq_true rfl) rfl n31 (fun _ => rfl) ey30
              have ey30 := ey30.trans (hKp.ei 40 _ rfl)
              refine lv_iload_n hx hb dX13_canBe_74 rfl (lv_at hl 4 rfl) ?_
              refine lv_isub hx hb dX13_canBe_75 ?_
              refine lv_topi (fun y32 ey32 => ?_)
              refine va_mabs hx hb (by rw [hml]; exact hl.1.symm) hown (hts _ (vA_in _ _ (in_25 _ (zs16 (zs16 (zs1 (zs1 (zs0)))))))) (hts _ (vA_in _ _ (in_23 _ (zs4 (zs4 (zs1 (zs1 (zs0)))))))) (hts _ (vA_in _ _ (in_0 _ (zs16 (zs16 (zs1 (zs0))))))) (hts _ (vA_in _ _ (in_23 _ (zs4 (zs4 (zs1 (zs1 (zs1 (zs0))))))))) (Nat.le_of_ble_eq_true rfl) (Nat.le_of_ble_eq_true rfl) (Nat.le_of_ble_eq_true rfl) (Nat.le_of_ble_eq_true rfl) dX13_canBe_76 ?_
              refine lv_topi (fun y33 ey33 => ?_)
              refine lv_i2l hx hb dX13_canBe_79 rfl ?_
              refine lv_topl (fun y34 ey34 => ?_)
              refine lv_lmul hx hb dX13_canBe_80 ?_
              refine lv_topl (fun y35 ey35 => ?_)
              refine W.lcmp hx hb dX13_canBe_81 ?_
              refine lv_topi (fun y36 ey36 => ?_)
              refine lv_if_le (tgt := 87) hx hb dX13_canBe_82 (by decide) (fun c37 => ?_) (fun c37 => ?_)
              · --82 taken
                have t38 : y36.toInt ≤ 0 := ti_le c37
                have i39 : -2147483648 ≤ y36.toInt ∧ y36.toInt ≤ 0 := iv_le_l t38 (iv_all _) (il_ 0) (by decide)
                obtain ⟨y40, ey40⟩ : ∃ y : Int32, y = v3_7 + (1 : Int32) := ⟨_, rfl⟩
                obtain ⟨ty40, iy40⟩ := ti_add (e := 1) (f := 200) i5 ln_1 ey40 (by decide)
                have ty40 : y40.toInt = v3_7.toInt + 1 := ty40
                have iy40 : 1 ≤ y40.toInt ∧ y40.toInt ≤ 200 := iy40
                refine lv_iinc (v := y40) (lv' := [(7, .int y40), (0, .ref (ad 0)), (1, .int a0), (2, .int a1), (3, .int a2), (4, .int a3), (5, .int a4), (6, .int a5)]) hx hb dX13_canBe_87 hl (k := 0) rfl (by rw [ey40]; rfl) (by decide) rfl (fun ls hl => ?_)
                refine lv_goto (tgt := 3) hx hb dX13_canBe_90 (by decide) ?_
                exact ih3 y40 _ _ _ (iv_w iy40 (by decide)) (by first | exact ms_su hx3_0 ty40 (by decide) | omega) hP hS (lv_sub hl [0, 1, 2, 3, 4, 5, 6, 7] rfl)
              · --82 not
                have t41 : (0 : Int) < y36.toInt := ti_nle c37
                have i42 : 1 ≤ y36.toInt ∧ y36.toInt ≤ 2147483647 := iv_lt_r t41 (il_ 0) (iv_all _) (by decide)
                refine lv_iconst (v := 0) hx hb dX13_canBe_85 (by decide) ?_
                rw [hQ]
                exact W.zret (v := 0) hx hb hr rfl (fun t ht hW => ⟨⟨0, (), rfl, Or.inr (rfl), trivial⟩, hS.F ht⟩) hS.2.2 dX13_canBe_86
            · --43 not
              have t43 : a3.toInt < y20.toInt := ti_nle c22
              have i44 : -2147483648 ≤ a3.toInt ∧ a3.toInt ≤ 399 := iv_lt_l t43 (iv_all _) iy20 (by decide)
              refine lv_goto (tgt := 87) hx hb dX13_canBe_46 (by decide) ?_
              obtain ⟨y45, ey45⟩ : ∃ y : Int32, y = v3_7 + (1 : Int32) := ⟨_, rfl⟩
              obtain ⟨ty45, iy45⟩ := ti_add (e := 1) (f := 200) i5 ln_1 ey45 (by decide)
              have ty45 : y45.toInt = v3_7.toInt + 1 := ty45
              have iy45 : 1 ≤ y45.toInt ∧ y45.toInt ≤ 200 := iy45
              refine lv_iinc (v := y45) (lv' := [(7, .int y45), (0, .ref (ad 0)), (1, .int a0), (2, .int a1), (3, .int a2), (4, .int a3), (5, .int a4), (6, .int a5)]) hx hb dX13_canBe_87 hl (k := 0) rfl (by rw [ey45]; rfl) (by decide) rfl (fun ls hl => ?_)
              refine lv_goto (tgt := 3) hx hb dX13_canBe_90 (by decide) ?_
              exact ih3 y45 _ _ _ (iv_w iy45 (by decide)) (by first | exact ms_su hx3_0 ty45 (by decide) | omega) hP hS (lv_sub hl [0, 1, 2, 3, 4, 5, 6, 7] rfl)
  exact hL3 (201) (0 : Int32) _ _ _ (iv_w ln_0 (by decide)) (by have h9 := ln_0; first | exact ms_bu h9.1 (by decide) | omega) hP hS (lv_sub hl [0, 1, 2, 3, 4, 5, 6, 7] rfl)
end
section
theorem Pw.ef {E E' : Nat → va_E} {o j : Nat} {v : Value} (p : Pw E E' o j v) (c : Nat) (h : c ≠ o) : xi (E' c) = xi (E c) := funext (fun k => p.ei c k (fun q => h q.1))
theorem Pw.eu {E E' : Nat → va_E} {o j : Nat} {x : Int32} (p : Pw E E' o j (.int x)) : xi (E' o) = upd (xi (E o)) j x := funext (fun k => by
  by_cases h : k = j
  · subst h
    rw [pk_us]
    exact p.es
  · rw [pk_un h]
    exact p.ei o k (fun q => h q.2))
/-! ===== counts over rows ===== -/
/-- the sum of the first ones, and how many of them are above 0 -/
def sumI (g : Nat → Int32) : Nat → Int
  | 0 => 0
  | n + 1 => sumI g n + (g n).toInt
def posI (g : Nat → Int32) : Nat → Nat
  | 0 => 0
  | n + 1 => posI g n + (if 0 < (g n).toInt then 1 else 0)
theorem sumI_le {g : Nat → Int32} {c : Int} : ∀ n, (∀ j, j < n → 0 ≤ (g j).toInt ∧ (g j).toInt ≤ c) → 0 ≤ sumI g n ∧ sumI g n ≤ n * c := by
  intro n
  induction n with
  | zero => intro _; exact ⟨Int.le_refl 0, by simp [sumI]⟩
  | succ n ih =>
    intro h
    have h1 := ih (fun j hj => h j (by omega))
    have h2 := h n (by omega)
    simp only [sumI]
    have e : ((n + 1 : Nat) : Int) * c = n * c + c := by rw [Int.natCast_add, Int.add_mul]; omega
    rw [e]
    omega
theorem sumI_pos {g : Nat → Int32} : ∀ n, (∀ j, j < n → 0 ≤ (g j).toInt) → (posI g n : Int) ≤ sumI g n := by
  intro n
  induction n with
  | zero => intro _; exact Int.le_refl 0
  | succ n ih =>
    intro h
    have h1 := ih (fun j hj => h j (by omega))
    have h2 := h n (by omega)
    simp only [sumI, posI]
    split <;> omega
theorem sumI_out {g : Nat → Int32} {k : Nat} {x : Int32} : ∀ n, n ≤ k → sumI (upd g k x) n = sumI g n ∧ posI (upd g k x) n = posI g n := by
  intro n
  induction n with
  | zero => intro _; exact ⟨rfl, rfl⟩
  | succ n ih =>
    intro h
    have h1 := ih (by omega)
    simp only [sumI, posI, h1.1, h1.2, pk_un (show n ≠ k by omega)]
    exact ⟨trivial, trivial⟩
theorem sumI_upd {g : Nat → Int32} {k : Nat} {x : Int32} : ∀ n, k < n → sumI (upd g k x) n = sumI g n - (g k).toInt + x.toInt ∧ (posI (upd g k x) n : Int) = posI g n - (if 0 < (g k).toInt then 1 else 0) + (if 0 < x.toInt then 1 else 0) := by
  intro n
  induction n with
  | zero => intro h; omega
  | succ n ih =>
    intro h
    by_cases e : k = n
    · subst e
      have h1 := sumI_out (g := g) (k := k) (x := x) k (Nat.le_refl _)
      simp only [sumI, posI, h1.1, h1.2, pk_us]
      constructor
      · omega
      · split <;> split <;> omega
    · have h1 := ih (by omega)
      have e2 : n ≠ k := fun q => e q.symm
      simp only [sumI, posI, h1.1, pk_un e2]
      have h2 := h1.2
      constructor
      · omega
      · split <;> omega
theorem sumI_mono {g : Nat → Int32} {k : Nat} : ∀ n, k ≤ n → (∀ j, j < n → 0 ≤ (g j).toInt) → sumI g k ≤ sumI g n := by
  intro n
  induction n with
  | zero =>
    intro h _
    rw [show k = 0 by omega]
    exact Int.le_refl _
  | succ n ih =>
    intro h hg
    by_cases e : k = n + 1
    · rw [e]
      exact Int.le_refl _
    · have h1 := ih (by omega) (fun j hj => hg j (by omega))
      have h2 := hg n (by omega)
      simp only [sumI]
      omega
end

