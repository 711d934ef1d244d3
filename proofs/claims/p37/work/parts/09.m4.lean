set_option maxRecDepth 100000 in
theorem zh_dX13_worth_0_0 : zc cX13_worth 0 [42, 28, 29, 182, 1, 117, 54, 4, 21, 4, 2, 160, 0, 17, 27, 16] = true := by decide +kernel
set_option maxRecDepth 100000 in
theorem zh_dX13_worth_15_16 : zc cX13_worth 16 [110, 160, 0, 9, 17, 3, 232, 167, 0, 4, 3, 172, 42, 42, 180, 0] = true := by decide +kernel
set_option maxRecDepth 100000 in
theorem zh_dX13_worth_30_32 : zc cX13_worth 32 [32, 17, 0, 200, 21, 4, 104, 42, 180, 0, 35, 21, 4, 46, 27, 182] = true := by decide +kernel
set_option maxRecDepth 100000 in
theorem zh_dX13_worth_47_48 : zc cX13_worth 48 [1, 110, 42, 180, 1, 104, 172] = true := by decide +kernel
set_option maxRecDepth 100000 in
theorem zh_dX13_numberOf_0_0 : zc cX13_numberOf 0 [42, 27, 28, 29, 182, 0, 255, 54, 4, 21, 4, 2, 160, 0, 7, 17] = true := by decide +kernel
set_option maxRecDepth 100000 in
theorem zh_dX13_numberOf_15_16 : zc cX13_numberOf 16 [3, 232, 172, 42, 182, 1, 121, 42, 180, 0, 44, 16, 108, 42, 180, 0] = true := by decide +kernel
set_option maxRecDepth 100000 in
theorem zh_dX13_numberOf_30_32 : zc cX13_numberOf 32 [16, 21, 4, 46, 79, 42, 180, 0, 44, 16, 115, 42, 180, 0, 19, 21] = true := by decide +kernel
set_option maxRecDepth 100000 in
theorem zh_dX13_numberOf_47_48 : zc cX13_numberOf 48 [4, 46, 79, 42, 180, 0, 44, 16, 119, 42, 180, 0, 22, 21, 4, 46] = true := by decide +kernel
set_option maxRecDepth 100000 in
theorem zh_dX13_numberOf_64_64 : zc cX13_numberOf 64 [79, 17, 1, 244, 17, 7, 208, 42, 16, 110, 28, 29, 182, 1, 124, 184] = true := by decide +kernel
set_option maxRecDepth 100000 in
theorem zh_dX13_numberOf_79_80 : zc cX13_numberOf 80 [1, 127, 184, 1, 129, 172] = true := by decide +kernel
set_option maxRecDepth 100000 in
theorem zh_dX13_correctedOf_0_0 : zc cX13_correctedOf 0 [42, 27, 42, 27, 28, 29, 182, 1, 166, 42, 28, 42, 180, 0, 50, 27] = true := by decide +kernel
set_option maxRecDepth 100000 in
theorem zh_dX13_correctedOf_16_16 : zc cX13_correctedOf 16 [46, 29, 182, 1, 131, 182, 1, 169, 172] = true := by decide +kernel
set_option maxRecDepth 100000 in
theorem zh_dX13_placeOf_0_0 : zc cX13_placeOf 0 [42, 27, 28, 29, 182, 1, 172, 54, 4, 3, 54, 5, 3, 54, 6, 3] = true := by decide +kernel
set_option maxRecDepth 100000 in
theorem zh_dX13_placeOf_16_16 : zc cX13_placeOf 16 [54, 7, 21, 7, 42, 180, 0, 239, 162, 0, 67, 42, 27, 21, 7, 29] = true := by decide +kernel
set_option maxRecDepth 100000 in
theorem zh_dX13_placeOf_32_32 : zc cX13_placeOf 32 [182, 1, 163, 153, 0, 6, 167, 0, 47, 42, 27, 21, 7, 29, 182, 1] = true := by decide +kernel
set_option maxRecDepth 100000 in
theorem zh_dX13_placeOf_46_48 : zc cX13_placeOf 48 [172, 54, 8, 21, 5, 21, 8, 21, 4, 162, 0, 7, 4, 167, 0, 4] = true := by decide +kernel
set_option maxRecDepth 100000 in
theorem zh_dX13_placeOf_64_64 : zc cX13_placeOf 64 [3, 96, 54, 5, 21, 6, 21, 8, 21, 4, 160, 0, 7, 4, 167, 0] = true := by decide +kernel
set_option maxRecDepth 100000 in
theorem zh_dX13_placeOf_78_80 : zc cX13_placeOf 80 [4, 3, 96, 54, 6, 132, 7, 1, 167, 255, 186, 8, 5, 21, 5, 104] = true := by decide +kernel
set_option maxRecDepth 100000 in
theorem zh_dX13_placeOf_96_96 : zc cX13_placeOf 96 [4, 96, 21, 6, 96, 104, 172] = true := by decide +kernel
set_option maxRecDepth 100000 in
theorem zh_dX13_pointsByText_0_0 : zc cX13_pointsByText 0 [42, 27, 28, 29, 182, 1, 163, 54, 4, 21, 4, 154, 0, 13, 42, 27] = true := by decide +kernel
set_option maxRecDepth 100000 in
theorem zh_dX13_pointsByText_16_16 : zc cX13_pointsByText 16 [28, 29, 182, 1, 176, 167, 0, 4, 3, 54, 5, 3, 54, 6, 3, 54] = true := by decide +kernel
set_option maxRecDepth 100000 in
theorem zh_dX13_pointsByText_31_32 : zc cX13_pointsByText 32 [7, 3, 54, 8, 21, 8, 42, 180, 0, 239, 162, 0, 51, 21, 6, 42] = true := by decide +kernel
set_option maxRecDepth 100000 in
theorem zh_dX13_pointsByText_48_48 : zc cX13_pointsByText 48 [27, 21, 8, 29, 182, 1, 140, 153, 0, 7, 4, 167, 0, 4, 3, 96] = true := by decide +kernel
set_option maxRecDepth 100000 in
theorem zh_dX13_pointsByText_64_64 : zc cX13_pointsByText 64 [54, 6, 21, 7, 42, 27, 21, 8, 29, 182, 1, 163, 154, 0, 7, 4] = true := by decide +kernel
set_option maxRecDepth 100000 in
theorem zh_dX13_pointsByText_80_80 : zc cX13_pointsByText 80 [167, 0, 4, 3, 96, 54, 7, 132, 8, 1, 167, 255, 202, 42, 182, 1] = true := by decide +kernel
set_option maxRecDepth 100000 in
theorem zh_dX13_pointsByText_94_96 : zc cX13_pointsByText 96 [121, 42, 180, 0, 44, 16, 107, 21, 4, 79, 42, 180, 0, 44, 16, 114] = true := by decide +kernel
set_option maxRecDepth 100000 in
theorem zh_dX13_pointsByText_112_112 : zc cX13_pointsByText 112 [21, 5, 79, 42, 180, 0, 44, 16, 101, 21, 6, 79, 42, 180, 0, 44] = true := by decide +kernel
set_option maxRecDepth 100000 in
theorem zh_dX13_pointsByText_128_128 : zc cX13_pointsByText 128 [16, 102, 21, 7, 79, 3, 17, 39, 16, 42, 16, 112, 42, 180, 0, 50] = true := by decide +kernel
set_option maxRecDepth 100000 in
theorem zh_dX13_pointsByText_144_144 : zc cX13_pointsByText 144 [27, 46, 29, 182, 1, 124, 184, 1, 127, 184, 1, 129, 172] = true := by decide +kernel
set_option maxRecDepth 100000 in
theorem zh_dX13_pointsOf_0_0 : zc cX13_pointsOf 0 [42, 27, 28, 29, 182, 1, 182, 154, 0, 11, 42, 27, 28, 29, 182, 1] = true := by decide +kernel
set_option maxRecDepth 100000 in
theorem zh_dX13_pointsOf_14_16 : zc cX13_pointsOf 16 [185, 172, 3, 54, 4, 3, 54, 5, 3, 54, 6, 21, 6, 42, 180, 1] = true := by decide +kernel
set_option maxRecDepth 100000 in
theorem zh_dX13_pointsOf_30_32 : zc cX13_pointsOf 32 [134, 162, 0, 56, 21, 6, 27, 159, 0, 44, 42, 180, 0, 71, 21, 6] = true := by decide +kernel
set_option maxRecDepth 100000 in
theorem zh_dX13_pointsOf_48_48 : zc cX13_pointsOf 48 [46, 29, 163, 0, 33, 42, 21, 6, 28, 29, 182, 1, 182, 153, 0, 6] = true := by decide +kernel
set_option maxRecDepth 100000 in
theorem zh_dX13_pointsOf_64_64 : zc cX13_pointsOf 64 [167, 0, 19, 21, 4, 42, 21, 6, 28, 29, 182, 1, 185, 96, 54, 4] = true := by decide +kernel
set_option maxRecDepth 100000 in
theorem zh_dX13_pointsOf_80_80 : zc cX13_pointsOf 80 [132, 5, 1, 132, 6, 1, 167, 255, 197, 21, 5, 154, 0, 7, 3, 167] = true := by decide +kernel
set_option maxRecDepth 100000 in
theorem zh_dX13_pointsOf_95_96 : zc cX13_pointsOf 96 [0, 8, 21, 4, 21, 5, 108, 172] = true := by decide +kernel
theorem dX13_worth_0 : decode cX13_worth 0 = .ok (.aload_n 0, 1) := zo_42 (zi_at zh_dX13_worth_0_0 0 rfl)
theorem dX13_worth_1 : decode cX13_worth 1 = .ok (.iload_n 2, 1) := zo_28 (zi_at zh_dX13_worth_0_0 1 rfl)
theorem dX13_worth_2 : decode cX13_worth 2 = .ok (.iload_n 3, 1) := zo_29 (zi_at zh_dX13_worth_0_0 2 rfl)
theorem dX13_worth_3 : decode cX13_worth 3 = .ok (.invokevirtual 373, 3) := zo_182 (zi_at zh_dX13_worth_0_0 3 rfl) (zi_at zh_dX13_worth_0_0 4 rfl) (zi_at zh_dX13_worth_0_0 5 rfl) rfl
theorem dX13_worth_6 : decode cX13_worth 6 = .ok (.istore 4, 2) := zo_54 (zi_at zh_dX13_worth_0_0 6 rfl) (zi_at zh_dX13_worth_0_0 7 rfl)
theorem dX13_worth_8 : decode cX13_worth 8 = .ok (.iload 4, 2) := zo_21 (zi_at zh_dX13_worth_0_0 8 rfl) (zi_at zh_dX13_worth_0_0 9 rfl)
theorem dX13_worth_10 : decode cX13_worth 10 = .ok (.iconst (-1), 1) := zo_2 (zi_at zh_dX13_worth_0_0 10 rfl)
theorem dX13_worth_11 : decode cX13_worth 11 = .ok (.if_icmp .ne 17, 3) := zo_160 (zi_at zh_dX13_worth_0_0 11 rfl) (zi_at zh_dX13_worth_0_0 12 rfl) (zi_at zh_dX13_worth_0_0 13 rfl) rfl
theorem dX13_worth_14 : decode cX13_worth 14 = .ok (.iload_n 1, 1) := zo_27 (zi_at zh_dX13_worth_0_0 14 rfl)
theorem dX13_worth_15 : decode cX13_worth 15 = .ok (.bipush 110, 2) := zo_16 (zi_at zh_dX13_worth_0_0 15 rfl) (zi_at zh_dX13_worth_15_16 0 rfl) rfl
theorem dX13_worth_17 : decode cX13_worth 17 = .ok (.if_icmp .ne 9, 3) := zo_160 (zi_at zh_dX13_worth_15_16 1 rfl) (zi_at zh_dX13_worth_15_16 2 rfl) (zi_at zh_dX13_worth_15_16 3 rfl) rfl
theorem dX13_worth_20 : decode cX13_worth 20 = .ok (.sipush 1000, 3) := zo_17 (zi_at zh_dX13_worth_15_16 4 rfl) (zi_at zh_dX13_worth_15_16 5 rfl) (zi_at zh_dX13_worth_15_16 6 rfl) rfl
theorem dX13_worth_23 : decode cX13_worth 23 = .ok (.goto 4, 3) := zo_167 (zi_at zh_dX13_worth_15_16 7 rfl) (zi_at zh_dX13_worth_15_16 8 rfl) (zi_at zh_dX13_worth_15_16 9 rfl) rfl
theorem dX13_worth_26 : decode cX13_worth 26 = .ok (.iconst 0, 1) := zo_3 (zi_at zh_dX13_worth_15_16 10 rfl)
theorem dX13_worth_27 : decode cX13_worth 27 = .ok (.ireturn, 1) := zo_172 (zi_at zh_dX13_worth_15_16 11 rfl)
theorem dX13_worth_28 : decode cX13_worth 28 = .ok (.aload_n 0, 1) := zo_42 (zi_at zh_dX13_worth_15_16 12 rfl)
theorem dX13_worth_29 : decode cX13_worth 29 = .ok (.aload_n 0, 1) := zo_42 (zi_at zh_dX13_worth_15_16 13 rfl)
theorem dX13_worth_30 : decode cX13_worth 30 = .ok (.getfield 32, 3) := zo_180 (zi_at zh_dX13_worth_15_16 14 rfl) (zi_at zh_dX13_worth_15_16 15 rfl) (zi_at zh_dX13_worth_30_32 0 rfl) rfl
theorem dX13_worth_33 : decode cX13_worth 33 = .ok (.sipush 200, 3) := zo_17 (zi_at zh_dX13_worth_30_32 1 rfl) (zi_at zh_dX13_worth_30_32 2 rfl) (zi_at zh_dX13_worth_30_32 3 rfl) rfl
theorem dX13_worth_36 : decode cX13_worth 36 = .ok (.iload 4, 2) := zo_21 (zi_at zh_dX13_worth_30_32 4 rfl) (zi_at zh_dX13_worth_30_32 5 rfl)
theorem dX13_worth_38 : decode cX13_worth 38 = .ok (.imul, 1) := zo_104 (zi_at zh_dX13_worth_30_32 6 rfl)
theorem dX13_worth_39 : decode cX13_worth 39 = .ok (.aload_n 0, 1) := zo_42 (zi_at zh_dX13_worth_30_32 7 rfl)
theorem dX13_worth_40 : decode cX13_worth 40 = .ok (.getfield 35, 3) := zo_180 (zi_at zh_dX13_worth_30_32 8 rfl) (zi_at zh_dX13_worth_30_32 9 rfl) (zi_at zh_dX13_worth_30_32 10 rfl) rfl
theorem dX13_worth_43 : decode cX13_worth 43 = .ok (.iload 4, 2) := zo_21 (zi_at zh_dX13_worth_30_32 11 rfl) (zi_at zh_dX13_worth_30_32 12 rfl)
theorem dX13_worth_45 : decode cX13_worth 45 = .ok (.iaload, 1) := zo_46 (zi_at zh_dX13_worth_30_32 13 rfl)
theorem dX13_worth_46 : decode cX13_worth 46 = .ok (.iload_n 1, 1) := zo_27 (zi_at zh_dX13_worth_30_32 14 rfl)
theorem dX13_worth_47 : decode cX13_worth 47 = .ok (.invokevirtual 366, 3) := zo_182 (zi_at zh_dX13_worth_30_32 15 rfl) (zi_at zh_dX13_worth_47_48 0 rfl) (zi_at zh_dX13_worth_47_48 1 rfl) rfl
theorem dX13_worth_50 : decode cX13_worth 50 = .ok (.aload_n 0, 1) := zo_42 (zi_at zh_dX13_worth_47_48 2 rfl)
theorem dX13_worth_51 : decode cX13_worth 51 = .ok (.getfield 360, 3) := zo_180 (zi_at zh_dX13_worth_47_48 3 rfl) (zi_at zh_dX13_worth_47_48 4 rfl) (zi_at zh_dX13_worth_47_48 5 rfl) rfl
theorem dX13_worth_54 : decode cX13_worth 54 = .ok (.ireturn, 1) := zo_172 (zi_at zh_dX13_worth_47_48 6 rfl)
theorem dX13_numberOf_0 : decode cX13_numberOf 0 = .ok (.aload_n 0, 1) := zo_42 (zi_at zh_dX13_numberOf_0_0 0 rfl)
theorem dX13_numberOf_1 : decode cX13_numberOf 1 = .ok (.iload_n 1, 1) := zo_27 (zi_at zh_dX13_numberOf_0_0 1 rfl)
theorem dX13_numberOf_2 : decode cX13_numberOf 2 = .ok (.iload_n 2, 1) := zo_28 (zi_at zh_dX13_numberOf_0_0 2 rfl)
theorem dX13_numberOf_3 : decode cX13_numberOf 3 = .ok (.iload_n 3, 1) := zo_29 (zi_at zh_dX13_numberOf_0_0 3 rfl)
theorem dX13_numberOf_4 : decode cX13_numberOf 4 = .ok (.invokevirtual 255, 3) := zo_182 (zi_at zh_dX13_numberOf_0_0 4 rfl) (zi_at zh_dX13_numberOf_0_0 5 rfl) (zi_at zh_dX13_numberOf_0_0 6 rfl) rfl
theorem dX13_numberOf_7 : decode cX13_numberOf 7 = .ok (.istore 4, 2) := zo_54 (zi_at zh_dX13_numberOf_0_0 7 rfl) (zi_at zh_dX13_numberOf_0_0 8 rfl)
theorem dX13_numberOf_9 : decode cX13_numberOf 9 = .ok (.iload 4, 2) := zo_21 (zi_at zh_dX13_numberOf_0_0 9 rfl) (zi_at zh_dX13_numberOf_0_0 10 rfl)
theorem dX13_numberOf_11 : decode cX13_numberOf 11 = .ok (.iconst (-1), 1) := zo_2 (zi_at zh_dX13_numberOf_0_0 11 rfl)
theorem dX13_numberOf_12 : decode cX13_numberOf 12 = .ok (.if_icmp .ne 7, 3) := zo_160 (zi_at zh_dX13_numberOf_0_0 12 rfl) (zi_at zh_dX13_numberOf_0_0 13 rfl) (zi_at zh_dX13_numberOf_0_0 14 rfl) rfl
theorem dX13_numberOf_15 : decode cX13_numberOf 15 = .ok (.sipush 1000, 3) := zo_17 (zi_at zh_dX13_numberOf_0_0 15 rfl) (zi_at zh_dX13_numberOf_15_16 0 rfl) (zi_at zh_dX13_numberOf_15_16 1 rfl) rfl
theorem dX13_numberOf_18 : decode cX13_numberOf 18 = .ok (.ireturn, 1) := zo_172 (zi_at zh_dX13_numberOf_15_16 2 rfl)
theorem dX13_numberOf_19 : decode cX13_numberOf 19 = .ok (.aload_n 0, 1) := zo_42 (zi_at zh_dX13_numberOf_15_16 3 rfl)
theorem dX13_numberOf_20 : decode cX13_numberOf 20 = .ok (.invokevirtual 377, 3) := zo_182 (zi_at zh_dX13_numberOf_15_16 4 rfl) (zi_at zh_dX13_numberOf_15_16 5 rfl) (zi_at zh_dX13_numberOf_15_16 6 rfl) rfl
theorem dX13_numberOf_23 : decode cX13_numberOf 23 = .ok (.aload_n 0, 1) := zo_42 (zi_at zh_dX13_numberOf_15_16 7 rfl)
theorem dX13_numberOf_24 : decode cX13_numberOf 24 = .ok (.getfield 44, 3) := zo_180 (zi_at zh_dX13_numberOf_15_16 8 rfl) (zi_at zh_dX13_numberOf_15_16 9 rfl) (zi_at zh_dX13_numberOf_15_16 10 rfl) rfl
theorem dX13_numberOf_27 : decode cX13_numberOf 27 = .ok (.bipush 108, 2) := zo_16 (zi_at zh_dX13_numberOf_15_16 11 rfl) (zi_at zh_dX13_numberOf_15_16 12 rfl) rfl
theorem dX13_numberOf_29 : decode cX13_numberOf 29 = .ok (.aload_n 0, 1) := zo_42 (zi_at zh_dX13_numberOf_15_16 13 rfl)
theorem dX13_numberOf_30 : decode cX13_numberOf 30 = .ok (.getfield 16, 3) := zo_180 (zi_at zh_dX13_numberOf_15_16 14 rfl) (zi_at zh_dX13_numberOf_15_16 15 rfl) (zi_at zh_dX13_numberOf_30_32 0 rfl) rfl
theorem dX13_numberOf_33 : decode cX13_numberOf 33 = .ok (.iload 4, 2) := zo_21 (zi_at zh_dX13_numberOf_30_32 1 rfl) (zi_at zh_dX13_numberOf_30_32 2 rfl)
theorem dX13_numberOf_35 : decode cX13_numberOf 35 = .ok (.iaload, 1) := zo_46 (zi_at zh_dX13_numberOf_30_32 3 rfl)
theorem dX13_numberOf_36 : decode cX13_numberOf 36 = .ok (.iastore, 1) := zo_79 (zi_at zh_dX13_numberOf_30_32 4 rfl)
theorem dX13_numberOf_37 : decode cX13_numberOf 37 = .ok (.aload_n 0, 1) := zo_42 (zi_at zh_dX13_numberOf_30_32 5 rfl)
theorem dX13_numberOf_38 : decode cX13_numberOf 38 = .ok (.getfield 44, 3) := zo_180 (zi_at zh_dX13_numberOf_30_32 6 rfl) (zi_at zh_dX13_numberOf_30_32 7 rfl) (zi_at zh_dX13_numberOf_30_32 8 rfl) rfl
theorem dX13_numberOf_41 : decode cX13_numberOf 41 = .ok (.bipush 115, 2) := zo_16 (zi_at zh_dX13_numberOf_30_32 9 rfl) (zi_at zh_dX13_numberOf_30_32 10 rfl) rfl
theorem dX13_numberOf_43 : decode cX13_numberOf 43 = .ok (.aload_n 0, 1) := zo_42 (zi_at zh_dX13_numberOf_30_32 11 rfl)
theorem dX13_numberOf_44 : decode cX13_numberOf 44 = .ok (.getfield 19, 3) := zo_180 (zi_at zh_dX13_numberOf_30_32 12 rfl) (zi_at zh_dX13_numberOf_30_32 13 rfl) (zi_at zh_dX13_numberOf_30_32 14 rfl) rfl
theorem dX13_numberOf_47 : decode cX13_numberOf 47 = .ok (.iload 4, 2) := zo_21 (zi_at zh_dX13_numberOf_30_32 15 rfl) (zi_at zh_dX13_numberOf_47_48 0 rfl)
theorem dX13_numberOf_49 : decode cX13_numberOf 49 = .ok (.iaload, 1) := zo_46 (zi_at zh_dX13_numberOf_47_48 1 rfl)
theorem dX13_numberOf_50 : decode cX13_numberOf 50 = .ok (.iastore, 1) := zo_79 (zi_at zh_dX13_numberOf_47_48 2 rfl)
theorem dX13_numberOf_51 : decode cX13_numberOf 51 = .ok (.aload_n 0, 1) := zo_42 (zi_at zh_dX13_numberOf_47_48 3 rfl)
theorem dX13_numberOf_52 : decode cX13_numberOf 52 = .ok (.getfield 44, 3) := zo_180 (zi_at zh_dX13_numberOf_47_48 4 rfl) (zi_at zh_dX13_numberOf_47_48 5 rfl) (zi_at zh_dX13_numberOf_47_48 6 rfl) rfl
theorem dX13_numberOf_55 : decode cX13_numberOf 55 = .ok (.bipush 119, 2) := zo_16 (zi_at zh_dX13_numberOf_47_48 7 rfl) (zi_at zh_dX13_numberOf_47_48 8 rfl) rfl
theorem dX13_numberOf_57 : decode cX13_numberOf 57 = .ok (.aload_n 0, 1) := zo_42 (zi_at zh_dX13_numberOf_47_48 9 rfl)
theorem dX13_numberOf_58 : decode cX13_numberOf 58 = .ok (.getfield 22, 3) := zo_180 (zi_at zh_dX13_numberOf_47_48 10 rfl) (zi_at zh_dX13_numberOf_47_48 11 rfl) (zi_at zh_dX13_numberOf_47_48 12 rfl) rfl
theorem dX13_numberOf_61 : decode cX13_numberOf 61 = .ok (.iload 4, 2) := zo_21 (zi_at zh_dX13_numberOf_47_48 13 rfl) (zi_at zh_dX13_numberOf_47_48 14 rfl)
theorem dX13_numberOf_63 : decode cX13_numberOf 63 = .ok (.iaload, 1) := zo_46 (zi_at zh_dX13_numberOf_47_48 15 rfl)
theorem dX13_numberOf_64 : decode cX13_numberOf 64 = .ok (.iastore, 1) := zo_79 (zi_at zh_dX13_numberOf_64_64 0 rfl)
theorem dX13_numberOf_65 : decode cX13_numberOf 65 = .ok (.sipush 500, 3) := zo_17 (zi_at zh_dX13_numberOf_64_64 1 rfl) (zi_at zh_dX13_numberOf_64_64 2 rfl) (zi_at zh_dX13_numberOf_64_64 3 rfl) rfl
theorem dX13_numberOf_68 : decode cX13_numberOf 68 = .ok (.sipush 2000, 3) := zo_17 (zi_at zh_dX13_numberOf_64_64 4 rfl) (zi_at zh_dX13_numberOf_64_64 5 rfl) (zi_at zh_dX13_numberOf_64_64 6 rfl) rfl
theorem dX13_numberOf_71 : decode cX13_numberOf 71 = .ok (.aload_n 0, 1) := zo_42 (zi_at zh_dX13_numberOf_64_64 7 rfl)
theorem dX13_numberOf_72 : decode cX13_numberOf 72 = .ok (.bipush 110, 2) := zo_16 (zi_at zh_dX13_numberOf_64_64 8 rfl) (zi_at zh_dX13_numberOf_64_64 9 rfl) rfl
theorem dX13_numberOf_74 : decode cX13_numberOf 74 = .ok (.iload_n 2, 1) := zo_28 (zi_at zh_dX13_numberOf_64_64 10 rfl)
theorem dX13_numberOf_75 : decode cX13_numberOf 75 = .ok (.iload_n 3, 1) := zo_29 (zi_at zh_dX13_numberOf_64_64 11 rfl)
theorem dX13_numberOf_76 : decode cX13_numberOf 76 = .ok (.invokevirtual 380, 3) := zo_182 (zi_at zh_dX13_numberOf_64_64 12 rfl) (zi_at zh_dX13_numberOf_64_64 13 rfl) (zi_at zh_dX13_numberOf_64_64 14 rfl) rfl
theorem dX13_numberOf_79 : decode cX13_numberOf 79 = .ok (.invokestatic 383, 3) := zo_184 (zi_at zh_dX13_numberOf_64_64 15 rfl) (zi_at zh_dX13_numberOf_79_80 0 rfl) (zi_at zh_dX13_numberOf_79_80 1 rfl) rfl
theorem dX13_numberOf_82 : decode cX13_numberOf 82 = .ok (.invokestatic 385, 3) := zo_184 (zi_at zh_dX13_numberOf_79_80 2 rfl) (zi_at zh_dX13_numberOf_79_80 3 rfl) (zi_at zh_dX13_numberOf_79_80 4 rfl) rfl
theorem dX13_numberOf_85 : decode cX13_numberOf 85 = .ok (.ireturn, 1) := zo_172 (zi_at zh_dX13_numberOf_79_80 5 rfl)
theorem dX13_correctedOf_0 : decode cX13_correctedOf 0 = .ok (.aload_n 0, 1) := zo_42 (zi_at zh_dX13_correctedOf_0_0 0 rfl)
theorem dX13_correctedOf_1 : decode cX13_correctedOf 1 = .ok (.iload_n 1, 1) := zo_27 (zi_at zh_dX13_correctedOf_0_0 1 rfl)
theorem dX13_correctedOf_2 : decode cX13_correctedOf 2 = .ok (.aload_n 0, 1) := zo_42 (zi_at zh_dX13_correctedOf_0_0 2 rfl)
theorem dX13_correctedOf_3 : decode cX13_correctedOf 3 = .ok (.iload_n 1, 1) := zo_27 (zi_at zh_dX13_correctedOf_0_0 3 rfl)
theorem dX13_correctedOf_4 : decode cX13_correctedOf 4 = .ok (.iload_n 2, 1) := zo_28 (zi_at zh_dX13_correctedOf_0_0 4 rfl)
theorem dX13_correctedOf_5 : decode cX13_correctedOf 5 = .ok (.iload_n 3, 1) := zo_29 (zi_at zh_dX13_correctedOf_0_0 5 rfl)
theorem dX13_correctedOf_6 : decode cX13_correctedOf 6 = .ok (.invokevirtual 422, 3) := zo_182 (zi_at zh_dX13_correctedOf_0_0 6 rfl) (zi_at zh_dX13_correctedOf_0_0 7 rfl) (zi_at zh_dX13_correctedOf_0_0 8 rfl) rfl
theorem dX13_correctedOf_9 : decode cX13_correctedOf 9 = .ok (.aload_n 0, 1) := zo_42 (zi_at zh_dX13_correctedOf_0_0 9 rfl)
theorem dX13_correctedOf_10 : decode cX13_correctedOf 10 = .ok (.iload_n 2, 1) := zo_28 (zi_at zh_dX13_correctedOf_0_0 10 rfl)
theorem dX13_correctedOf_11 : decode cX13_correctedOf 11 = .ok (.aload_n 0, 1) := zo_42 (zi_at zh_dX13_correctedOf_0_0 11 rfl)
theorem dX13_correctedOf_12 : decode cX13_correctedOf 12 = .ok (.getfield 50, 3) := zo_180 (zi_at zh_dX13_correctedOf_0_0 12 rfl) (zi_at zh_dX13_correctedOf_0_0 13 rfl) (zi_at zh_dX13_correctedOf_0_0 14 rfl) rfl
theorem dX13_correctedOf_15 : decode cX13_correctedOf 15 = .ok (.iload_n 1, 1) := zo_27 (zi_at zh_dX13_correctedOf_0_0 15 rfl)
theorem dX13_correctedOf_16 : decode cX13_correctedOf 16 = .ok (.iaload, 1) := zo_46 (zi_at zh_dX13_correctedOf_16_16 0 rfl)
theorem dX13_correctedOf_17 : decode cX13_correctedOf 17 = .ok (.iload_n 3, 1) := zo_29 (zi_at zh_dX13_correctedOf_16_16 1 rfl)
theorem dX13_correctedOf_18 : decode cX13_correctedOf 18 = .ok (.invokevirtual 387, 3) := zo_182 (zi_at zh_dX13_correctedOf_16_16 2 rfl) (zi_at zh_dX13_correctedOf_16_16 3 rfl) (zi_at zh_dX13_correctedOf_16_16 4 rfl) rfl
theorem dX13_correctedOf_21 : decode cX13_correctedOf 21 = .ok (.invokevirtual 425, 3) := zo_182 (zi_at zh_dX13_correctedOf_16_16 5 rfl) (zi_at zh_dX13_correctedOf_16_16 6 rfl) (zi_at zh_dX13_correctedOf_16_16 7 rfl) rfl
theorem dX13_correctedOf_24 : decode cX13_correctedOf 24 = .ok (.ireturn, 1) := zo_172 (zi_at zh_dX13_correctedOf_16_16 8 rfl)
theorem dX13_placeOf_0 : decode cX13_placeOf 0 = .ok (.aload_n 0, 1) := zo_42 (zi_at zh_dX13_placeOf_0_0 0 rfl)
theorem dX13_placeOf_1 : decode cX13_placeOf 1 = .ok (.iload_n 1, 1) := zo_27 (zi_at zh_dX13_placeOf_0_0 1 rfl)
theorem dX13_placeOf_2 : decode cX13_placeOf 2 = .ok (.iload_n 2, 1) := zo_28 (zi_at zh_dX13_placeOf_0_0 2 rfl)
theorem dX13_placeOf_3 : decode cX13_placeOf 3 = .ok (.iload_n 3, 1) := zo_29 (zi_at zh_dX13_placeOf_0_0 3 rfl)
theorem dX13_placeOf_4 : decode cX13_placeOf 4 = .ok (.invokevirtual 428, 3) := zo_182 (zi_at zh_dX13_placeOf_0_0 4 rfl) (zi_at zh_dX13_placeOf_0_0 5 rfl) (zi_at zh_dX13_placeOf_0_0 6 rfl) rfl
theorem dX13_placeOf_7 : decode cX13_placeOf 7 = .ok (.istore 4, 2) := zo_54 (zi_at zh_dX13_placeOf_0_0 7 rfl) (zi_at zh_dX13_placeOf_0_0 8 rfl)
theorem dX13_placeOf_9 : decode cX13_placeOf 9 = .ok (.iconst 0, 1) := zo_3 (zi_at zh_dX13_placeOf_0_0 9 rfl)
theorem dX13_placeOf_10 : decode cX13_placeOf 10 = .ok (.istore 5, 2) := zo_54 (zi_at zh_dX13_placeOf_0_0 10 rfl) (zi_at zh_dX13_placeOf_0_0 11 rfl)
theorem dX13_placeOf_12 : decode cX13_placeOf 12 = .ok (.iconst 0, 1) := zo_3 (zi_at zh_dX13_placeOf_0_0 12 rfl)
theorem dX13_placeOf_13 : decode cX13_placeOf 13 = .ok (.istore 6, 2) := zo_54 (zi_at zh_dX13_placeOf_0_0 13 rfl) (zi_at zh_dX13_placeOf_0_0 14 rfl)
theorem dX13_placeOf_15 : decode cX13_placeOf 15 = .ok (.iconst 0, 1) := zo_3 (zi_at zh_dX13_placeOf_0_0 15 rfl)
theorem dX13_placeOf_16 : decode cX13_placeOf 16 = .ok (.istore 7, 2) := zo_54 (zi_at zh_dX13_placeOf_16_16 0 rfl) (zi_at zh_dX13_placeOf_16_16 1 rfl)
theorem dX13_placeOf_18 : decode cX13_placeOf 18 = .ok (.iload 7, 2) := zo_21 (zi_at zh_dX13_placeOf_16_16 2 rfl) (zi_at zh_dX13_placeOf_16_16 3 rfl)
theorem dX13_placeOf_20 : decode cX13_placeOf 20 = .ok (.aload_n 0, 1) := zo_42 (zi_at zh_dX13_placeOf_16_16 4 rfl)
theorem dX13_placeOf_21 : decode cX13_placeOf 21 = .ok (.getfield 239, 3) := zo_180 (zi_at zh_dX13_placeOf_16_16 5 rfl) (zi_at zh_dX13_placeOf_16_16 6 rfl) (zi_at zh_dX13_placeOf_16_16 7 rfl) rfl
theorem dX13_placeOf_24 : decode cX13_placeOf 24 = .ok (.if_icmp .ge 67, 3) := zo_162 (zi_at zh_dX13_placeOf_16_16 8 rfl) (zi_at zh_dX13_placeOf_16_16 9 rfl) (zi_at zh_dX13_placeOf_16_16 10 rfl) rfl
theorem dX13_placeOf_27 : decode cX13_placeOf 27 = .ok (.aload_n 0, 1) := zo_42 (zi_at zh_dX13_placeOf_16_16 11 rfl)
theorem dX13_placeOf_28 : decode cX13_placeOf 28 = .ok (.iload_n 1, 1) := zo_27 (zi_at zh_dX13_placeOf_16_16 12 rfl)
theorem dX13_placeOf_29 : decode cX13_placeOf 29 = .ok (.iload 7, 2) := zo_21 (zi_at zh_dX13_placeOf_16_16 13 rfl) (zi_at zh_dX13_placeOf_16_16 14 rfl)
theorem dX13_placeOf_31 : decode cX13_placeOf 31 = .ok (.iload_n 3, 1) := zo_29 (zi_at zh_dX13_placeOf_16_16 15 rfl)
theorem dX13_placeOf_32 : decode cX13_placeOf 32 = .ok (.invokevirtual 419, 3) := zo_182 (zi_at zh_dX13_placeOf_32_32 0 rfl) (zi_at zh_dX13_placeOf_32_32 1 rfl) (zi_at zh_dX13_placeOf_32_32 2 rfl) rfl
theorem dX13_placeOf_35 : decode cX13_placeOf 35 = .ok (.ifCond .eq 6, 3) := zo_153 (zi_at zh_dX13_placeOf_32_32 3 rfl) (zi_at zh_dX13_placeOf_32_32 4 rfl) (zi_at zh_dX13_placeOf_32_32 5 rfl) rfl
theorem dX13_placeOf_38 : decode cX13_placeOf 38 = .ok (.goto 47, 3) := zo_167 (zi_at zh_dX13_placeOf_32_32 6 rfl) (zi_at zh_dX13_placeOf_32_32 7 rfl) (zi_at zh_dX13_placeOf_32_32 8 rfl) rfl
theorem dX13_placeOf_41 : decode cX13_placeOf 41 = .ok (.aload_n 0, 1) := zo_42 (zi_at zh_dX13_placeOf_32_32 9 rfl)
theorem dX13_placeOf_42 : decode cX13_placeOf 42 = .ok (.iload_n 1, 1) := zo_27 (zi_at zh_dX13_placeOf_32_32 10 rfl)
theorem dX13_placeOf_43 : decode cX13_placeOf 43 = .ok (.iload 7, 2) := zo_21 (zi_at zh_dX13_placeOf_32_32 11 rfl) (zi_at zh_dX13_placeOf_32_32 12 rfl)
theorem dX13_placeOf_45 : decode cX13_placeOf 45 = .ok (.iload_n 3, 1) := zo_29 (zi_at zh_dX13_placeOf_32_32 13 rfl)
theorem dX13_placeOf_46 : decode cX13_placeOf 46 = .ok (.invokevirtual 428, 3) := zo_182 (zi_at zh_dX13_placeOf_32_32 14 rfl) (zi_at zh_dX13_placeOf_32_32 15 rfl) (zi_at zh_dX13_placeOf_46_48 0 rfl) rfl
theorem dX13_placeOf_49 : decode cX13_placeOf 49 = .ok (.istore 8, 2) := zo_54 (zi_at zh_dX13_placeOf_46_48 1 rfl) (zi_at zh_dX13_placeOf_46_48 2 rfl)
theorem dX13_placeOf_51 : decode cX13_placeOf 51 = .ok (.iload 5, 2) := zo_21 (zi_at zh_dX13_placeOf_46_48 3 rfl) (zi_at zh_dX13_placeOf_46_48 4 rfl)
theorem dX13_placeOf_53 : decode cX13_placeOf 53 = .ok (.iload 8, 2) := zo_21 (zi_at zh_dX13_placeOf_46_48 5 rfl) (zi_at zh_dX13_placeOf_46_48 6 rfl)
theorem dX13_placeOf_55 : decode cX13_placeOf 55 = .ok (.iload 4, 2) := zo_21 (zi_at zh_dX13_placeOf_46_48 7 rfl) (zi_at zh_dX13_placeOf_46_48 8 rfl)
theorem dX13_placeOf_57 : decode cX13_placeOf 57 = .ok (.if_icmp .ge 7, 3) := zo_162 (zi_at zh_dX13_placeOf_46_48 9 rfl) (zi_at zh_dX13_placeOf_46_48 10 rfl) (zi_at zh_dX13_placeOf_46_48 11 rfl) rfl
theorem dX13_placeOf_60 : decode cX13_placeOf 60 = .ok (.iconst 1, 1) := zo_4 (zi_at zh_dX13_placeOf_46_48 12 rfl)
theorem dX13_placeOf_61 : decode cX13_placeOf 61 = .ok (.goto 4, 3) := zo_167 (zi_at zh_dX13_placeOf_46_48 13 rfl) (zi_at zh_dX13_placeOf_46_48 14 rfl) (zi_at zh_dX13_placeOf_46_48 15 rfl) rfl
theorem dX13_placeOf_64 : decode cX13_placeOf 64 = .ok (.iconst 0, 1) := zo_3 (zi_at zh_dX13_placeOf_64_64 0 rfl)
theorem dX13_placeOf_65 : decode cX13_placeOf 65 = .ok (.iadd, 1) := zo_96 (zi_at zh_dX13_placeOf_64_64 1 rfl)
theorem dX13_placeOf_66 : decode cX13_placeOf 66 = .ok (.istore 5, 2) := zo_54 (zi_at zh_dX13_placeOf_64_64 2 rfl) (zi_at zh_dX13_placeOf_64_64 3 rfl)
theorem dX13_placeOf_68 : decode cX13_placeOf 68 = .ok (.iload 6, 2) := zo_21 (zi_at zh_dX13_placeOf_64_64 4 rfl) (zi_at zh_dX13_placeOf_64_64 5 rfl)
theorem dX13_placeOf_70 : decode cX13_placeOf 70 = .ok (.iload 8, 2) := zo_21 (zi_at zh_dX13_placeOf_64_64 6 rfl) (zi_at zh_dX13_placeOf_64_64 7 rfl)
theorem dX13_placeOf_72 : decode cX13_placeOf 72 = .ok (.iload 4, 2) := zo_21 (zi_at zh_dX13_placeOf_64_64 8 rfl) (zi_at zh_dX13_placeOf_64_64 9 rfl)
theorem dX13_placeOf_74 : decode cX13_placeOf 74 = .ok (.if_icmp .ne 7, 3) := zo_160 (zi_at zh_dX13_placeOf_64_64 10 rfl) (zi_at zh_dX13_placeOf_64_64 11 rfl) (zi_at zh_dX13_placeOf_64_64 12 rfl) rfl
theorem dX13_placeOf_77 : decode cX13_placeOf 77 = .ok (.iconst 1, 1) := zo_4 (zi_at zh_dX13_placeOf_64_64 13 rfl)
theorem dX13_placeOf_78 : decode cX13_placeOf 78 = .ok (.goto 4, 3) := zo_167 (zi_at zh_dX13_placeOf_64_64 14 rfl) (zi_at zh_dX13_placeOf_64_64 15 rfl) (zi_at zh_dX13_placeOf_78_80 0 rfl) rfl
theorem dX13_placeOf_81 : decode cX13_placeOf 81 = .ok (.iconst 0, 1) := zo_3 (zi_at zh_dX13_placeOf_78_80 1 rfl)
theorem dX13_placeOf_82 : decode cX13_placeOf 82 = .ok (.iadd, 1) := zo_96 (zi_at zh_dX13_placeOf_78_80 2 rfl)
theorem dX13_placeOf_83 : decode cX13_placeOf 83 = .ok (.istore 6, 2) := zo_54 (zi_at zh_dX13_placeOf_78_80 3 rfl) (zi_at zh_dX13_placeOf_78_80 4 rfl)
theorem dX13_placeOf_85 : decode cX13_placeOf 85 = .ok (.iinc 7 1, 3) := zo_132 (zi_at zh_dX13_placeOf_78_80 5 rfl) (zi_at zh_dX13_placeOf_78_80 6 rfl) (zi_at zh_dX13_placeOf_78_80 7 rfl) rfl
theorem dX13_placeOf_88 : decode cX13_placeOf 88 = .ok (.goto (-70), 3) := zo_167 (zi_at zh_dX13_placeOf_78_80 8 rfl) (zi_at zh_dX13_placeOf_78_80 9 rfl) (zi_at zh_dX13_placeOf_78_80 10 rfl) rfl
theorem dX13_placeOf_91 : decode cX13_placeOf 91 = .ok (.iconst 5, 1) := zo_8 (zi_at zh_dX13_placeOf_78_80 11 rfl)
theorem dX13_placeOf_92 : decode cX13_placeOf 92 = .ok (.iconst 2, 1) := zo_5 (zi_at zh_dX13_placeOf_78_80 12 rfl)
theorem dX13_placeOf_93 : decode cX13_placeOf 93 = .ok (.iload 5, 2) := zo_21 (zi_at zh_dX13_placeOf_78_80 13 rfl) (zi_at zh_dX13_placeOf_78_80 14 rfl)
theorem dX13_placeOf_95 : decode cX13_placeOf 95 = .ok (.imul, 1) := zo_104 (zi_at zh_dX13_placeOf_78_80 15 rfl)
theorem dX13_placeOf_96 : decode cX13_placeOf 96 = .ok (.iconst 1, 1) := zo_4 (zi_at zh_dX13_placeOf_96_96 0 rfl)
theorem dX13_placeOf_97 : decode cX13_placeOf 97 = .ok (.iadd, 1) := zo_96 (zi_at zh_dX13_placeOf_96_96 1 rfl)
theorem dX13_placeOf_98 : decode cX13_placeOf 98 = .ok (.iload 6, 2) := zo_21 (zi_at zh_dX13_placeOf_96_96 2 rfl) (zi_at zh_dX13_placeOf_96_96 3 rfl)
theorem dX13_placeOf_100 : decode cX13_placeOf 100 = .ok (.iadd, 1) := zo_96 (zi_at zh_dX13_placeOf_96_96 4 rfl)
theorem dX13_placeOf_101 : decode cX13_placeOf 101 = .ok (.imul, 1) := zo_104 (zi_at zh_dX13_placeOf_96_96 5 rfl)
theorem dX13_placeOf_102 : decode cX13_placeOf 102 = .ok (.ireturn, 1) := zo_172 (zi_at zh_dX13_placeOf_96_96 6 rfl)
theorem dX13_pointsByText_0 : decode cX13_pointsByText 0 = .ok (.aload_n 0, 1) := zo_42 (zi_at zh_dX13_pointsByText_0_0 0 rfl)
theorem dX13_pointsByText_1 : decode cX13_pointsByText 1 = .ok (.iload_n 1, 1) := zo_27 (zi_at zh_dX13_pointsByText_0_0 1 rfl)
theorem dX13_pointsByText_2 : decode cX13_pointsByText 2 = .ok (.iload_n 2, 1) := zo_28 (zi_at zh_dX13_pointsByText_0_0 2 rfl)
theorem dX13_pointsByText_3 : decode cX13_pointsByText 3 = .ok (.iload_n 3, 1) := zo_29 (zi_at zh_dX13_pointsByText_0_0 3 rfl)
theorem dX13_pointsByText_4 : decode cX13_pointsByText 4 = .ok (.invokevirtual 419, 3) := zo_182 (zi_at zh_dX13_pointsByText_0_0 4 rfl) (zi_at zh_dX13_pointsByText_0_0 5 rfl) (zi_at zh_dX13_pointsByText_0_0 6 rfl) rfl
theorem dX13_pointsByText_7 : decode cX13_pointsByText 7 = .ok (.istore 4, 2) := zo_54 (zi_at zh_dX13_pointsByText_0_0 7 rfl) (zi_at zh_dX13_pointsByText_0_0 8 rfl)
theorem dX13_pointsByText_9 : decode cX13_pointsByText 9 = .ok (.iload 4, 2) := zo_21 (zi_at zh_dX13_pointsByText_0_0 9 rfl) (zi_at zh_dX13_pointsByText_0_0 10 rfl)
theorem dX13_pointsByText_11 : decode cX13_pointsByText 11 = .ok (.ifCond .ne 13, 3) := zo_154 (zi_at zh_dX13_pointsByText_0_0 11 rfl) (zi_at zh_dX13_pointsByText_0_0 12 rfl) (zi_at zh_dX13_pointsByText_0_0 13 rfl) rfl
theorem dX13_pointsByText_14 : decode cX13_pointsByText 14 = .ok (.aload_n 0, 1) := zo_42 (zi_at zh_dX13_pointsByText_0_0 14 rfl)
theorem dX13_pointsByText_15 : decode cX13_pointsByText 15 = .ok (.iload_n 1, 1) := zo_27 (zi_at zh_dX13_pointsByText_0_0 15 rfl)
theorem dX13_pointsByText_16 : decode cX13_pointsByText 16 = .ok (.iload_n 2, 1) := zo_28 (zi_at zh_dX13_pointsByText_16_16 0 rfl)
theorem dX13_pointsByText_17 : decode cX13_pointsByText 17 = .ok (.iload_n 3, 1) := zo_29 (zi_at zh_dX13_pointsByText_16_16 1 rfl)
theorem dX13_pointsByText_18 : decode cX13_pointsByText 18 = .ok (.invokevirtual 432, 3) := zo_182 (zi_at zh_dX13_pointsByText_16_16 2 rfl) (zi_at zh_dX13_pointsByText_16_16 3 rfl) (zi_at zh_dX13_pointsByText_16_16 4 rfl) rfl
theorem dX13_pointsByText_21 : decode cX13_pointsByText 21 = .ok (.goto 4, 3) := zo_167 (zi_at zh_dX13_pointsByText_16_16 5 rfl) (zi_at zh_dX13_pointsByText_16_16 6 rfl) (zi_at zh_dX13_pointsByText_16_16 7 rfl) rfl
theorem dX13_pointsByText_24 : decode cX13_pointsByText 24 = .ok (.iconst 0, 1) := zo_3 (zi_at zh_dX13_pointsByText_16_16 8 rfl)
theorem dX13_pointsByText_25 : decode cX13_pointsByText 25 = .ok (.istore 5, 2) := zo_54 (zi_at zh_dX13_pointsByText_16_16 9 rfl) (zi_at zh_dX13_pointsByText_16_16 10 rfl)
theorem dX13_pointsByText_27 : decode cX13_pointsByText 27 = .ok (.iconst 0, 1) := zo_3 (zi_at zh_dX13_pointsByText_16_16 11 rfl)
theorem dX13_pointsByText_28 : decode cX13_pointsByText 28 = .ok (.istore 6, 2) := zo_54 (zi_at zh_dX13_pointsByText_16_16 12 rfl) (zi_at zh_dX13_pointsByText_16_16 13 rfl)
theorem dX13_pointsByText_30 : decode cX13_pointsByText 30 = .ok (.iconst 0, 1) := zo_3 (zi_at zh_dX13_pointsByText_16_16 14 rfl)
theorem dX13_pointsByText_31 : decode cX13_pointsByText 31 = .ok (.istore 7, 2) := zo_54 (zi_at zh_dX13_pointsByText_16_16 15 rfl) (zi_at zh_dX13_pointsByText_31_32 0 rfl)
theorem dX13_pointsByText_33 : decode cX13_pointsByText 33 = .ok (.iconst 0, 1) := zo_3 (zi_at zh_dX13_pointsByText_31_32 1 rfl)
theorem dX13_pointsByText_34 : decode cX13_pointsByText 34 = .ok (.istore 8, 2) := zo_54 (zi_at zh_dX13_pointsByText_31_32 2 rfl) (zi_at zh_dX13_pointsByText_31_32 3 rfl)
theorem dX13_pointsByText_36 : decode cX13_pointsByText 36 = .ok (.iload 8, 2) := zo_21 (zi_at zh_dX13_pointsByText_31_32 4 rfl) (zi_at zh_dX13_pointsByText_31_32 5 rfl)
theorem dX13_pointsByText_38 : decode cX13_pointsByText 38 = .ok (.aload_n 0, 1) := zo_42 (zi_at zh_dX13_pointsByText_31_32 6 rfl)
theorem dX13_pointsByText_39 : decode cX13_pointsByText 39 = .ok (.getfield 239, 3) := zo_180 (zi_at zh_dX13_pointsByText_31_32 7 rfl) (zi_at zh_dX13_pointsByText_31_32 8 rfl) (zi_at zh_dX13_pointsByText_31_32 9 rfl) rfl
theorem dX13_pointsByText_42 : decode cX13_pointsByText 42 = .ok (.if_icmp .ge 51, 3) := zo_162 (zi_at zh_dX13_pointsByText_31_32 10 rfl) (zi_at zh_dX13_pointsByText_31_32 11 rfl) (zi_at zh_dX13_pointsByText_31_32 12 rfl) rfl
theorem dX13_pointsByText_45 : decode cX13_pointsByText 45 = .ok (.iload 6, 2) := zo_21 (zi_at zh_dX13_pointsByText_31_32 13 rfl) (zi_at zh_dX13_pointsByText_31_32 14 rfl)
theorem dX13_pointsByText_47 : decode cX13_pointsByText 47 = .ok (.aload_n 0, 1) := zo_42 (zi_at zh_dX13_pointsByText_31_32 15 rfl)
theorem dX13_pointsByText_48 : decode cX13_pointsByText 48 = .ok (.iload_n 1, 1) := zo_27 (zi_at zh_dX13_pointsByText_48_48 0 rfl)
theorem dX13_pointsByText_49 : decode cX13_pointsByText 49 = .ok (.iload 8, 2) := zo_21 (zi_at zh_dX13_pointsByText_48_48 1 rfl) (zi_at zh_dX13_pointsByText_48_48 2 rfl)
theorem dX13_pointsByText_51 : decode cX13_pointsByText 51 = .ok (.iload_n 3, 1) := zo_29 (zi_at zh_dX13_pointsByText_48_48 3 rfl)
theorem dX13_pointsByText_52 : decode cX13_pointsByText 52 = .ok (.invokevirtual 396, 3) := zo_182 (zi_at zh_dX13_pointsByText_48_48 4 rfl) (zi_at zh_dX13_pointsByText_48_48 5 rfl) (zi_at zh_dX13_pointsByText_48_48 6 rfl) rfl
theorem dX13_pointsByText_55 : decode cX13_pointsByText 55 = .ok (.ifCond .eq 7, 3) := zo_153 (zi_at zh_dX13_pointsByText_48_48 7 rfl) (zi_at zh_dX13_pointsByText_48_48 8 rfl) (zi_at zh_dX13_pointsByText_48_48 9 rfl) rfl
theorem dX13_pointsByText_58 : decode cX13_pointsByText 58 = .ok (.iconst 1, 1) := zo_4 (zi_at zh_dX13_pointsByText_48_48 10 rfl)
theorem dX13_pointsByText_59 : decode cX13_pointsByText 59 = .ok (.goto 4, 3) := zo_167 (zi_at zh_dX13_pointsByText_48_48 11 rfl) (zi_at zh_dX13_pointsByText_48_48 12 rfl) (zi_at zh_dX13_pointsByText_48_48 13 rfl) rfl
theorem dX13_pointsByText_62 : decode cX13_pointsByText 62 = .ok (.iconst 0, 1) := zo_3 (zi_at zh_dX13_pointsByText_48_48 14 rfl)
theorem dX13_pointsByText_63 : decode cX13_pointsByText 63 = .ok (.iadd, 1) := zo_96 (zi_at zh_dX13_pointsByText_48_48 15 rfl)
theorem dX13_pointsByText_64 : decode cX13_pointsByText 64 = .ok (.istore 6, 2) := zo_54 (zi_at zh_dX13_pointsByText_64_64 0 rfl) (zi_at zh_dX13_pointsByText_64_64 1 rfl)
theorem dX13_pointsByText_66 : decode cX13_pointsByText 66 = .ok (.iload 7, 2) := zo_21 (zi_at zh_dX13_pointsByText_64_64 2 rfl) (zi_at zh_dX13_pointsByText_64_64 3 rfl)
theorem dX13_pointsByText_68 : decode cX13_pointsByText 68 = .ok (.aload_n 0, 1) := zo_42 (zi_at zh_dX13_pointsByText_64_64 4 rfl)
theorem dX13_pointsByText_69 : decode cX13_pointsByText 69 = .ok (.iload_n 1, 1) := zo_27 (zi_at zh_dX13_pointsByText_64_64 5 rfl)
theorem dX13_pointsByText_70 : decode cX13_pointsByText 70 = .ok (.iload 8, 2) := zo_21 (zi_at zh_dX13_pointsByText_64_64 6 rfl) (zi_at zh_dX13_pointsByText_64_64 7 rfl)
theorem dX13_pointsByText_72 : decode cX13_pointsByText 72 = .ok (.iload_n 3, 1) := zo_29 (zi_at zh_dX13_pointsByText_64_64 8 rfl)
theorem dX13_pointsByText_73 : decode cX13_pointsByText 73 = .ok (.invokevirtual 419, 3) := zo_182 (zi_at zh_dX13_pointsByText_64_64 9 rfl) (zi_at zh_dX13_pointsByText_64_64 10 rfl) (zi_at zh_dX13_pointsByText_64_64 11 rfl) rfl
theorem dX13_pointsByText_76 : decode cX13_pointsByText 76 = .ok (.ifCond .ne 7, 3) := zo_154 (zi_at zh_dX13_pointsByText_64_64 12 rfl) (zi_at zh_dX13_pointsByText_64_64 13 rfl) (zi_at zh_dX13_pointsByText_64_64 14 rfl) rfl
theorem dX13_pointsByText_79 : decode cX13_pointsByText 79 = .ok (.iconst 1, 1) := zo_4 (zi_at zh_dX13_pointsByText_64_64 15 rfl)
theorem dX13_pointsByText_80 : decode cX13_pointsByText 80 = .ok (.goto 4, 3) := zo_167 (zi_at zh_dX13_pointsByText_80_80 0 rfl) (zi_at zh_dX13_pointsByText_80_80 1 rfl) (zi_at zh_dX13_pointsByText_80_80 2 rfl) rfl
theorem dX13_pointsByText_83 : decode cX13_pointsByText 83 = .ok (.iconst 0, 1) := zo_3 (zi_at zh_dX13_pointsByText_80_80 3 rfl)
theorem dX13_pointsByText_84 : decode cX13_pointsByText 84 = .ok (.iadd, 1) := zo_96 (zi_at zh_dX13_pointsByText_80_80 4 rfl)
theorem dX13_pointsByText_85 : decode cX13_pointsByText 85 = .ok (.istore 7, 2) := zo_54 (zi_at zh_dX13_pointsByText_80_80 5 rfl) (zi_at zh_dX13_pointsByText_80_80 6 rfl)
theorem dX13_pointsByText_87 : decode cX13_pointsByText 87 = .ok (.iinc 8 1, 3) := zo_132 (zi_at zh_dX13_pointsByText_80_80 7 rfl) (zi_at zh_dX13_pointsByText_80_80 8 rfl) (zi_at zh_dX13_pointsByText_80_80 9 rfl) rfl
theorem dX13_pointsByText_90 : decode cX13_pointsByText 90 = .ok (.goto (-54), 3) := zo_167 (zi_at zh_dX13_pointsByText_80_80 10 rfl) (zi_at zh_dX13_pointsByText_80_80 11 rfl) (zi_at zh_dX13_pointsByText_80_80 12 rfl) rfl
theorem dX13_pointsByText_93 : decode cX13_pointsByText 93 = .ok (.aload_n 0, 1) := zo_42 (zi_at zh_dX13_pointsByText_80_80 13 rfl)
theorem dX13_pointsByText_94 : decode cX13_pointsByText 94 = .ok (.invokevirtual 377, 3) := zo_182 (zi_at zh_dX13_pointsByText_80_80 14 rfl) (zi_at zh_dX13_pointsByText_80_80 15 rfl) (zi_at zh_dX13_pointsByText_94_96 0 rfl) rfl
theorem dX13_pointsByText_97 : decode cX13_pointsByText 97 = .ok (.aload_n 0, 1) := zo_42 (zi_at zh_dX13_pointsByText_94_96 1 rfl)
theorem dX13_pointsByText_98 : decode cX13_pointsByText 98 = .ok (.getfield 44, 3) := zo_180 (zi_at zh_dX13_pointsByText_94_96 2 rfl) (zi_at zh_dX13_pointsByText_94_96 3 rfl) (zi_at zh_dX13_pointsByText_94_96 4 rfl) rfl
theorem dX13_pointsByText_101 : decode cX13_pointsByText 101 = .ok (.bipush 107, 2) := zo_16 (zi_at zh_dX13_pointsByText_94_96 5 rfl) (zi_at zh_dX13_pointsByText_94_96 6 rfl) rfl
theorem dX13_pointsByText_103 : decode cX13_pointsByText 103 = .ok (.iload 4, 2) := zo_21 (zi_at zh_dX13_pointsByText_94_96 7 rfl) (zi_at zh_dX13_pointsByText_94_96 8 rfl)
theorem dX13_pointsByText_105 : decode cX13_pointsByText 105 = .ok (.iastore, 1) := zo_79 (zi_at zh_dX13_pointsByText_94_96 9 rfl)
theorem dX13_pointsByText_106 : decode cX13_pointsByText 106 = .ok (.aload_n 0, 1) := zo_42 (zi_at zh_dX13_pointsByText_94_96 10 rfl)
theorem dX13_pointsByText_107 : decode cX13_pointsByText 107 = .ok (.getfield 44, 3) := zo_180 (zi_at zh_dX13_pointsByText_94_96 11 rfl) (zi_at zh_dX13_pointsByText_94_96 12 rfl) (zi_at zh_dX13_pointsByText_94_96 13 rfl) rfl
theorem dX13_pointsByText_110 : decode cX13_pointsByText 110 = .ok (.bipush 114, 2) := zo_16 (zi_at zh_dX13_pointsByText_94_96 14 rfl) (zi_at zh_dX13_pointsByText_94_96 15 rfl) rfl
theorem dX13_pointsByText_112 : decode cX13_pointsByText 112 = .ok (.iload 5, 2) := zo_21 (zi_at zh_dX13_pointsByText_112_112 0 rfl) (zi_at zh_dX13_pointsByText_112_112 1 rfl)
theorem dX13_pointsByText_114 : decode cX13_pointsByText 114 = .ok (.iastore, 1) := zo_79 (zi_at zh_dX13_pointsByText_112_112 2 rfl)
theorem dX13_pointsByText_115 : decode cX13_pointsByText 115 = .ok (.aload_n 0, 1) := zo_42 (zi_at zh_dX13_pointsByText_112_112 3 rfl)
theorem dX13_pointsByText_116 : decode cX13_pointsByText 116 = .ok (.getfield 44, 3) := zo_180 (zi_at zh_dX13_pointsByText_112_112 4 rfl) (zi_at zh_dX13_pointsByText_112_112 5 rfl) (zi_at zh_dX13_pointsByText_112_112 6 rfl) rfl
theorem dX13_pointsByText_119 : decode cX13_pointsByText 119 = .ok (.bipush 101, 2) := zo_16 (zi_at zh_dX13_pointsByText_112_112 7 rfl) (zi_at zh_dX13_pointsByText_112_112 8 rfl) rfl
theorem dX13_pointsByText_121 : decode cX13_pointsByText 121 = .ok (.iload 6, 2) := zo_21 (zi_at zh_dX13_pointsByText_112_112 9 rfl) (zi_at zh_dX13_pointsByText_112_112 10 rfl)
theorem dX13_pointsByText_123 : decode cX13_pointsByText 123 = .ok (.iastore, 1) := zo_79 (zi_at zh_dX13_pointsByText_112_112 11 rfl)
theorem dX13_pointsByText_124 : decode cX13_pointsByText 124 = .ok (.aload_n 0, 1) := zo_42 (zi_at zh_dX13_pointsByText_112_112 12 rfl)
theorem dX13_pointsByText_125 : decode cX13_pointsByText 125 = .ok (.getfield 44, 3) := zo_180 (zi_at zh_dX13_pointsByText_112_112 13 rfl) (zi_at zh_dX13_pointsByText_112_112 14 rfl) (zi_at zh_dX13_pointsByText_112_112 15 rfl) rfl
theorem dX13_pointsByText_128 : decode cX13_pointsByText 128 = .ok (.bipush 102, 2) := zo_16 (zi_at zh_dX13_pointsByText_128_128 0 rfl) (zi_at zh_dX13_pointsByText_128_128 1 rfl) rfl
theorem dX13_pointsByText_130 : decode cX13_pointsByText 130 = .ok (.iload 7, 2) := zo_21 (zi_at zh_dX13_pointsByText_128_128 2 rfl) (zi_at zh_dX13_pointsByText_128_128 3 rfl)
theorem dX13_pointsByText_132 : decode cX13_pointsByText 132 = .ok (.iastore, 1) := zo_79 (zi_at zh_dX13_pointsByText_128_128 4 rfl)
theorem dX13_pointsByText_133 : decode cX13_pointsByText 133 = .ok (.iconst 0, 1) := zo_3 (zi_at zh_dX13_pointsByText_128_128 5 rfl)
theorem dX13_pointsByText_134 : decode cX13_pointsByText 134 = .ok (.sipush 10000, 3) := zo_17 (zi_at zh_dX13_pointsByText_128_128 6 rfl) (zi_at zh_dX13_pointsByText_128_128 7 rfl) (zi_at zh_dX13_pointsByText_128_128 8 rfl) rfl
theorem dX13_pointsByText_137 : decode cX13_pointsByText 137 = .ok (.aload_n 0, 1) := zo_42 (zi_at zh_dX13_pointsByText_128_128 9 rfl)
theorem dX13_pointsByText_138 : decode cX13_pointsByText 138 = .ok (.bipush 112, 2) := zo_16 (zi_at zh_dX13_pointsByText_128_128 10 rfl) (zi_at zh_dX13_pointsByText_128_128 11 rfl) rfl
theorem dX13_pointsByText_140 : decode cX13_pointsByText 140 = .ok (.aload_n 0, 1) := zo_42 (zi_at zh_dX13_pointsByText_128_128 12 rfl)
theorem dX13_pointsByText_141 : decode cX13_pointsByText 141 = .ok (.getfield 50, 3) := zo_180 (zi_at zh_dX13_pointsByText_128_128 13 rfl) (zi_at zh_dX13_pointsByText_128_128 14 rfl) (zi_at zh_dX13_pointsByText_128_128 15 rfl) rfl
theorem dX13_pointsByText_144 : decode cX13_pointsByText 144 = .ok (.iload_n 1, 1) := zo_27 (zi_at zh_dX13_pointsByText_144_144 0 rfl)
theorem dX13_pointsByText_145 : decode cX13_pointsByText 145 = .ok (.iaload, 1) := zo_46 (zi_at zh_dX13_pointsByText_144_144 1 rfl)
theorem dX13_pointsByText_146 : decode cX13_pointsByText 146 = .ok (.iload_n 3, 1) := zo_29 (zi_at zh_dX13_pointsByText_144_144 2 rfl)
theorem dX13_pointsByText_147 : decode cX13_pointsByText 147 = .ok (.invokevirtual 380, 3) := zo_182 (zi_at zh_dX13_pointsByText_144_144 3 rfl) (zi_at zh_dX13_pointsByText_144_144 4 rfl) (zi_at zh_dX13_pointsByText_144_144 5 rfl) rfl
theorem dX13_pointsByText_150 : decode cX13_pointsByText 150 = .ok (.invokestatic 383, 3) := zo_184 (zi_at zh_dX13_pointsByText_144_144 6 rfl) (zi_at zh_dX13_pointsByText_144_144 7 rfl) (zi_at zh_dX13_pointsByText_144_144 8 rfl) rfl
theorem dX13_pointsByText_153 : decode cX13_pointsByText 153 = .ok (.invokestatic 385, 3) := zo_184 (zi_at zh_dX13_pointsByText_144_144 9 rfl) (zi_at zh_dX13_pointsByText_144_144 10 rfl) (zi_at zh_dX13_pointsByText_144_144 11 rfl) rfl
theorem dX13_pointsByText_156 : decode cX13_pointsByText 156 = .ok (.ireturn, 1) := zo_172 (zi_at zh_dX13_pointsByText_144_144 12 rfl)
theorem dX13_pointsOf_0 : decode cX13_pointsOf 0 = .ok (.aload_n 0, 1) := zo_42 (zi_at zh_dX13_pointsOf_0_0 0 rfl)
theorem dX13_pointsOf_1 : decode cX13_pointsOf 1 = .ok (.iload_n 1, 1) := zo_27 (zi_at zh_dX13_pointsOf_0_0 1 rfl)
theorem dX13_pointsOf_2 : decode cX13_pointsOf 2 = .ok (.iload_n 2, 1) := zo_28 (zi_at zh_dX13_pointsOf_0_0 2 rfl)
theorem dX13_pointsOf_3 : decode cX13_pointsOf 3 = .ok (.iload_n 3, 1) := zo_29 (zi_at zh_dX13_pointsOf_0_0 3 rfl)
theorem dX13_pointsOf_4 : decode cX13_pointsOf 4 = .ok (.invokevirtual 438, 3) := zo_182 (zi_at zh_dX13_pointsOf_0_0 4 rfl) (zi_at zh_dX13_pointsOf_0_0 5 rfl) (zi_at zh_dX13_pointsOf_0_0 6 rfl) rfl
theorem dX13_pointsOf_7 : decode cX13_pointsOf 7 = .ok (.ifCond .ne 11, 3) := zo_154 (zi_at zh_dX13_pointsOf_0_0 7 rfl) (zi_at zh_dX13_pointsOf_0_0 8 rfl) (zi_at zh_dX13_pointsOf_0_0 9 rfl) rfl
theorem dX13_pointsOf_10 : decode cX13_pointsOf 10 = .ok (.aload_n 0, 1) := zo_42 (zi_at zh_dX13_pointsOf_0_0 10 rfl)
theorem dX13_pointsOf_11 : decode cX13_pointsOf 11 = .ok (.iload_n 1, 1) := zo_27 (zi_at zh_dX13_pointsOf_0_0 11 rfl)
theorem dX13_pointsOf_12 : decode cX13_pointsOf 12 = .ok (.iload_n 2, 1) := zo_28 (zi_at zh_dX13_pointsOf_0_0 12 rfl)
theorem dX13_pointsOf_13 : decode cX13_pointsOf 13 = .ok (.iload_n 3, 1) := zo_29 (zi_at zh_dX13_pointsOf_0_0 13 rfl)
theorem dX13_pointsOf_14 : decode cX13_pointsOf 14 = .ok (.invokevirtual 441, 3) := zo_182 (zi_at zh_dX13_pointsOf_0_0 14 rfl) (zi_at zh_dX13_pointsOf_0_0 15 rfl) (zi_at zh_dX13_pointsOf_14_16 0 rfl) rfl
theorem dX13_pointsOf_17 : decode cX13_pointsOf 17 = .ok (.ireturn, 1) := zo_172 (zi_at zh_dX13_pointsOf_14_16 1 rfl)
theorem dX13_pointsOf_18 : decode cX13_pointsOf 18 = .ok (.iconst 0, 1) := zo_3 (zi_at zh_dX13_pointsOf_14_16 2 rfl)
theorem dX13_pointsOf_19 : decode cX13_pointsOf 19 = .ok (.istore 4, 2) := zo_54 (zi_at zh_dX13_pointsOf_14_16 3 rfl) (zi_at zh_dX13_pointsOf_14_16 4 rfl)
theorem dX13_pointsOf_21 : decode cX13_pointsOf 21 = .ok (.iconst 0, 1) := zo_3 (zi_at zh_dX13_pointsOf_14_16 5 rfl)
theorem dX13_pointsOf_22 : decode cX13_pointsOf 22 = .ok (.istore 5, 2) := zo_54 (zi_at zh_dX13_pointsOf_14_16 6 rfl) (zi_at zh_dX13_pointsOf_14_16 7 rfl)
theorem dX13_pointsOf_24 : decode cX13_pointsOf 24 = .ok (.iconst 0, 1) := zo_3 (zi_at zh_dX13_pointsOf_14_16 8 rfl)
theorem dX13_pointsOf_25 : decode cX13_pointsOf 25 = .ok (.istore 6, 2) := zo_54 (zi_at zh_dX13_pointsOf_14_16 9 rfl) (zi_at zh_dX13_pointsOf_14_16 10 rfl)
theorem dX13_pointsOf_27 : decode cX13_pointsOf 27 = .ok (.iload 6, 2) := zo_21 (zi_at zh_dX13_pointsOf_14_16 11 rfl) (zi_at zh_dX13_pointsOf_14_16 12 rfl)
theorem dX13_pointsOf_29 : decode cX13_pointsOf 29 = .ok (.aload_n 0, 1) := zo_42 (zi_at zh_dX13_pointsOf_14_16 13 rfl)
theorem dX13_pointsOf_30 : decode cX13_pointsOf 30 = .ok (.getfield 390, 3) := zo_180 (zi_at zh_dX13_pointsOf_14_16 14 rfl) (zi_at zh_dX13_pointsOf_14_16 15 rfl) (zi_at zh_dX13_pointsOf_30_32 0 rfl) rfl
theorem dX13_pointsOf_33 : decode cX13_pointsOf 33 = .ok (.if_icmp .ge 56, 3) := zo_162 (zi_at zh_dX13_pointsOf_30_32 1 rfl) (zi_at zh_dX13_pointsOf_30_32 2 rfl) (zi_at zh_dX13_pointsOf_30_32 3 rfl) rfl
theorem dX13_pointsOf_36 : decode cX13_pointsOf 36 = .ok (.iload 6, 2) := zo_21 (zi_at zh_dX13_pointsOf_30_32 4 rfl) (zi_at zh_dX13_pointsOf_30_32 5 rfl)
theorem dX13_pointsOf_38 : decode cX13_pointsOf 38 = .ok (.iload_n 1, 1) := zo_27 (zi_at zh_dX13_pointsOf_30_32 6 rfl)
theorem dX13_pointsOf_39 : decode cX13_pointsOf 39 = .ok (.if_icmp .eq 44, 3) := zo_159 (zi_at zh_dX13_pointsOf_30_32 7 rfl) (zi_at zh_dX13_pointsOf_30_32 8 rfl) (zi_at zh_dX13_pointsOf_30_32 9 rfl) rfl
theorem dX13_pointsOf_42 : decode cX13_pointsOf 42 = .ok (.aload_n 0, 1) := zo_42 (zi_at zh_dX13_pointsOf_30_32 10 rfl)
theorem dX13_pointsOf_43 : decode cX13_pointsOf 43 = .ok (.getfield 71, 3) := zo_180 (zi_at zh_dX13_pointsOf_30_32 11 rfl) (zi_at zh_dX13_pointsOf_30_32 12 rfl) (zi_at zh_dX13_pointsOf_30_32 13 rfl) rfl
theorem dX13_pointsOf_46 : decode cX13_pointsOf 46 = .ok (.iload 6, 2) := zo_21 (zi_at zh_dX13_pointsOf_30_32 14 rfl) (zi_at zh_dX13_pointsOf_30_32 15 rfl)
theorem dX13_pointsOf_48 : decode cX13_pointsOf 48 = .ok (.iaload, 1) := zo_46 (zi_at zh_dX13_pointsOf_48_48 0 rfl)
theorem dX13_pointsOf_49 : decode cX13_pointsOf 49 = .ok (.iload_n 3, 1) := zo_29 (zi_at zh_dX13_pointsOf_48_48 1 rfl)
theorem dX13_pointsOf_50 : decode cX13_pointsOf 50 = .ok (.if_icmp .gt 33, 3) := zo_163 (zi_at zh_dX13_pointsOf_48_48 2 rfl) (zi_at zh_dX13_pointsOf_48_48 3 rfl) (zi_at zh_dX13_pointsOf_48_48 4 rfl) rfl
theorem dX13_pointsOf_53 : decode cX13_pointsOf 53 = .ok (.aload_n 0, 1) := zo_42 (zi_at zh_dX13_pointsOf_48_48 5 rfl)
theorem dX13_pointsOf_54 : decode cX13_pointsOf 54 = .ok (.iload 6, 2) := zo_21 (zi_at zh_dX13_pointsOf_48_48 6 rfl) (zi_at zh_dX13_pointsOf_48_48 7 rfl)
theorem dX13_pointsOf_56 : decode cX13_pointsOf 56 = .ok (.iload_n 2, 1) := zo_28 (zi_at zh_dX13_pointsOf_48_48 8 rfl)
theorem dX13_pointsOf_57 : decode cX13_pointsOf 57 = .ok (.iload_n 3, 1) := zo_29 (zi_at zh_dX13_pointsOf_48_48 9 rfl)
theorem dX13_pointsOf_58 : decode cX13_pointsOf 58 = .ok (.invokevirtual 438, 3) := zo_182 (zi_at zh_dX13_pointsOf_48_48 10 rfl) (zi_at zh_dX13_pointsOf_48_48 11 rfl) (zi_at zh_dX13_pointsOf_48_48 12 rfl) rfl
theorem dX13_pointsOf_61 : decode cX13_pointsOf 61 = .ok (.ifCond .eq 6, 3) := zo_153 (zi_at zh_dX13_pointsOf_48_48 13 rfl) (zi_at zh_dX13_pointsOf_48_48 14 rfl) (zi_at zh_dX13_pointsOf_48_48 15 rfl) rfl
theorem dX13_pointsOf_64 : decode cX13_pointsOf 64 = .ok (.goto 19, 3) := zo_167 (zi_at zh_dX13_pointsOf_64_64 0 rfl) (zi_at zh_dX13_pointsOf_64_64 1 rfl) (zi_at zh_dX13_pointsOf_64_64 2 rfl) rfl
theorem dX13_pointsOf_67 : decode cX13_pointsOf 67 = .ok (.iload 4, 2) := zo_21 (zi_at zh_dX13_pointsOf_64_64 3 rfl) (zi_at zh_dX13_pointsOf_64_64 4 rfl)
theorem dX13_pointsOf_69 : decode cX13_pointsOf 69 = .ok (.aload_n 0, 1) := zo_42 (zi_at zh_dX13_pointsOf_64_64 5 rfl)
theorem dX13_pointsOf_70 : decode cX13_pointsOf 70 = .ok (.iload 6, 2) := zo_21 (zi_at zh_dX13_pointsOf_64_64 6 rfl) (zi_at zh_dX13_pointsOf_64_64 7 rfl)
theorem dX13_pointsOf_72 : decode cX13_pointsOf 72 = .ok (.iload_n 2, 1) := zo_28 (zi_at zh_dX13_pointsOf_64_64 8 rfl)
theorem dX13_pointsOf_73 : decode cX13_pointsOf 73 = .ok (.iload_n 3, 1) := zo_29 (zi_at zh_dX13_pointsOf_64_64 9 rfl)
theorem dX13_pointsOf_74 : decode cX13_pointsOf 74 = .ok (.invokevirtual 441, 3) := zo_182 (zi_at zh_dX13_pointsOf_64_64 10 rfl) (zi_at zh_dX13_pointsOf_64_64 11 rfl) (zi_at zh_dX13_pointsOf_64_64 12 rfl) rfl
theorem dX13_pointsOf_77 : decode cX13_pointsOf 77 = .ok (.iadd, 1) := zo_96 (zi_at zh_dX13_pointsOf_64_64 13 rfl)
theorem dX13_pointsOf_78 : decode cX13_pointsOf 78 = .ok (.istore 4, 2) := zo_54 (zi_at zh_dX13_pointsOf_64_64 14 rfl) (zi_at zh_dX13_pointsOf_64_64 15 rfl)
theorem dX13_pointsOf_80 : decode cX13_pointsOf 80 = .ok (.iinc 5 1, 3) := zo_132 (zi_at zh_dX13_pointsOf_80_80 0 rfl) (zi_at zh_dX13_pointsOf_80_80 1 rfl) (zi_at zh_dX13_pointsOf_80_80 2 rfl) rfl
theorem dX13_pointsOf_83 : decode cX13_pointsOf 83 = .ok (.iinc 6 1, 3) := zo_132 (zi_at zh_dX13_pointsOf_80_80 3 rfl) (zi_at zh_dX13_pointsOf_80_80 4 rfl) (zi_at zh_dX13_pointsOf_80_80 5 rfl) rfl
theorem dX13_pointsOf_86 : decode cX13_pointsOf 86 = .ok (.goto (-59), 3) := zo_167 (zi_at zh_dX13_pointsOf_80_80 6 rfl) (zi_at zh_dX13_pointsOf_80_80 7 rfl) (zi_at zh_dX13_pointsOf_80_80 8 rfl) rfl
theorem dX13_pointsOf_89 : decode cX13_pointsOf 89 = .ok (.iload 5, 2) := zo_21 (zi_at zh_dX13_pointsOf_80_80 9 rfl) (zi_at zh_dX13_pointsOf_80_80 10 rfl)
theorem dX13_pointsOf_91 : decode cX13_pointsOf 91 = .ok (.ifCond .ne 7, 3) := zo_154 (zi_at zh_dX13_pointsOf_80_80 11 rfl) (zi_at zh_dX13_pointsOf_80_80 12 rfl) (zi_at zh_dX13_pointsOf_80_80 13 rfl) rfl
theorem dX13_pointsOf_94 : decode cX13_pointsOf 94 = .ok (.iconst 0, 1) := zo_3 (zi_at zh_dX13_pointsOf_80_80 14 rfl)
theorem dX13_pointsOf_95 : decode cX13_pointsOf 95 = .ok (.goto 8, 3) := zo_167 (zi_at zh_dX13_pointsOf_80_80 15 rfl) (zi_at zh_dX13_pointsOf_95_96 0 rfl) (zi_at zh_dX13_pointsOf_95_96 1 rfl) rfl
theorem dX13_pointsOf_98 : decode cX13_pointsOf 98 = .ok (.iload 4, 2) := zo_21 (zi_at zh_dX13_pointsOf_95_96 2 rfl) (zi_at zh_dX13_pointsOf_95_96 3 rfl)
theorem dX13_pointsOf_100 : decode cX13_pointsOf 100 = .ok (.iload 5, 2) := zo_21 (zi_at zh_dX13_pointsOf_95_96 4 rfl) (zi_at zh_dX13_pointsOf_95_96 5 rfl)
theorem dX13_pointsOf_102 : decode cX13_pointsOf 102 = .ok (.idiv, 1) := zo_108 (zi_at zh_dX13_pointsOf_95_96 6 rfl)
theorem dX13_pointsOf_103 : decode cX13_pointsOf 103 = .ok (.ireturn, 1) := zo_172 (zi_at zh_dX13_pointsOf_95_96 7 rfl)
theorem hz_yX13_rulesOn_2 : yX13_rulesOn.cls ≠ "java/lang/invoke/MethodHandle" ∧ yX13_rulesOn.cls ≠ "java/lang/invoke/VarHandle" ∧ (parseMethodDescriptor yX13_rulesOn.desc).map (fun d => d.parameters.length) = some 2 := by decide +kernel
theorem hz_yX13_goThrough_4 : yX13_goThrough.cls ≠ "java/lang/invoke/MethodHandle" ∧ yX13_goThrough.cls ≠ "java/lang/invoke/VarHandle" ∧ (parseMethodDescriptor yX13_goThrough.desc).map (fun d => d.parameters.length) = some 4 := by decide +kernel
theorem hz_yX13_certOn_3 : yX13_certOn.cls ≠ "java/lang/invoke/MethodHandle" ∧ yX13_certOn.cls ≠ "java/lang/invoke/VarHandle" ∧ (parseMethodDescriptor yX13_certOn.desc).map (fun d => d.parameters.length) = some 3 := by decide +kernel
theorem hz_yX13_clear_0 : yX13_clear.cls ≠ "java/lang/invoke/MethodHandle" ∧ yX13_clear.cls ≠ "java/lang/invoke/VarHandle" ∧ (parseMethodDescriptor yX13_clear.desc).map (fun d => d.parameters.length) = some 0 := by decide +kernel
theorem hz_yX13_worth_3 : yX13_worth.cls ≠ "java/lang/invoke/MethodHandle" ∧ yX13_worth.cls ≠ "java/lang/invoke/VarHandle" ∧ (parseMethodDescriptor yX13_worth.desc).map (fun d => d.parameters.length) = some 3 := by decide +kernel
theorem hz_yX13_secondsOf_3 : yX13_secondsOf.cls ≠ "java/lang/invoke/MethodHandle" ∧ yX13_secondsOf.cls ≠ "java/lang/invoke/VarHandle" ∧ (parseMethodDescriptor yX13_secondsOf.desc).map (fun d => d.parameters.length) = some 3 := by decide +kernel
theorem hz_yX13_numberOf_3 : yX13_numberOf.cls ≠ "java/lang/invoke/MethodHandle" ∧ yX13_numberOf.cls ≠ "java/lang/invoke/VarHandle" ∧ (parseMethodDescriptor yX13_numberOf.desc).map (fun d => d.parameters.length) = some 3 := by decide +kernel
theorem hz_yX13_correct_3 : yX13_correct.cls ≠ "java/lang/invoke/MethodHandle" ∧ yX13_correct.cls ≠ "java/lang/invoke/VarHandle" ∧ (parseMethodDescriptor yX13_correct.desc).map (fun d => d.parameters.length) = some 3 := by decide +kernel
theorem hz_yX13_correctedOf_3 : yX13_correctedOf.cls ≠ "java/lang/invoke/MethodHandle" ∧ yX13_correctedOf.cls ≠ "java/lang/invoke/VarHandle" ∧ (parseMethodDescriptor yX13_correctedOf.desc).map (fun d => d.parameters.length) = some 3 := by decide +kernel
theorem hz_yX13_codeOf_3 : yX13_codeOf.cls ≠ "java/lang/invoke/MethodHandle" ∧ yX13_codeOf.cls ≠ "java/lang/invoke/VarHandle" ∧ (parseMethodDescriptor yX13_codeOf.desc).map (fun d => d.parameters.length) = some 3 := by decide +kernel
theorem hz_yX13_placeOf_3 : yX13_placeOf.cls ≠ "java/lang/invoke/MethodHandle" ∧ yX13_placeOf.cls ≠ "java/lang/invoke/VarHandle" ∧ (parseMethodDescriptor yX13_placeOf.desc).map (fun d => d.parameters.length) = some 3 := by decide +kernel
theorem hz_yX13_hasRedress_3 : yX13_hasRedress.cls ≠ "java/lang/invoke/MethodHandle" ∧ yX13_hasRedress.cls ≠ "java/lang/invoke/VarHandle" ∧ (parseMethodDescriptor yX13_hasRedress.desc).map (fun d => d.parameters.length) = some 3 := by decide +kernel
theorem hz_yX13_pointsByText_3 : yX13_pointsByText.cls ≠ "java/lang/invoke/MethodHandle" ∧ yX13_pointsByText.cls ≠ "java/lang/invoke/VarHandle" ∧ (parseMethodDescriptor yX13_pointsByText.desc).map (fun d => d.parameters.length) = some 3 := by decide +kernel
def v_worth : List Cond := .code yX13_worth cX13_worth 5 (some .int) :: vA
abbrev rm_worth : Room := { frames := 70, cells := 0, slots := 0, locals := 2800 }
def w_worth : Nat → Nat → Bool := wl [] [(0, 18), (0, 19), (0, 20), (0, 21), (0, 22), (0, 23), (0, 24), (0, 25), (0, 26)]
set_option maxHeartbeats 4000000 in
set_option maxRecDepth 100000 in
theorem q_worth (l : Launch) (dC : Nat → ClassId) (dI : Nat → Nat → Nat) (cT : Nat → ClassId) (ad : Nat → Nat) (E : Nat → va_E) (sz : Nat) (a0 : Int32) (a1 : Int32) (a2 : Int32) (hI0 : IX cT shM spM 72 ad E) (hh0 : 0 ≤ a0.toInt ∧ a0.toInt ≤ 127) : Met l yX13_worth v_worth rm_worth (va_Pc [.ref (ad 0), .int a0, .int a1, .int a2] (HW dC dI (TYM cT) 72 ad E sz)) (va_Qi (S := Nat → va_E) (fun r u => IX cT shM spM 72 ad u ∧ Kp w_worth E u ∧ (True)) (HB dC dI 72 ad) (va_A (WX 72 ad E) sz)) 0 0 (va_A (WX 72 ad E) sz) := by
  refine Met.ofW (cc := cX13_worth) (maxL := 5) (ret := (some .int)) (by decide) rfl ?_
  intro p e s m args below meth c s₁ B hml hv
  obtain ⟨hargs, hsz, hP, hK, hD0, hEV⟩ := hv
  subst hsz
  have hx := B.exec
  have hb := B.bytes
  have hr := B.returns
  have hts := atoms_spec (ws := v_worth) B.pre
  have hown : s.vm.findClass RX13 = some m.cls := findClass_of_methodNamed B.named
  have hlocks := B.notSynchronized
  have hinX13 : ∀ w ∈ u_ws RX13 TX13 97, w ∈ v_worth := fun w h => vA_in _ w (in_X13 w h)
  generalize hAe : va_A (WX 72 ad E) s.heap.size = A at hEV ⊢
  have hA : ∀ q : Nat, s.heap.size ≤ q → A q := fun q h => by rw [← hAe]; exact Or.inr h
  have hD : va_D A (WX 72 ad E) := by rw [← hAe]; exact hD0.self
  have hS : va_S A s.heap s.heap [] := va_S.rf
  have hI := hI0
  have hKp : Kp w_worth E E := Kp.rf
  have hl := lv_entry ([.ref (ad 0), .int a0, .int a1, .int a2]) (n := 5) (Nat.le_of_ble_eq_true rfl)
  obtain ⟨Q, hQ⟩ : ∃ Q, Q = MQ below (va_Qi (S := Nat → va_E) (fun r u => IX cT shM spM 72 ad u ∧ Kp w_worth E u ∧ (True)) (HB dC dI 72 ad) (A)) args s 0 0 (A) := ⟨_, rfl⟩
  rw [← hQ, show entryFrame m args 5 = _ from (congrArg (fun z => entryFrame m z 5) hargs).trans (lg_entry_eq _ _ _)]
  generalize (lg_sl ([.ref (ad 0), .int a0, .int a1, .int a2]) ++ List.replicate (5 - (lg_sl ([.ref (ad 0), .int a0, .int a1, .int a2])).length) Slot.unset).toArray = ls at hl ⊢
  have hl : lv_has ls 5 [(0, .ref (ad 0)), (1, .int a0), (2, .int a1), (3, .int a2)] := hl
  refine lv_aload_n hx hb dX13_worth_0 rfl (lv_at hl 0 rfl) ?_
  refine lv_iload_n hx hb dX13_worth_1 rfl (lv_at hl 2 rfl) ?_
  refine lv_iload_n hx hb dX13_worth_2 rfl (lv_at hl 3 rfl) ?_
  refine th_ri (va_runV (As := [.int a1, .int a2]) (rest := []) ⟨hx, hb, hml, hown, hts⟩ (q_rulesOn l dC dI cT ad E s.heap.size a1 a2 hI) (cwV 2 hts (gi_V (in_29 _ (zs1 (zs0))) (in_29 _ (zs1 (zs1 (zs0)))) (in_29 _ (zs1 (zs1 (zs1 (zs0))))) (in_24 _ (zs4 (zs4 (zs4 (zs1 (zs1 (zs1 (zs0)))))))) (in_29 _ (zs4 (zs0)))) rfl rfl rfl ⟨rfl, hz_yX13_rulesOn_2⟩ ⟨Nat.le_of_ble_eq_true rfl, Nat.le_of_ble_eq_true rfl⟩) ⟨HW_bl, va_recv hK hP (ci := 14) (q0 := 0) rfl (hI.ob 0 (Nat.le_of_ble_eq_true rfl) rfl), (HW_wi hP hK (WX_D hD) hS hA hEV)⟩ rfl rfl hl.1 rfl (lv_room (Nat.le_of_ble_eq_true rfl)) dX13_worth_3 ⟨Nat.le_of_ble_eq_true rfl, Nat.le_of_ble_eq_true rfl⟩) hS hP (fun r1 H locs hw hP hS => ?_)
  have f2 := hw
  refine lv_istore (lv' := [(4, .int r1), (0, .ref (ad 0)), (1, .int a0), (2, .int a1), (3, .int a2)]) hx hb dX13_worth_6 hl (by decide) rfl (fun ls hl => ?_)
  refine lv_iload hx hb dX13_worth_8 (lv_at hl 0 rfl) ?_
  refine lv_iconst (v := -1) hx hb dX13_worth_10 (by decide) ?_
  refine lv_icmp_ne (tgt := 28) hx hb dX13_worth_11 (by decide) (fun c3 => ?_) (fun c3 => ?_)
  · --11 taken
    have t4 : ¬ r1.toInt = -1 := ti_ne c3
    have i5 : 0 ≤ r1.toInt ∧ r1.toInt ≤ 15 := iv_ne_l t4 f2 (il_ (-1))
    refine lv_aload_n hx hb dX13_worth_28 rfl (lv_at hl 1 rfl) ?_
    refine lv_aload_n hx hb dX13_worth_29 rfl (lv_at hl 1 rfl) ?_
    refine th_get (ci := 14) (C := RX13) (T := TX13) (N := 97) (v := .ref (ad 8)) hx hb hts hinX13 hown hK hP hI 0 (Nat.le_of_ble_eq_true rfl) rfl rfl 11 (Nat.le_of_ble_eq_true rfl) (hts _ (vA_in _ _ (in_28 _ (zs16 (zs16 (zs4 (zs1 (zs1 (zs0))))))))) (fun _ h9 => h9) (hI.fr 0 (Nat.le_of_ble_eq_true rfl) rfl (Nat.le_of_ble_eq_true rfl) 8 rfl) dX13_worth_30 ?_
    refine lv_sipush (v := 200) hx hb dX13_worth_33 (by decide) ?_
    refine lv_iload hx hb dX13_worth_36 (lv_at hl 0 rfl) ?_
    refine lv_imul hx hb dX13_worth_38 ?_
    refine lv_topi (fun y6 ey6 => ?_)
    obtain ⟨ty6, iy6⟩ := ti_mul (e := 0) (f := 3000) ln_200 i5 ey6 (by decide)
    have ty6 : y6.toInt = 200 * r1.toInt := ty6
    have iy6 : 0 ≤ y6.toInt ∧ y6.toInt ≤ 3000 := iy6
    refine lv_aload_n hx hb dX13_worth_39 rfl (lv_at hl 1 rfl) ?_
    refine th_get (ci := 14) (C := RX13) (T := TX13) (N := 97) (v := .ref (ad 9)) hx hb hts hinX13 hown hK hP hI 0 (Nat.le_of_ble_eq_true rfl) rfl rfl 12 (Nat.le_of_ble_eq_true rfl) (hts _ (vA_in _ _ (in_28 _ (zs16 (zs16 (zs4 (zs1 (zs1 (zs1 (zs0)))))))))) (fun _ h9 => h9) (hI.fr 0 (Nat.le_of_ble_eq_true rfl) rfl (Nat.le_of_ble_eq_true rfl) 9 rfl) dX13_worth_40 ?_
    refine lv_iload hx hb dX13_worth_43 (lv_at hl 0 rfl) ?_
    have n8 : vp_in r1 16 := (iv_in (n := 16) i5 (by decide))
    refine th_iald hx hb hK hP hI 9 (Nat.le_of_ble_eq_true rfl) rfl rfl n8 dX13_worth_45 (fun y7 ey7 => ?_)
    have iy7 : 0 ≤ y7.toInt ∧ y7.toInt ≤ 200 := hI.el 9 (Nat.le_of_ble_eq_true rfl) rfl n8 (fun _ => rfl) ey7
    have ey7 := ey7.trans (hKp.ei 9 _ rfl)
    refine lv_iload_n hx hb dX13_worth_46 rfl (lv_at hl 2 rfl) ?_
    refine th_v (va_runV (As := [.ref (ad 8), .int y6, .int y7, .int a0]) (rest := []) ⟨hx, hb, hml, hown, hts⟩ (q_goThroughR l dC dI cT ad E H.size y6 y7 a0 hI iy6 iy7 hh0) (cwV 4 hts (gi_V (in_29 _ (zs4 (zs4 (zs0)))) (in_29 _ (zs4 (zs4 (zs1 (zs0))))) (in_29 _ (zs4 (zs4 (zs1 (zs1 (zs0)))))) (in_24 _ (zs4 (zs4 (zs4 (zs1 (zs1 (zs1 (zs0)))))))) (in_29 _ (zs4 (zs4 (zs1 (zs1 (zs1 (zs0)))))))) rfl rfl rfl ⟨rfl, hz_yX13_goThrough_4⟩ ⟨Nat.le_of_ble_eq_true rfl, Nat.le_of_ble_eq_true rfl⟩) ⟨HW_bl, va_recv hK hP (ci := 14) (q0 := 0) rfl (hI.ob 0 (Nat.le_of_ble_eq_true rfl) rfl), (HW_wi hP hK (WX_D hD) hS hA hEV)⟩ rfl rfl hl.1 rfl (lv_room (Nat.le_of_ble_eq_true rfl)) dX13_worth_47 ⟨Nat.le_of_ble_eq_true rfl, Nat.le_of_ble_eq_true rfl⟩) (WX_D hD) hS hA (fun E10 H locs hw hP hS => ?_)
    obtain ⟨hI, kq11, hw⟩ := hw
    have hKb := hKp
    have hKp := hKp.tr kq11 (wl_sub rfl rfl)
    refine lv_aload_n hx hb dX13_worth_50 rfl (lv_at hl 1 rfl) ?_
    obtain ⟨y12, ey12⟩ : ∃ y, xi (E10 0) 25 = y := ⟨_, rfl⟩
    have fy12 : xv (E10 0) 25 = .int y12 := (hI.fi 0 (Nat.le_of_ble_eq_true rfl) rfl (Nat.le_of_ble_eq_true rfl) rfl).trans (congrArg Value.int ey12)
    refine th_get (ci := 14) (C := RX13) (T := TX13) (N := 97) (v := .int y12) hx hb hts hinX13 hown hK hP hI 0 (Nat.le_of_ble_eq_true rfl) rfl rfl 25 (Nat.le_of_ble_eq_true rfl) (hts _ (vA_in _ _ (in_29 _ zs0))) (fun _ h9 => h9) fy12 dX13_worth_51 ?_
    rw [hQ]
    exact W.iret (v := y12) hx hb hr (fun t ht hW => ⟨⟨y12, E10, rfl, ⟨hI, hKp, trivial⟩, by show va_P (dC, dI) vwCl (WX 72 ad E10) t.heap; rw [ht]; exact hP⟩, hS.F ht⟩) hS.2.2 dX13_worth_54
  · --11 not
    have t13 : r1.toInt = -1 := ti_eq c3
    have i14 : -1 ≤ r1.toInt ∧ r1.toInt ≤ -1 := iv_eqi t13 f2 (il_ (-1)) (by decide)
    refine lv_iload_n hx hb dX13_worth_14 rfl (lv_at hl 2 rfl) ?_
    refine lv_bipush (v := 110) hx hb dX13_worth_15 (by decide) ?_
    refine lv_icmp_ne (tgt := 26) hx hb dX13_worth_17 (by decide) (fun c15 => ?_) (fun c15 => ?_)
    · --17 taken
      have t16 : ¬ a0.toInt = 110 := ti_ne c15
      refine lv_iconst (v := 0) hx hb dX13_worth_26 (by decide) ?_
      rw [hQ]
      exact W.iret (v := 0) hx hb hr (fun t ht hW => ⟨⟨0, E, rfl, ⟨hI, hKp, trivial⟩, by show va_P (dC, dI) vwCl (WX 72 ad E) t.heap; rw [ht]; exact hP⟩, hS.F ht⟩) hS.2.2 dX13_worth_27
    · --17 not
      have t17 : a0.toInt = 110 := ti_eq c15
      have i18 : 110 ≤ a0.toInt ∧ a0.toInt ≤ 110 := iv_eqi t17 hh0 (il_ 110) (by decide)
      refine lv_sipush (v := 1000) hx hb dX13_worth_20 (by decide) ?_
      refine lv_goto (tgt := 27) hx hb dX13_worth_23 (by decide) ?_
      rw [hQ]
      exact W.iret (v := 1000) hx hb hr (fun t ht hW => ⟨⟨1000, E, rfl, ⟨hI, hKp, trivial⟩, by show va_P (dC, dI) vwCl (WX 72 ad E) t.heap; rw [ht]; exact hP⟩, hS.F ht⟩) hS.2.2 dX13_worth_27
def v_numberOf : List Cond := .code yX13_numberOf cX13_numberOf 5 (some .int) :: vA
abbrev rm_numberOf : Room := { frames := 71, cells := 0, slots := 0, locals := 2840 }
def w_numberOf : Nat → Nat → Bool := wl [12] [(0, 18), (0, 19), (0, 20), (0, 21), (0, 22), (0, 23), (0, 24), (0, 25), (0, 26)]
set_option maxHeartbeats 4000000 in
set_option maxRecDepth 100000 in
theorem q_numberOf (l : Launch) (dC : Nat → ClassId) (dI : Nat → Nat → Nat) (cT : Nat → ClassId) (ad : Nat → Nat) (E : Nat → va_E) (sz : Nat) (a0 : Int32) (a1 : Int32) (a2 : Int32) (hI0 : IX cT shM spM 72 ad E)  : Met l yX13_numberOf v_numberOf rm_numberOf (va_Pc [.ref (ad 0), .int a0, .int a1, .int a2] (HW dC dI (TYM cT) 72 ad E sz)) (va_Qi (S := Nat → va_E) (fun r u => IX cT shM spM 72 ad u ∧ Kp w_numberOf E u ∧ ((500 ≤ r.toInt ∧ r.toInt ≤ 2000))) (HB dC dI 72 ad) (va_A (WX 72 ad E) sz)) 0 0 (va_A (WX 72 ad E) sz) := by
  refine Met.ofW (cc := cX13_numberOf) (maxL := 5) (ret := (some .int)) (by decide) rfl ?_
  intro p e s m args below meth c s₁ B hml hv
  obtain ⟨hargs, hsz, hP, hK, hD0, hEV⟩ := hv
  subst hsz
  have hx := B.exec
  have hb := B.bytes
  have hr := B.returns
  have hts := atoms_spec (ws := v_numberOf) B.pre
  have hown : s.vm.findClass RX13 = some m.cls := findClass_of_methodNamed B.named
  have hlocks := B.notSynchronized
  have hinX13 : ∀ w ∈ u_ws RX13 TX13 97, w ∈ v_numberOf := fun w h => vA_in _ w (in_X13 w h)
  generalize hAe : va_A (WX 72 ad E) s.heap.size = A at hEV ⊢
  have hA : ∀ q : Nat, s.heap.size ≤ q → A q := fun q h => by rw [← hAe]; exact Or.inr h
  have hD : va_D A (WX 72 ad E) := by rw [← hAe]; exact hD0.self
  have hS : va_S A s.heap s.heap [] := va_S.rf
  have hI := hI0
  have hKp : Kp w_numberOf E E := Kp.rf
  have hl := lv_entry ([.ref (ad 0), .int a0, .int a1, .int a2]) (n := 5) (Nat.le_of_ble_eq_true rfl)
  obtain ⟨Q, hQ⟩ : ∃ Q, Q = MQ below (va_Qi (S := Nat → va_E) (fun r u => IX cT shM spM 72 ad u ∧ Kp w_numberOf E u ∧ ((500 ≤ r.toInt ∧ r.toInt ≤ 2000))) (HB dC dI 72 ad) (A)) args s 0 0 (A) := ⟨_, rfl⟩
  rw [← hQ, show entryFrame m args 5 = _ from (congrArg (fun z => entryFrame m z 5) hargs).trans (lg_entry_eq _ _ _)]
  generalize (lg_sl ([.ref (ad 0), .int a0, .int a1, .int a2]) ++ List.replicate (5 - (lg_sl ([.ref (ad 0), .int a0, .int a1, .int a2])).length) Slot.unset).toArray = ls at hl ⊢
  have hl : lv_has ls 5 [(0, .ref (ad 0)), (1, .int a0), (2, .int a1), (3, .int a2)] := hl
  refine lv_aload_n hx hb dX13_numberOf_0 rfl (lv_at hl 0 rfl) ?_
  refine lv_iload_n hx hb dX13_numberOf_1 rfl (lv_at hl 1 rfl) ?_
  refine lv_iload_n hx hb dX13_numberOf_2 rfl (lv_at hl 2 rfl) ?_
  refine lv_iload_n hx hb dX13_numberOf_3 rfl (lv_at hl 3 rfl) ?_
  refine th_ri (va_runV (As := [.int a0, .int a1, .int a2]) (rest := []) ⟨hx, hb, hml, hown, hts⟩ (q_certOn l dC dI cT ad E s.heap.size a0 a1 a2 hI) (cwV 3 hts (gi_V (in_28 _ (zs16 (zs4 (zs4 (zs1 (zs1 (zs1 (zs0)))))))) (in_28 _ (zs16 (zs4 (zs4 (zs4 (zs0)))))) (in_28 _ (zs16 (zs4 (zs4 (zs4 (zs1 (zs0))))))) (in_24 _ (zs4 (zs4 (zs4 (zs1 (zs1 (zs1 (zs0)))))))) (in_27 _ (zs4 (zs4 (zs0))))) rfl rfl rfl ⟨rfl, hz_yX13_certOn_3⟩ ⟨Nat.le_of_ble_eq_true rfl, Nat.le_of_ble_eq_true rfl⟩) ⟨HW_bl, va_recv hK hP (ci := 14) (q0 := 0) rfl (hI.ob 0 (Nat.le_of_ble_eq_true rfl) rfl), (HW_wi hP hK (WX_D hD) hS hA hEV)⟩ rfl rfl hl.1 rfl (lv_room (Nat.le_of_ble_eq_true rfl)) dX13_numberOf_4 ⟨Nat.le_of_ble_eq_true rfl, Nat.le_of_ble_eq_true rfl⟩) hS hP (fun r1 H locs hw hP hS => ?_)
  obtain ⟨f2, f3⟩ := hw
  have i4 : 0 ≤ (xi (E 0) 9).toInt ∧ (xi (E 0) 9).toInt ≤ 80 := (show 0 ≤ (xi (E 0) 9).toInt ∧ (xi (E 0) 9).toInt ≤ 80 from hI0.iv 0 (Nat.le_of_ble_eq_true rfl) rfl (Nat.le_of_ble_eq_true rfl) rfl)
  refine lv_istore (lv' := [(4, .int r1), (0, .ref (ad 0)), (1, .int a0), (2, .int a1), (3, .int a2)]) hx hb dX13_numberOf_7 hl (by decide) rfl (fun ls hl => ?_)
  refine lv_iload hx hb dX13_numberOf_9 (lv_at hl 0 rfl) ?_
  refine lv_iconst (v := -1) hx hb dX13_numberOf_11 (by decide) ?_
  refine lv_icmp_ne (tgt := 19) hx hb dX13_numberOf_12 (by decide) (fun c5 => ?_) (fun c5 => ?_)
  · --12 taken
    have t6 : ¬ r1.toInt = -1 := ti_ne c5
    have i7 : 0 ≤ r1.toInt ∧ r1.toInt ≤ 79 := iv_ne_l t6 f2 (il_ (-1))
    refine lv_aload_n hx hb dX13_numberOf_19 rfl (lv_at hl 1 rfl) ?_
    refine th_v (va_runV (As := []) (rest := []) ⟨hx, hb, hml, hown, hts⟩ (q_clear l dC dI cT ad E H.size hI) (cwV 0 hts (gi_V (in_28 _ (zs16 (zs4 (zs4 (zs4 (zs1 (zs1 (zs0)))))))) (in_28 _ (zs16 (zs4 (zs4 (zs4 (zs1 (zs1 (zs1 (zs0))))))))) (in_28 _ (zs16 (zs16 (zs0)))) (in_24 _ (zs4 (zs4 (zs4 (zs1 (zs1 (zs1 (zs0)))))))) (in_28 _ (zs16 (zs16 (zs1 (zs0)))))) rfl rfl rfl ⟨rfl, hz_yX13_clear_0⟩ ⟨Nat.le_of_ble_eq_true rfl, Nat.le_of_ble_eq_true rfl⟩) ⟨HW_bl, va_recv hK hP (ci := 14) (q0 := 0) rfl (hI.ob 0 (Nat.le_of_ble_eq_true rfl) rfl), (HW_wi hP hK (WX_D hD) hS hA hEV)⟩ rfl rfl hl.1 rfl (lv_room (Nat.le_of_ble_eq_true rfl)) dX13_numberOf_20 ⟨Nat.le_of_ble_eq_true rfl, Nat.le_of_ble_eq_true rfl⟩) (WX_D hD) hS hA (fun E9 H locs hw hP hS => ?_)
    obtain ⟨hI, kq10, hw⟩ := hw
    have hKb := hKp
    have hKp := hKp.tr kq10 (wl_sub rfl rfl)
    refine lv_aload_n hx hb dX13_numberOf_23 rfl (lv_at hl 1 rfl) ?_
    refine th_get (ci := 14) (C := RX13) (T := TX13) (N := 97) (v := .ref (ad 12)) hx hb hts hinX13 hown hK hP hI 0 (Nat.le_of_ble_eq_true rfl) rfl rfl 15 (Nat.le_of_ble_eq_true rfl) (hts _ (vA_in _ _ (in_25 _ (zs16 (zs16 (zs4 (zs1 (zs0)))))))) (fun _ h9 => h9) (hI.fr 0 (Nat.le_of_ble_eq_true rfl) rfl (Nat.le_of_ble_eq_true rfl) 12 rfl) dX13_numberOf_24 ?_
    refine lv_bipush (v := 108) hx hb dX13_numberOf_27 (by decide) ?_
    refine lv_aload_n hx hb dX13_numberOf_29 rfl (lv_at hl 1 rfl) ?_
    refine th_get (ci := 14) (C := RX13) (T := TX13) (N := 97) (v := .ref (ad 3)) hx hb hts hinX13 hown hK hP hI 0 (Nat.le_of_ble_eq_true rfl) rfl rfl 4 (Nat.le_of_ble_eq_true rfl) (hts _ (vA_in _ _ (in_27 _ (zs4 (zs4 (zs4 (zs1 (zs1 (zs0))))))))) (fun _ h9 => h9) (hI.fr 0 (Nat.le_of_ble_eq_true rfl) rfl (Nat.le_of_ble_eq_true rfl) 3 rfl) dX13_numberOf_30 ?_
    refine lv_iload hx hb dX13_numberOf_33 (lv_at hl 0 rfl) ?_
    have n12 : vp_in r1 80 := (iv_in (n := 80) i7 (by decide))
    refine th_iald hx hb hK hP hI 3 (Nat.le_of_ble_eq_true rfl) rfl rfl n12 dX13_numberOf_35 (fun y11 ey11 => ?_)
    have iy11 : 0 ≤ y11.toInt ∧ y11.toInt ≤ 400 := hI.el 3 (Nat.le_of_ble_eq_true rfl) rfl n12 (fun _ => rfl) ey11
    have ey11 := ey11.trans (hKp.ei 3 _ rfl)
    have n13 : vp_in (108 : Int32) 128 := (iv_in (n := 128) ln_108 (by decide))
    refine th_iast hx hb hK hP (WX_D hD) hS hI 12 (Nat.le_of_ble_eq_true rfl) rfl rfl n13 (okI rfl (iv_w iy11 (by decide))) dX13_numberOf_36 (fun H locs E14 pw15 hI hP hS => ?_)
    have hKp := hKp.pw pw15 rfl
    refine lv_aload_n hx hb dX13_numberOf_37 rfl (lv_at hl 1 rfl) ?_
    refine th_get (ci := 14) (C := RX13) (T := TX13) (N := 97) (v := .ref (ad 12)) hx hb hts hinX13 hown hK hP hI 0 (Nat.le_of_ble_eq_true rfl) rfl rfl 15 (Nat.le_of_ble_eq_true rfl) (hts _ (vA_in _ _ (in_25 _ (zs16 (zs16 (zs4 (zs1 (zs0)))))))) (fun _ h9 => h9) (hI.fr 0 (Nat.le_of_ble_eq_true rfl) rfl (Nat.le_of_ble_eq_true rfl) 12 rfl) dX13_numberOf_38 ?_
    refine lv_bipush (v := 115) hx hb dX13_numberOf_41 (by decide) ?_
    refine lv_aload_n hx hb dX13_numberOf_43 rfl (lv_at hl 1 rfl) ?_
    refine th_get (ci := 14) (C := RX13) (T := TX13) (N := 97) (v := .ref (ad 4)) hx hb hts hinX13 hown hK hP hI 0 (Nat.le_of_ble_eq_true rfl) rfl rfl 5 (Nat.le_of_ble_eq_true rfl) (hts _ (vA_in _ _ (in_27 _ (zs4 (zs4 (zs4 (zs1 (zs1 (zs1 (zs0)))))))))) (fun _ h9 => h9) (hI.fr 0 (Nat.le_of_ble_eq_true rfl) rfl (Nat.le_of_ble_eq_true rfl) 4 rfl) dX13_numberOf_44 ?_
    refine lv_iload hx hb dX13_numberOf_47 (lv_at hl 0 rfl) ?_
    have n17 : vp_in r1 80 := (iv_in (n := 80) i7 (by decide))
    refine th_iald hx hb hK hP hI 4 (Nat.le_of_ble_eq_true rfl) rfl rfl n17 dX13_numberOf_49 (fun y16 ey16 => ?_)
    have iy16 : 0 ≤ y16.toInt ∧ y16.toInt ≤ 4000 := hI.el 4 (Nat.le_of_ble_eq_true rfl) rfl n17 (fun _ => rfl) ey16
    have ey16 := ey16.trans (hKp.ei 4 _ rfl)
    have n18 : vp_in (115 : Int32) 128 := (iv_in (n := 128) ln_115 (by decide))
    refine th_iast hx hb hK hP (WX_D hD) hS hI 12 (Nat.le_of_ble_eq_true rfl) rfl rfl n18 (okI rfl (iv_w iy16 (by decide))) dX13_numberOf_50 (fun H locs E19 pw20 hI hP hS => ?_)
    have hKp := hKp.pw pw20 rfl
    refine lv_aload_n hx hb dX13_numberOf_51 rfl (lv_at hl 1 rfl) ?_
    refine th_get (ci := 14) (C := RX13) (T := TX13) (N := 97) (v := .ref (ad 12)) hx hb hts hinX13 hown hK hP hI 0 (Nat.le_of_ble_eq_true rfl) rfl rfl 15 (Nat.le_of_ble_eq_true rfl) (hts _ (vA_in _ _ (in_25 _ (zs16 (zs16 (zs4 (zs1 (zs0)))))))) (fun _ h9 => h9) (hI.fr 0 (Nat.le_of_ble_eq_true rfl) rfl (Nat.le_of_ble_eq_true rfl) 12 rfl) dX13_numberOf_52 ?_
    refine lv_bipush (v := 119) hx hb dX13_numberOf_55 (by decide) ?_
    refine lv_aload_n hx hb dX13_numberOf_57 rfl (lv_at hl 1 rfl) ?_
    refine th_get (ci := 14) (C := RX13) (T := TX13) (N := 97) (v := .ref (ad 5)) hx hb hts hinX13 hown hK hP hI 0 (Nat.le_of_ble_eq_true rfl) rfl rfl 6 (Nat.le_of_ble_eq_true rfl) (hts _ (vA_in _ _ (in_27 _ (zs16 (zs0))))) (fun _ h9 => h9) (hI.fr 0 (Nat.le_of_ble_eq_true rfl) rfl (Nat.le_of_ble_eq_true rfl) 5 rfl) dX13_numberOf_58 ?_
    refine lv_iload hx hb dX13_numberOf_61 (lv_at hl 0 rfl) ?_
    have n22 : vp_in r1 80 := (iv_in (n := 80) i7 (by decide))
    refine th_iald hx hb hK hP hI 5 (Nat.le_of_ble_eq_true rfl) rfl rfl n22 dX13_numberOf_63 (fun y21 ey21 => ?_)
    have iy21 : 0 ≤ y21.toInt ∧ y21.toInt ≤ 900 := hI.el 5 (Nat.le_of_ble_eq_true rfl) rfl n22 (fun _ => rfl) ey21
    have ey21 := ey21.trans (hKp.ei 5 _ rfl)
    have n23 : vp_in (119 : Int32) 128 := (iv_in (n := 128) ln_119 (by decide))
    refine th_iast hx hb hK hP (WX_D hD) hS hI 12 (Nat.le_of_ble_eq_true rfl) rfl rfl n23 (okI rfl (iv_w iy21 (by decide))) dX13_numberOf_64 (fun H locs E24 pw25 hI hP hS => ?_)
    have hKp := hKp.pw pw25 rfl
    refine lv_sipush (v := 500) hx hb dX13_numberOf_65 (by decide) ?_
    refine lv_sipush (v := 2000) hx hb dX13_numberOf_68 (by decide) ?_
    refine lv_aload_n hx hb dX13_numberOf_71 rfl (lv_at hl 1 rfl) ?_
    refine lv_bipush (v := 110) hx hb dX13_numberOf_72 (by decide) ?_
    refine lv_iload_n hx hb dX13_numberOf_74 rfl (lv_at hl 3 rfl) ?_
    refine lv_iload_n hx hb dX13_numberOf_75 rfl (lv_at hl 4 rfl) ?_
    refine th_i (va_runV (As := [.int 110, .int a1, .int a2]) (rest := [.int 2000, .int 500]) ⟨hx, hb, hml, hown, hts⟩ (q_worth l dC dI cT ad E24 H.size (110 : Int32) a1 a2 hI (iv_w ln_110 (by decide))) (cwV 3 hts (gi_V (in_28 _ (zs16 (zs16 (zs1 (zs1 (zs0)))))) (in_28 _ (zs16 (zs16 (zs1 (zs1 (zs1 (zs0))))))) (in_28 _ (zs16 (zs16 (zs4 (zs0))))) (in_24 _ (zs4 (zs4 (zs4 (zs1 (zs1 (zs1 (zs0)))))))) (in_28 _ (zs16 (zs16 (zs4 (zs1 (zs0))))))) rfl rfl rfl ⟨rfl, hz_yX13_worth_3⟩ ⟨Nat.le_of_ble_eq_true rfl, Nat.le_of_ble_eq_true rfl⟩) ⟨HW_bl, va_recv hK hP (ci := 14) (q0 := 0) rfl (hI.ob 0 (Nat.le_of_ble_eq_true rfl) rfl), (HW_wi hP hK (WX_D hD) hS hA hEV)⟩ rfl rfl hl.1 rfl (lv_room (Nat.le_of_ble_eq_true rfl)) dX13_numberOf_76 ⟨Nat.le_of_ble_eq_true rfl, Nat.le_of_ble_eq_true rfl⟩) (WX_D hD) hS hA (fun r26 E27 H locs hw hP hS => ?_)
    obtain ⟨hI, kq28, hw⟩ := hw
    have hKb := hKp
    have hKp := hKp.tr kq28 (wl_sub rfl rfl)
    refine va_mmin hx hb (by rw [hml]; exact hl.1.symm) hown (hts _ (vA_in _ _ (in_28 _ (zs16 (zs4 (zs4 (zs1 (zs1 (zs0))))))))) (hts _ (vA_in _ _ (in_0 _ (zs16 (zs16 (zs4 (zs0))))))) (hts _ (vA_in _ _ (in_0 _ (zs16 (zs16 (zs1 (zs0))))))) (hts _ (vA_in _ _ (in_0 _ (zs16 (zs16 (zs4 (zs1 (zs0)))))))) (Nat.le_of_ble_eq_true rfl) (Nat.le_of_ble_eq_true rfl) (Nat.le_of_ble_eq_true rfl) (Nat.le_of_ble_eq_true rfl) dX13_numberOf_79 ?_
    have z2000 := ln_2000
    refine lv_topi (fun y29 ey29 => ?_)
    obtain ⟨ty29, iy29⟩ := ti_min (e := (-2147483648)) (f := 2000) ln_2000 (iv_all _) ey29 (by decide)
    have iy29 : -2147483648 ≤ y29.toInt ∧ y29.toInt ≤ 2000 := iy29
    refine va_mmax hx hb (by rw [hml]; exact hl.1.symm) hown (hts _ (vA_in _ _ (in_25 _ (zs16 (zs4 (zs4 (zs1 (zs1 (zs1 (zs0)))))))))) (hts _ (vA_in _ _ (in_0 _ (zs16 (zs16 (zs0)))))) (hts _ (vA_in _ _ (in_0 _ (zs16 (zs16 (zs1 (zs0))))))) (hts _ (vA_in _ _ (in_0 _ (zs16 (zs16 (zs1 (zs1 (zs0)))))))) (Nat.le_of_ble_eq_true rfl) (Nat.le_of_ble_eq_true rfl) (Nat.le_of_ble_eq_true rfl) (Nat.le_of_ble_eq_true rfl) dX13_numberOf_82 ?_
    have z500 := ln_500
    refine lv_topi (fun y30 ey30 => ?_)
    obtain ⟨ty30, iy30⟩ := ti_max (e := 500) (f := 2000) ln_500 iy29 ey30 (by decide)
    have iy30 : 500 ≤ y30.toInt ∧ y30.toInt ≤ 2000 := iy30
    rw [hQ]
    exact W.iret (v := y30) hx hb hr (fun t ht hW => ⟨⟨y30, E27, rfl, ⟨hI, hKp, iy30⟩, by show va_P (dC, dI) vwCl (WX 72 ad E27) t.heap; rw [ht]; exact hP⟩, hS.F ht⟩) hS.2.2 dX13_numberOf_85
  · --12 not
    have t31 : r1.toInt = -1 := ti_eq c5
    have i32 : -1 ≤ r1.toInt ∧ r1.toInt ≤ -1 := iv_eqi t31 f2 (il_ (-1)) (by decide)
    refine lv_sipush (v := 1000) hx hb dX13_numberOf_15 (by decide) ?_
    rw [hQ]
    exact W.iret (v := 1000) hx hb hr (fun t ht hW => ⟨⟨1000, E, rfl, ⟨hI, hKp, (iv_w ln_1000 (by decide))⟩, by show va_P (dC, dI) vwCl (WX 72 ad E) t.heap; rw [ht]; exact hP⟩, hS.F ht⟩) hS.2.2 dX13_numberOf_18
def v_correctedOf : List Cond := .code yX13_correctedOf cX13_correctedOf 4 (some .int) :: vA
abbrev rm_correctedOf : Room := { frames := 72, cells := 0, slots := 0, locals := 2880 }
def w_correctedOf : Nat → Nat → Bool := wl [12] [(0, 18), (0, 19), (0, 20), (0, 21), (0, 22), (0, 23), (0, 24), (0, 25), (0, 26)]
set_option maxHeartbeats 4000000 in
set_option maxRecDepth 100000 in
theorem q_correctedOf (l : Launch) (dC : Nat → ClassId) (dI : Nat → Nat → Nat) (cT : Nat → ClassId) (ad : Nat → Nat) (E : Nat → va_E) (sz : Nat) (a0 : Int32) (a1 : Int32) (a2 : Int32) (hI0 : IX cT shM spM 72 ad E) (hh0 : 0 ≤ a0.toInt ∧ a0.toInt ≤ 19) (hh1 : ¬ lO (xi (E 24)) (xi (E 25)) (xi (E 28)) a0 a1 a2 (xi (E 0) 47).toNatClampNeg = -1) : Met l yX13_correctedOf v_correctedOf rm_correctedOf (va_Pc [.ref (ad 0), .int a0, .int a1, .int a2] (HW dC dI (TYM cT) 72 ad E sz)) (va_Qi (S := Nat → va_E) (fun r u => IX cT shM spM 72 ad u ∧ Kp w_correctedOf E u ∧ (True)) (HB dC dI 72 ad) (va_A (WX 72 ad E) sz)) 0 0 (va_A (WX 72 ad E) sz) := by
  refine Met.ofW (cc := cX13_correctedOf) (maxL := 4) (ret := (some .int)) (by decide) rfl ?_
  intro p e s m args below meth c s₁ B hml hv
  obtain ⟨hargs, hsz, hP, hK, hD0, hEV⟩ := hv
  subst hsz
  have hx := B.exec
  have hb := B.bytes
  have hr := B.returns
  have hts := atoms_spec (ws := v_correctedOf) B.pre
  have hown : s.vm.findClass RX13 = some m.cls := findClass_of_methodNamed B.named
  have hlocks := B.notSynchronized
  have hinX13 : ∀ w ∈ u_ws RX13 TX13 97, w ∈ v_correctedOf := fun w h => vA_in _ w (in_X13 w h)
  generalize hAe : va_A (WX 72 ad E) s.heap.size = A at hEV ⊢
  have hA : ∀ q : Nat, s.heap.size ≤ q → A q := fun q h => by rw [← hAe]; exact Or.inr h
  have hD : va_D A (WX 72 ad E) := by rw [← hAe]; exact hD0.self
  have hS : va_S A s.heap s.heap [] := va_S.rf
  have hI := hI0
  have hKp : Kp w_correctedOf E E := Kp.rf
  have hl := lv_entry ([.ref (ad 0), .int a0, .int a1, .int a2]) (n := 4) (Nat.le_of_ble_eq_true rfl)
  obtain ⟨Q, hQ⟩ : ∃ Q, Q = MQ below (va_Qi (S := Nat → va_E) (fun r u => IX cT shM spM 72 ad u ∧ Kp w_correctedOf E u ∧ (True)) (HB dC dI 72 ad) (A)) args s 0 0 (A) := ⟨_, rfl⟩
  rw [← hQ, show entryFrame m args 4 = _ from (congrArg (fun z => entryFrame m z 4) hargs).trans (lg_entry_eq _ _ _)]
  generalize (lg_sl ([.ref (ad 0), .int a0, .int a1, .int a2]) ++ List.replicate (4 - (lg_sl ([.ref (ad 0), .int a0, .int a1, .int a2])).length) Slot.unset).toArray = ls at hl ⊢
  have hl : lv_has ls 4 [(0, .ref (ad 0)), (1, .int a0), (2, .int a1), (3, .int a2)] := hl
  refine lv_aload_n hx hb dX13_correctedOf_0 rfl (lv_at hl 0 rfl) ?_
  refine lv_iload_n hx hb dX13_correctedOf_1 rfl (lv_at hl 1 rfl) ?_
  refine lv_aload_n hx hb dX13_correctedOf_2 rfl (lv_at hl 0 rfl) ?_
  refine lv_iload_n hx hb dX13_correctedOf_3 rfl (lv_at hl 1 rfl) ?_
  refine lv_iload_n hx hb dX13_correctedOf_4 rfl (lv_at hl 2 rfl) ?_
  refine lv_iload_n hx hb dX13_correctedOf_5 rfl (lv_at hl 3 rfl) ?_
  refine th_ri (va_runV (As := [.int a0, .int a1, .int a2]) (rest := [.int a0, .ref (ad 0)]) ⟨hx, hb, hml, hown, hts⟩ (q_secondsOf l dC dI cT ad E s.heap.size a0 a1 a2 hI (by exact hh1)) (cwV 3 hts (gi_V (in_28 _ (zs16 (zs1 (zs0)))) (in_28 _ (zs16 (zs1 (zs1 (zs0))))) (in_28 _ (zs16 (zs1 (zs1 (zs1 (zs0)))))) (in_24 _ (zs4 (zs4 (zs4 (zs1 (zs1 (zs1 (zs0)))))))) (in_28 _ (zs16 (zs4 (zs0))))) rfl rfl rfl ⟨rfl, hz_yX13_secondsOf_3⟩ ⟨Nat.le_of_ble_eq_true rfl, Nat.le_of_ble_eq_true rfl⟩) ⟨HW_bl, va_recv hK hP (ci := 14) (q0 := 0) rfl (hI.ob 0 (Nat.le_of_ble_eq_true rfl) rfl), (HW_wi hP hK (WX_D hD) hS hA hEV)⟩ rfl rfl hl.1 rfl (lv_room (Nat.le_of_ble_eq_true rfl)) dX13_correctedOf_6 ⟨Nat.le_of_ble_eq_true rfl, Nat.le_of_ble_eq_true rfl⟩) hS hP (fun r1 H locs hw hP hS => ?_)
  have f2 := hw
  refine lv_aload_n hx hb dX13_correctedOf_9 rfl (lv_at hl 0 rfl) ?_
  refine lv_iload_n hx hb dX13_correctedOf_10 rfl (lv_at hl 2 rfl) ?_
  refine lv_aload_n hx hb dX13_correctedOf_11 rfl (lv_at hl 0 rfl) ?_
  refine th_get (ci := 14) (C := RX13) (T := TX13) (N := 97) (v := .ref (ad 13)) hx hb hts hinX13 hown hK hP hI 0 (Nat.le_of_ble_eq_true rfl) rfl rfl 27 (Nat.le_of_ble_eq_true rfl) (hts _ (vA_in _ _ (in_27 _ (zs16 (zs16 (zs0)))))) (fun _ h9 => h9) (hI.fr 0 (Nat.le_of_ble_eq_true rfl) rfl (Nat.le_of_ble_eq_true rfl) 13 rfl) dX13_correctedOf_12 ?_
  refine lv_iload_n hx hb dX13_correctedOf_15 rfl (lv_at hl 1 rfl) ?_
  have n4 : vp_in a0 20 := (iv_in (n := 20) hh0 (by decide))
  refine th_iald hx hb hK hP hI 13 (Nat.le_of_ble_eq_true rfl) rfl rfl n4 dX13_correctedOf_16 (fun y3 ey3 => ?_)
  have iy3 : 0 ≤ y3.toInt ∧ y3.toInt ≤ 400 := hI.el 13 (Nat.le_of_ble_eq_true rfl) rfl n4 (fun _ => rfl) ey3
  have ey3 := ey3.trans (hKp.ei 13 _ rfl)
  refine lv_iload_n hx hb dX13_correctedOf_17 rfl (lv_at hl 3 rfl) ?_
  refine th_i (va_runV (As := [.int a1, .int y3, .int a2]) (rest := [.int r1, .int a0, .ref (ad 0)]) ⟨hx, hb, hml, hown, hts⟩ (q_numberOf l dC dI cT ad E H.size a1 y3 a2 hI) (cwV 3 hts (gi_V (in_28 _ (zs16 (zs4 (zs1 (zs1 (zs0)))))) (in_28 _ (zs16 (zs4 (zs1 (zs1 (zs1 (zs0))))))) (in_28 _ (zs16 (zs4 (zs4 (zs0))))) (in_24 _ (zs4 (zs4 (zs4 (zs1 (zs1 (zs1 (zs0)))))))) (in_28 _ (zs16 (zs4 (zs4 (zs1 (zs0))))))) rfl rfl rfl ⟨rfl, hz_yX13_numberOf_3⟩ ⟨Nat.le_of_ble_eq_true rfl, Nat.le_of_ble_eq_true rfl⟩) ⟨HW_bl, va_recv hK hP (ci := 14) (q0 := 0) rfl (hI.ob 0 (Nat.le_of_ble_eq_true rfl) rfl), (HW_wi hP hK (WX_D hD) hS hA hEV)⟩ rfl rfl hl.1 rfl (lv_room (Nat.le_of_ble_eq_true rfl)) dX13_correctedOf_18 ⟨Nat.le_of_ble_eq_true rfl, Nat.le_of_ble_eq_true rfl⟩) (WX_D hD) hS hA (fun r5 E6 H locs hw hP hS => ?_)
  obtain ⟨hI, kq7, hw⟩ := hw
  have hKb := hKp
  have hKp := hKp.tr kq7 (wl_sub rfl rfl)
  have f8 := hw
  refine th_ri (va_runV (As := [.int a0, .int r1, .int r5]) (rest := []) ⟨hx, hb, hml, hown, hts⟩ (q_correct l dC dI cT ad E6 H.size a0 r1 r5 hI hh0) (cwV 3 hts (gi_V (in_30 _ (zs16 (zs0))) (in_30 _ (zs16 (zs1 (zs0)))) (in_30 _ (zs16 (zs1 (zs1 (zs0))))) (in_24 _ (zs4 (zs4 (zs4 (zs1 (zs1 (zs1 (zs0)))))))) (in_30 _ (zs4 (zs4 (zs1 (zs0)))))) rfl rfl rfl ⟨rfl, hz_yX13_correct_3⟩ ⟨Nat.le_of_ble_eq_true rfl, Nat.le_of_ble_eq_true rfl⟩) ⟨HW_bl, va_recv hK hP (ci := 14) (q0 := 0) rfl (hI.ob 0 (Nat.le_of_ble_eq_true rfl) rfl), (HW_wi hP hK (WX_D hD) hS hA hEV)⟩ rfl rfl hl.1 rfl (lv_room (Nat.le_of_ble_eq_true rfl)) dX13_correctedOf_21 ⟨Nat.le_of_ble_eq_true rfl, Nat.le_of_ble_eq_true rfl⟩) hS hP (fun r9 H locs hw hP hS => ?_)
  rw [hQ]
  exact W.iret (v := r9) hx hb hr (fun t ht hW => ⟨⟨r9, E6, rfl, ⟨hI, hKp, trivial⟩, by show va_P (dC, dI) vwCl (WX 72 ad E6) t.heap; rw [ht]; exact hP⟩, hS.F ht⟩) hS.2.2 dX13_correctedOf_24
def v_placeOf : List Cond := .code yX13_placeOf cX13_placeOf 9 (some .int) :: vA
abbrev rm_placeOf : Room := { frames := 73, cells := 0, slots := 0, locals := 2920 }
def w_placeOf : Nat → Nat → Bool := wl [12] [(0, 18), (0, 19), (0, 20), (0, 21), (0, 22), (0, 23), (0, 24), (0, 25), (0, 26)]
set_option maxHeartbeats 4000000 in
set_option maxRecDepth 100000 in
theorem q_placeOf (l : Launch) (dC : Nat → ClassId) (dI : Nat → Nat → Nat) (cT : Nat → ClassId) (ad : Nat → Nat) (E : Nat → va_E) (sz : Nat) (a0 : Int32) (a1 : Int32) (a2 : Int32) (hI0 : IX cT shM spM 72 ad E) (hh0 : 0 ≤ a0.toInt ∧ a0.toInt ≤ 19) (hh1 : ¬ lO (xi (E 24)) (xi (E 25)) (xi (E 28)) a0 a1 a2 (xi (E 0) 47).toNatClampNeg = -1) : Met l yX13_placeOf v_placeOf rm_placeOf (va_Pc [.ref (ad 0), .int a0, .int a1, .int a2] (HW dC dI (TYM cT) 72 ad E sz)) (va_Qi (S := Nat → va_E) (fun r u => IX cT shM spM 72 ad u ∧ Kp w_placeOf E u ∧ (True)) (HB dC dI 72 ad) (va_A (WX 72 ad E) sz)) 0 0 (va_A (WX 72 ad E) sz) := by
  refine Met.ofW (cc := cX13_placeOf) (maxL := 9) (ret := (some .int)) (by decide) rfl ?_
  intro p e s m args below meth c s₁ B hml hv
  obtain ⟨hargs, hsz, hP, hK, hD0, hEV⟩ := hv
  subst hsz
  have hx := B.exec
  have hb := B.bytes
  have hr := B.returns
  have hts := atoms_spec (ws := v_placeOf) B.pre
  have hown : s.vm.findClass RX13 = some m.cls := findClass_of_methodNamed B.named
  have hlocks := B.notSynchronized
  have hinX13 : ∀ w ∈ u_ws RX13 TX13 97, w ∈ v_placeOf := fun w h => vA_in _ w (in_X13 w h)
  generalize hAe : va_A (WX 72 ad E) s.heap.size = A at hEV ⊢
  have hA : ∀ q : Nat, s.heap.size ≤ q → A q := fun q h => by rw [← hAe]; exact Or.inr h
  have hD : va_D A (WX 72 ad E) := by rw [← hAe]; exact hD0.self
  have hS : va_S A s.heap s.heap [] := va_S.rf
  have hI := hI0
  have hKp : Kp w_placeOf E E := Kp.rf
  have hl := lv_entry ([.ref (ad 0), .int a0, .int a1, .int a2]) (n := 9) (Nat.le_of_ble_eq_true rfl)
  obtain ⟨Q, hQ⟩ : ∃ Q, Q = MQ below (va_Qi (S := Nat → va_E) (fun r u => IX cT shM spM 72 ad u ∧ Kp w_placeOf E u ∧ (True)) (HB dC dI 72 ad) (A)) args s 0 0 (A) := ⟨_, rfl⟩
  rw [← hQ, show entryFrame m args 9 = _ from (congrArg (fun z => entryFrame m z 9) hargs).trans (lg_entry_eq _ _ _)]
  generalize (lg_sl ([.ref (ad 0), .int a0, .int a1, .int a2]) ++ List.replicate (9 - (lg_sl ([.ref (ad 0), .int a0, .int a1, .int a2])).length) Slot.unset).toArray = ls at hl ⊢
  have hl : lv_has ls 9 [(0, .ref (ad 0)), (1, .int a0), (2, .int a1), (3, .int a2)] := hl
  refine lv_aload_n hx hb dX13_placeOf_0 rfl (lv_at hl 0 rfl) ?_
  refine lv_iload_n hx hb dX13_placeOf_1 rfl (lv_at hl 1 rfl) ?_
  refine lv_iload_n hx hb dX13_placeOf_2 rfl (lv_at hl 2 rfl) ?_
  refine lv_iload_n hx hb dX13_placeOf_3 rfl (lv_at hl 3 rfl) ?_
  refine th_i (va_runV (As := [.int a0, .int a1, .int a2]) (rest := []) ⟨hx, hb, hml, hown, hts⟩ (q_correctedOf l dC dI cT ad E s.heap.size a0 a1 a2 hI hh0 (by exact hh1)) (cwV 3 hts (gi_V (in_30 _ (zs4 (zs4 (zs4 (zs0))))) (in_30 _ (zs4 (zs4 (zs4 (zs1 (zs0)))))) (in_30 _ (zs4 (zs4 (zs4 (zs1 (zs1 (zs0))))))) (in_24 _ (zs4 (zs4 (zs4 (zs1 (zs1 (zs1 (zs0)))))))) (in_30 _ (zs4 (zs4 (zs4 (zs1 (zs1 (zs1 (zs0))))))))) rfl rfl rfl ⟨rfl, hz_yX13_correctedOf_3⟩ ⟨Nat.le_of_ble_eq_true rfl, Nat.le_of_ble_eq_true rfl⟩) ⟨HW_bl, va_recv hK hP (ci := 14) (q0 := 0) rfl (hI.ob 0 (Nat.le_of_ble_eq_true rfl) rfl), (HW_wi hP hK (WX_D hD) hS hA hEV)⟩ rfl rfl hl.1 rfl (lv_room (Nat.le_of_ble_eq_true rfl)) dX13_placeOf_4 ⟨Nat.le_of_ble_eq_true rfl, Nat.le_of_ble_eq_true rfl⟩) (WX_D hD) hS hA (fun r1 E2 H locs hw hP hS => ?_)
  obtain ⟨hI, kq3, hw⟩ := hw
  have hKb := hKp
  have hKp := hKp.tr kq3 (wl_sub rfl rfl)
  refine lv_istore (lv' := [(4, .int r1), (0, .ref (ad 0)), (1, .int a0), (2, .int a1), (3, .int a2)]) hx hb dX13_placeOf_7 hl (by decide) rfl (fun ls hl => ?_)
  refine lv_iconst (v := 0) hx hb dX13_placeOf_9 (by decide) ?_
  refine lv_istore (lv' := [(5, .int 0), (4, .int r1), (0, .ref (ad 0)), (1, .int a0), (2, .int a1), (3, .int a2)]) hx hb dX13_placeOf_10 hl (by decide) rfl (fun ls hl => ?_)
  refine lv_iconst (v := 0) hx hb dX13_placeOf_12 (by decide) ?_
  refine lv_istore (lv' := [(6, .int 0), (5, .int 0), (4, .int r1), (0, .ref (ad 0)), (1, .int a0), (2, .int a1), (3, .int a2)]) hx hb dX13_placeOf_13 hl (by decide) rfl (fun ls hl => ?_)
  refine lv_iconst (v := 0) hx hb dX13_placeOf_15 (by decide) ?_
  refine lv_istore (lv' := [(7, .int 0), (6, .int 0), (5, .int 0), (4, .int r1), (0, .ref (ad 0)), (1, .int a0), (2, .int a1), (3, .int a2)]) hx hb dX13_placeOf_16 hl (by decide) rfl (fun ls hl => ?_)
  have hL18 : ∀ d : Nat, ∀ (v18_7 : Int32) (v18_6 : Int32) (v18_5 : Int32) (E18_ : Nat → va_E) (H : Heap) (locs : List Loc) (ls : Array Slot), 0 ≤ v18_7.toInt ∧ v18_7.toInt ≤ 16 → 16 - v18_7.toInt < (d : Int) → IX cT shM spM 72 ad E18_ → Kp w_placeOf E E18_ → va_P (dC, dI) vwCl (WX 72 ad E18_) H → va_S A s.heap H locs → lv_has ls 9 [(7, .int v18_7), (6, .int v18_6), (5, .int v18_5), (4, .int r1), (0, .ref (ad 0)), (1, .int a0), (2, .int a1), (3, .int a2)] → W p l e (headSpec v_placeOf rm_placeOf).room s m args below meth c H locs 0 0 Q (F0 m 18 ls []) := by
    intro d
    induction d with
    | zero =>
      intro v18_7 v18_6 v18_5 E18_ H locs ls hv18_7 hx18_0 hI hKp hP hS hl
      exact absurd hx18_0 (by first | exact ms_zu hv18_7.2 | omega)
    | succ d ih18 =>
      intro v18_7 v18_6 v18_5 E18_ H locs ls hv18_7 hx18_0 hI hKp hP hS hl
      refine lv_iload hx hb dX13_placeOf_18 (lv_at hl 0 rfl) ?_
      refine lv_aload_n hx hb dX13_placeOf_20 rfl (lv_at hl 4 rfl) ?_
      have i4 : 0 ≤ (xi (E 0) 8).toInt ∧ (xi (E 0) 8).toInt ≤ 16 := hI0.iv 0 (Nat.le_of_ble_eq_true rfl) rfl (Nat.le_of_ble_eq_true rfl) rfl
      refine th_get (ci := 14) (C := RX13) (T := TX13) (N := 97) (v := .int (xi (E 0) 8)) hx hb hts hinX13 hown hK hP hI 0 (Nat.le_of_ble_eq_true rfl) rfl rfl 8 (Nat.le_of_ble_eq_true rfl) (hts _ (vA_in _ _ (in_24 _ (zs16 (zs4 (zs1 (zs1 (zs0)))))))) (fun _ h9 => h9) (th_v0 hKp hI0 0 (Nat.le_of_ble_eq_true rfl) rfl (Nat.le_of_ble_eq_true rfl) rfl rfl) dX13_placeOf_21 ?_
      refine lv_icmp_ge (tgt := 91) hx hb dX13_placeOf_24 (by decide) (fun c5 => ?_) (fun c5 => ?_)
      · --24 taken
        have t6 : (xi (E 0) 8).toInt ≤ v18_7.toInt := ti_le c5
        refine lv_iconst (v := 5) hx hb dX13_placeOf_91 (by decide) ?_
        refine lv_iconst (v := 2) hx hb dX13_placeOf_92 (by decide) ?_
        refine lv_iload hx hb dX13_placeOf_93 (lv_at hl 2 rfl) ?_
        refine lv_imul hx hb dX13_placeOf_95 ?_
        refine lv_topi (fun y7 ey7 => ?_)
        refine lv_iconst (v := 1) hx hb dX13_placeOf_96 (by decide) ?_
        refine lv_iadd hx hb dX13_placeOf_97 ?_
        refine lv_topi (fun y8 ey8 => ?_)
        refine lv_iload hx hb dX13_placeOf_98 (lv_at hl 1 rfl) ?_
        refine lv_iadd hx hb dX13_placeOf_100 ?_
        refine lv_topi (fun y9 ey9 => ?_)
        refine lv_imul hx hb dX13_placeOf_101 ?_
        refine lv_topi (fun y10 ey10 => ?_)
        rw [hQ]
        exact W.iret (v := y10) hx hb hr (fun t ht hW => ⟨⟨y10, E18_, rfl, ⟨hI, hKp, trivial⟩, by show va_P (dC, dI) vwCl (WX 72 ad E18_) t.heap; rw [ht]; exact hP⟩, hS.F ht⟩) hS.2.2 dX13_placeOf_102
      · --24 not
        have t11 : v18_7.toInt < (xi (E 0) 8).toInt := ti_nle c5
        have i12 : 0 ≤ v18_7.toInt ∧ v18_7.toInt ≤ 15 := iv_lt_l t11 hv18_7 i4 (by decide)
        have i13 : 1 ≤ (xi (E 0) 8).toInt ∧ (xi (E 0) 8).toInt ≤ 16 := iv_lt_r t11 hv18_7 i4 (by decide)
        refine lv_aload_n hx hb dX13_placeOf_27 rfl (lv_at hl 4 rfl) ?_
        refine lv_iload_n hx hb dX13_placeOf_28 rfl (lv_at hl 5 rfl) ?_
        refine lv_iload hx hb dX13_placeOf_29 (lv_at hl 0 rfl) ?_
        refine lv_iload_n hx hb dX13_placeOf_31 rfl (lv_at hl 7 rfl) ?_
        refine th_ri (va_runV (As := [.int a0, .int v18_7, .int a2]) (rest := []) ⟨hx, hb, hml, hown, hts⟩ (q_codeOf l dC dI cT ad E18_ H.size a0 v18_7 a2 hI hh0 i12) (cwV 3 hts (gi_V (in_27 _ (zs16 (zs16 (zs4 (zs0))))) (in_27 _ (zs16 (zs16 (zs4 (zs1 (zs0)))))) (in_27 _ (zs16 (zs16 (zs4 (zs1 (zs1 (zs0))))))) (in_24 _ (zs4 (zs4 (zs4 (zs1 (zs1 (zs1 (zs0)))))))) (in_27 _ (zs16 (zs16 (zs4 (zs1 (zs1 (zs1 (zs0))))))))) rfl rfl rfl ⟨rfl, hz_yX13_codeOf_3⟩ ⟨Nat.le_of_ble_eq_true rfl, Nat.le_of_ble_eq_true rfl⟩) ⟨HW_bl, va_recv hK hP (ci := 14) (q0 := 0) rfl (hI.ob 0 (Nat.le_of_ble_eq_true rfl) rfl), (HW_wi hP hK (WX_D hD) hS hA hEV)⟩ rfl rfl hl.1 rfl (lv_room (Nat.le_of_ble_eq_true rfl)) dX13_placeOf_32 ⟨Nat.le_of_ble_eq_true rfl, Nat.le_of_ble_eq_true rfl⟩) hS hP (fun r14 H locs hw hP hS => ?_)
        obtain ⟨f15, f16⟩ := hw
        have i17 : 0 ≤ (xi (E 0) 47).toInt ∧ (xi (E 0) 47).toInt ≤ 300 := (show 0 ≤ (xi (E 0) 47).toInt ∧ (xi (E 0) 47).toInt ≤ 300 from hI0.iv 0 (Nat.le_of_ble_eq_true rfl) rfl (Nat.le_of_ble_eq_true rfl) rfl)
        try rw [hKp.ei 0 47 rfl] at f16
        try rw [hKp.ef 24 (fun _ => rfl)] at f16
        try rw [hKp.ef 25 (fun _ => rfl)] at f16
        try rw [hKp.ef 28 (fun _ => rfl)] at f16
        refine lv_if_eq (tgt := 41) hx hb dX13_placeOf_35 (by decide) (fun c18 => ?_) (fun c18 => ?_)
        · --35 taken
          have t19 : r14.toInt = 0 := ti_eq c18
          have i20 : 0 ≤ r14.toInt ∧ r14.toInt ≤ 0 := iv_eqi t19 f15 (il_ 0) (by decide)
          refine lv_aload_n hx hb dX13_placeOf_41 rfl (lv_at hl 4 rfl) ?_
          refine lv_iload_n hx hb dX13_placeOf_42 rfl (lv_at hl 5 rfl) ?_
          refine lv_iload hx hb dX13_placeOf_43 (lv_at hl 0 rfl) ?_
          refine lv_iload_n hx hb dX13_placeOf_45 rfl (lv_at hl 7 rfl) ?_
          refine th_i (va_runV (As := [.int a0, .int v18_7, .int a2]) (rest := []) ⟨hx, hb, hml, hown, hts⟩ (q_correctedOf l dC dI cT ad E18_ H.size a0 v18_7 a2 hI hh0 (by (try rw [hKp.ei 0 47 rfl]); (try rw [hKp.ef 24 (fun _ => rfl)]); (try rw [hKp.ef 25 (fun _ => rfl)]); (try rw [hKp.ef 28 (fun _ => rfl)]); exact f16 t19)) (cwV 3 hts (gi_V (in_30 _ (zs4 (zs4 (zs4 (zs0))))) (in_30 _ (zs4 (zs4 (zs4 (zs1 (zs0)))))) (in_30 _ (zs4 (zs4 (zs4 (zs1 (zs1 (zs0))))))) (in_24 _ (zs4 (zs4 (zs4 (zs1 (zs1 (zs1 (zs0)))))))) (in_30 _ (zs4 (zs4 (zs4 (zs1 (zs1 (zs1 (zs0))))))))) rfl rfl rfl ⟨rfl, hz_yX13_correctedOf_3⟩ ⟨Nat.le_of_ble_eq_true rfl, Nat.le_of_ble_eq_true rfl⟩) ⟨HW_bl, va_recv hK hP (ci := 14) (q0 := 0) rfl (hI.ob 0 (Nat.le_of_ble_eq_true rfl) rfl), (HW_wi hP hK (WX_D hD) hS hA hEV)⟩ rfl rfl hl.1 rfl (lv_room (Nat.le_of_ble_eq_true rfl)) dX13_placeOf_46 ⟨Nat.le_of_ble_eq_true rfl, Nat.le_of_ble_eq_true rfl⟩) (WX_D hD) hS hA (fun r21 E22 H locs hw hP hS => ?_)
          obtain ⟨hI, kq23, hw⟩ := hw
          have hKb := hKp
          have hKp := hKp.tr kq23 (wl_sub rfl rfl)
          refine lv_istore (lv' := [(8, .int r21), (7, .int v18_7), (6, .int v18_6), (5, .int v18_5), (4, .int r1), (0, .ref (ad 0)), (1, .int a0), (2, .int a1), (3, .int a2)]) hx hb dX13_placeOf_49 hl (by decide) rfl (fun ls hl => ?_)
          refine lv_iload hx hb dX13_placeOf_51 (lv_at hl 3 rfl) ?_
          refine lv_iload hx hb dX13_placeOf_53 (lv_at hl 0 rfl) ?_
          refine lv_iload hx hb dX13_placeOf_55 (lv_at hl 4 rfl) ?_
          have hJ65 : ∀ (s65_0 : Int32) (H : Heap) (locs : List Loc) (ls : Array Slot), 0 ≤ s65_0.toInt ∧ s65_0.toInt ≤ 1 → va_P (dC, dI) vwCl (WX 72 ad E22) H → va_S A s.heap H locs → lv_has ls 9 [(8, .int r21), (7, .int v18_7), (6, .int v18_6), (5, .int v18_5), (4, .int r1), (0, .ref (ad 0)), (1, .int a0), (2, .int a1), (3, .int a2)] → W p l e (headSpec v_placeOf rm_placeOf).room s m args below meth c H locs 0 0 Q (F0 m 65 ls [.int s65_0, .int v18_5]) := by
            intro s65_0 H locs ls hs65_0 hP hS hl
            refine lv_iadd hx hb dX13_placeOf_65 ?_
            refine lv_topi (fun y24 ey24 => ?_)
            refine lv_istore (lv' := [(5, .int y24), (8, .int r21), (7, .int v18_7), (6, .int v18_6), (4, .int r1), (0, .ref (ad 0)), (1, .int a0), (2, .int a1), (3, .int a2)]) hx hb dX13_placeOf_66 hl (by decide) rfl (fun ls hl => ?_)
            refine lv_iload hx hb dX13_placeOf_68 (lv_at hl 3 rfl) ?_
            refine lv_iload hx hb dX13_placeOf_70 (lv_at hl 1 rfl) ?_
            refine lv_iload hx hb dX13_placeOf_72 (lv_at hl 4 rfl) ?_
            refine lv_icmp_ne (tgt := 81) hx hb dX13_placeOf_74 (by decide) (fun c25 => ?_) (fun c25 => ?_)
            · --74 taken
              have t26 : ¬ r21.toInt = r1.toInt := ti_ne c25
              refine lv_iconst (v := 0) hx hb dX13_placeOf_81 (by decide) ?_
              refine lv_iadd hx hb dX13_placeOf_82 ?_
              refine lv_topi (fun y27 ey27 => ?_)
              obtain ⟨ty27, iy27⟩ := ti_add (e := (-2147483648)) (f := 2147483647) (iv_all _) ln_0 ey27 (by decide)
              have ty27 : y27.toInt = v18_6.toInt + 0 := ty27
              have iy27 : -2147483648 ≤ y27.toInt ∧ y27.toInt ≤ 2147483647 := iy27
              refine lv_istore (lv' := [(6, .int y27), (5, .int y24), (8, .int r21), (7, .int v18_7), (4, .int r1), (0, .ref (ad 0)), (1, .int a0), (2, .int a1), (3, .int a2)]) hx hb dX13_placeOf_83 hl (by decide) rfl (fun ls hl => ?_)
              obtain ⟨y28, ey28⟩ : ∃ y : Int32, y = v18_7 + (1 : Int32) := ⟨_, rfl⟩
              obtain ⟨ty28, iy28⟩ := ti_add (e := 1) (f := 16) i12 ln_1 ey28 (by decide)
              have ty28 : y28.toInt = v18_7.toInt + 1 := ty28
              have iy28 : 1 ≤ y28.toInt ∧ y28.toInt ≤ 16 := iy28
              refine lv_iinc (v := y28) (lv' := [(7, .int y28), (6, .int y27), (5, .int y24), (8, .int r21), (4, .int r1), (0, .ref (ad 0)), (1, .int a0), (2, .int a1), (3, .int a2)]) hx hb dX13_placeOf_85 hl (k := 3) rfl (by rw [ey28]; rfl) (by decide) rfl (fun ls hl => ?_)
              refine lv_goto (tgt := 18) hx hb dX13_placeOf_88 (by decide) ?_
              exact ih18 y28 y27 y24 E22 _ _ _ (iv_w iy28 (by decide)) (by first | exact ms_su hx18_0 ty28 (by decide) | omega) hI hKp hP hS (lv_sub hl [0, 1, 2, 4, 5, 6, 7, 8] rfl)
            · --74 not
              have t29 : r21.toInt = r1.toInt := ti_eq c25
              refine lv_iconst (v := 1) hx hb dX13_placeOf_77 (by decide) ?_
              refine lv_goto (tgt := 82) hx hb dX13_placeOf_78 (by decide) ?_
              refine lv_iadd hx hb dX13_placeOf_82 ?_
              refine lv_topi (fun y30 ey30 => ?_)
              refine lv_istore (lv' := [(6, .int y30), (5, .int y24), (8, .int r21), (7, .int v18_7), (4, .int r1), (0, .ref (ad 0)), (1, .int a0), (2, .int a1), (3, .int a2)]) hx hb dX13_placeOf_83 hl (by decide) rfl (fun ls hl => ?_)
              obtain ⟨y31, ey31⟩ : ∃ y : Int32, y = v18_7 + (1 : Int32) := ⟨_, rfl⟩
              obtain ⟨ty31, iy31⟩ := ti_add (e := 1) (f := 16) i12 ln_1 ey31 (by decide)
              have ty31 : y31.toInt = v18_7.toInt + 1 := ty31
              have iy31 : 1 ≤ y31.toInt ∧ y31.toInt ≤ 16 := iy31
              refine lv_iinc (v := y31) (lv' := [(7, .int y31), (6, .int y30), (5, .int y24), (8, .int r21), (4, .int r1), (0, .ref (ad 0)), (1, .int a0), (2, .int a1), (3, .int a2)]) hx hb dX13_placeOf_85 hl (k := 3) rfl (by rw [ey31]; rfl) (by decide) rfl (fun ls hl => ?_)
              refine lv_goto (tgt := 18) hx hb dX13_placeOf_88 (by decide) ?_
              exact ih18 y31 y30 y24 E22 _ _ _ (iv_w iy31 (by decide)) (by first | exact ms_su hx18_0 ty31 (by decide) | omega) hI hKp hP hS (lv_sub hl [0, 1, 2, 4, 5, 6, 7, 8] rfl)
          refine lv_icmp_ge (tgt := 64) hx hb dX13_placeOf_57 (by decide) (fun c32 => ?_) (fun c32 => ?_)
          · --57 taken
            have t33 : r1.toInt ≤ r21.toInt := ti_le c32
            refine lv_iconst (v := 0) hx hb dX13_placeOf_64 (by decide) ?_
            exact hJ65 (0 : Int32) _ _ _ (iv_w ln_0 (by decide)) hP hS (lv_sub hl [0, 1, 2, 3, 4, 5, 6, 7, 8] rfl)
          · --57 not
            have t34 : r21.toInt < r1.toInt := ti_nle c32
            have i35 : -2147483648 ≤ r21.toInt ∧ r21.toInt ≤ 2147483646 := iv_lt_l t34 (iv_all _) (iv_all _) (by decide)
            have i36 : -2147483647 ≤ r1.toInt ∧ r1.toInt ≤ 2147483647 := iv_lt_r t34 (iv_all _) (iv_all _) (by decide)
            refine lv_iconst (v := 1) hx hb dX13_placeOf_60 (by decide) ?_
            refine lv_goto (tgt := 65) hx hb dX13_placeOf_61 (by decide) ?_
            exact hJ65 (1 : Int32) _ _ _ (iv_w ln_1 (by decide)) hP hS (lv_sub hl [0, 1, 2, 3, 4, 5, 6, 7, 8] rfl)
        · --35 not
          have t37 : ¬ r14.toInt = 0 := ti_ne c18
          have i38 : 1 ≤ r14.toInt ∧ r14.toInt ≤ 5 := iv_ne_l t37 f15 (il_ 0)
          refine lv_goto (tgt := 85) hx hb dX13_placeOf_38 (by decide) ?_
          obtain ⟨y39, ey39⟩ : ∃ y : Int32, y = v18_7 + (1 : Int32) := ⟨_, rfl⟩
          obtain ⟨ty39, iy39⟩ := ti_add (e := 1) (f := 16) i12 ln_1 ey39 (by decide)
          have ty39 : y39.toInt = v18_7.toInt + 1 := ty39
          have iy39 : 1 ≤ y39.toInt ∧ y39.toInt ≤ 16 := iy39
          refine lv_iinc (v := y39) (lv' := [(7, .int y39), (6, .int v18_6), (5, .int v18_5), (4, .int r1), (0, .ref (ad 0)), (1, .int a0), (2, .int a1), (3, .int a2)]) hx hb dX13_placeOf_85 hl (k := 0) rfl (by rw [ey39]; rfl) (by decide) rfl (fun ls hl => ?_)
          refine lv_goto (tgt := 18) hx hb dX13_placeOf_88 (by decide) ?_
          exact ih18 y39 v18_6 v18_5 E18_ _ _ _ (iv_w iy39 (by decide)) (by first | exact ms_su hx18_0 ty39 (by decide) | omega) hI hKp hP hS (lv_sub hl [0, 1, 2, 3, 4, 5, 6, 7] rfl)
  exact hL18 (17) (0 : Int32) (0 : Int32) (0 : Int32) E2 _ _ _ (iv_w ln_0 (by decide)) (by have h9 := ln_0; first | exact ms_bu h9.1 (by decide) | omega) hI hKp hP hS (lv_sub hl [0, 1, 2, 3, 4, 5, 6, 7] rfl)
def v_pointsByText : List Cond := .code yX13_pointsByText cX13_pointsByText 9 (some .int) :: vA
abbrev rm_pointsByText : Room := { frames := 74, cells := 0, slots := 0, locals := 2960 }
def w_pointsByText : Nat → Nat → Bool := wl [12] [(0, 18), (0, 19), (0, 20), (0, 21), (0, 22), (0, 23), (0, 24), (0, 25), (0, 26)]
set_option maxHeartbeats 4000000 in
set_option maxRecDepth 100000 in
theorem q_pointsByText (l : Launch) (dC : Nat → ClassId) (dI : Nat → Nat → Nat) (cT : Nat → ClassId) (ad : Nat → Nat) (E : Nat → va_E) (sz : Nat) (a0 : Int32) (a1 : Int32) (a2 : Int32) (hI0 : IX cT shM spM 72 ad E) (hh0 : 0 ≤ a0.toInt ∧ a0.toInt ≤ 19) (hh1 : 0 ≤ a1.toInt ∧ a1.toInt ≤ 15) : Met l yX13_pointsByText v_pointsByText rm_pointsByText (va_Pc [.ref (ad 0), .int a0, .int a1, .int a2] (HW dC dI (TYM cT) 72 ad E sz)) (va_Qi (S := Nat → va_E) (fun r u => IX cT shM spM 72 ad u ∧ Kp w_pointsByText E u ∧ (True)) (HB dC dI 72 ad) (va_A (WX 72 ad E) sz)) 0 0 (va_A (WX 72 ad E) sz) := by
  refine Met.ofW (cc := cX13_pointsByText) (maxL := 9) (ret := (some .int)) (by decide) rfl ?_
  intro p e s m args below meth c s₁ B hml hv
  obtain ⟨hargs, hsz, hP, hK, hD0, hEV⟩ := hv
  subst hsz
  have hx := B.exec
  have hb := B.bytes
  have hr := B.returns
  have hts := atoms_spec (ws := v_pointsByText) B.pre
  have hown : s.vm.findClass RX13 = some m.cls := findClass_of_methodNamed B.named
  have hlocks := B.notSynchronized
  have hinX13 : ∀ w ∈ u_ws RX13 TX13 97, w ∈ v_pointsByText := fun w h => vA_in _ w (in_X13 w h)
  generalize hAe : va_A (WX 72 ad E) s.heap.size = A at hEV ⊢
  have hA : ∀ q : Nat, s.heap.size ≤ q → A q := fun q h => by rw [← hAe]; exact Or.inr h
  have hD : va_D A (WX 72 ad E) := by rw [← hAe]; exact hD0.self
  have hS : va_S A s.heap s.heap [] := va_S.rf
  have hI := hI0
  have hKp : Kp w_pointsByText E E := Kp.rf
  have hl := lv_entry ([.ref (ad 0), .int a0, .int a1, .int a2]) (n := 9) (Nat.le_of_ble_eq_true rfl)
  obtain ⟨Q, hQ⟩ : ∃ Q, Q = MQ below (va_Qi (S := Nat → va_E) (fun r u => IX cT shM spM 72 ad u ∧ Kp w_pointsByText E u ∧ (True)) (HB dC dI 72 ad) (A)) args s 0 0 (A) := ⟨_, rfl⟩
  rw [← hQ, show entryFrame m args 9 = _ from (congrArg (fun z => entryFrame m z 9) hargs).trans (lg_entry_eq _ _ _)]
  generalize (lg_sl ([.ref (ad 0), .int a0, .int a1, .int a2]) ++ List.replicate (9 - (lg_sl ([.ref (ad 0), .int a0, .int a1, .int a2])).length) Slot.unset).toArray = ls at hl ⊢
  have hl : lv_has ls 9 [(0, .ref (ad 0)), (1, .int a0), (2, .int a1), (3, .int a2)] := hl
  refine lv_aload_n hx hb dX13_pointsByText_0 rfl (lv_at hl 0 rfl) ?_
  refine lv_iload_n hx hb dX13_pointsByText_1 rfl (lv_at hl 1 rfl) ?_
  refine lv_iload_n hx hb dX13_pointsByText_2 rfl (lv_at hl 2 rfl) ?_
  refine lv_iload_n hx hb dX13_pointsByText_3 rfl (lv_at hl 3 rfl) ?_
  refine th_ri (va_runV (As := [.int a0, .int a1, .int a2]) (rest := []) ⟨hx, hb, hml, hown, hts⟩ (q_codeOf l dC dI cT ad E s.heap.size a0 a1 a2 hI hh0 hh1) (cwV 3 hts (gi_V (in_27 _ (zs16 (zs16 (zs4 (zs0))))) (in_27 _ (zs16 (zs16 (zs4 (zs1 (zs0)))))) (in_27 _ (zs16 (zs16 (zs4 (zs1 (zs1 (zs0))))))) (in_24 _ (zs4 (zs4 (zs4 (zs1 (zs1 (zs1 (zs0)))))))) (in_27 _ (zs16 (zs16 (zs4 (zs1 (zs1 (zs1 (zs0))))))))) rfl rfl rfl ⟨rfl, hz_yX13_codeOf_3⟩ ⟨Nat.le_of_ble_eq_true rfl, Nat.le_of_ble_eq_true rfl⟩) ⟨HW_bl, va_recv hK hP (ci := 14) (q0 := 0) rfl (hI.ob 0 (Nat.le_of_ble_eq_true rfl) rfl), (HW_wi hP hK (WX_D hD) hS hA hEV)⟩ rfl rfl hl.1 rfl (lv_room (Nat.le_of_ble_eq_true rfl)) dX13_pointsByText_4 ⟨Nat.le_of_ble_eq_true rfl, Nat.le_of_ble_eq_true rfl⟩) hS hP (fun r1 H locs hw hP hS => ?_)
  obtain ⟨f2, f3⟩ := hw
  have i4 : 0 ≤ (xi (E 0) 47).toInt ∧ (xi (E 0) 47).toInt ≤ 300 := (show 0 ≤ (xi (E 0) 47).toInt ∧ (xi (E 0) 47).toInt ≤ 300 from hI0.iv 0 (Nat.le_of_ble_eq_true rfl) rfl (Nat.le_of_ble_eq_true rfl) rfl)
  refine lv_istore (lv' := [(4, .int r1), (0, .ref (ad 0)), (1, .int a0), (2, .int a1), (3, .int a2)]) hx hb dX13_pointsByText_7 hl (by decide) rfl (fun ls hl => ?_)
  refine lv_iload hx hb dX13_pointsByText_9 (lv_at hl 0 rfl) ?_
  have hJ25 : ∀ (s25_0 : Int32) (E25_ : Nat → va_E) (H : Heap) (locs : List Loc) (ls : Array Slot), IX cT shM spM 72 ad E25_ → Kp w_pointsByText E E25_ → va_P (dC, dI) vwCl (WX 72 ad E25_) H → va_S A s.heap H locs → lv_has ls 9 [(4, .int r1), (0, .ref (ad 0)), (1, .int a0), (2, .int a1), (3, .int a2)] → W p l e (headSpec v_pointsByText rm_pointsByText).room s m args below meth c H locs 0 0 Q (F0 m 25 ls [.int s25_0]) := by
    intro s25_0 E25_ H locs ls hI hKp hP hS hl
    refine lv_istore (lv' := [(5, .int s25_0), (4, .int r1), (0, .ref (ad 0)), (1, .int a0), (2, .int a1), (3, .int a2)]) hx hb dX13_pointsByText_25 hl (by decide) rfl (fun ls hl => ?_)
    refine lv_iconst (v := 0) hx hb dX13_pointsByText_27 (by decide) ?_
    refine lv_istore (lv' := [(6, .int 0), (5, .int s25_0), (4, .int r1), (0, .ref (ad 0)), (1, .int a0), (2, .int a1), (3, .int a2)]) hx hb dX13_pointsByText_28 hl (by decide) rfl (fun ls hl => ?_)
    refine lv_iconst (v := 0) hx hb dX13_pointsByText_30 (by decide) ?_
    refine lv_istore (lv' := [(7, .int 0), (6, .int 0), (5, .int s25_0), (4, .int r1), (0, .ref (ad 0)), (1, .int a0), (2, .int a1), (3, .int a2)]) hx hb dX13_pointsByText_31 hl (by decide) rfl (fun ls hl => ?_)
    refine lv_iconst (v := 0) hx hb dX13_pointsByText_33 (by decide) ?_
    refine lv_istore (lv' := [(8, .int 0), (7, .int 0), (6, .int 0), (5, .int s25_0), (4, .int r1), (0, .ref (ad 0)), (1, .int a0), (2, .int a1), (3, .int a2)]) hx hb dX13_pointsByText_34 hl (by decide) rfl (fun ls hl => ?_)
    have hL36 : ∀ d : Nat, ∀ (v36_8 : Int32) (v36_7 : Int32) (v36_6 : Int32) (H : Heap) (locs : List Loc) (ls : Array Slot), 0 ≤ v36_8.toInt ∧ v36_8.toInt ≤ 16 → 16 - v36_8.toInt < (d : Int) → va_P (dC, dI) vwCl (WX 72 ad E25_) H → va_S A s.heap H locs → lv_has ls 9 [(8, .int v36_8), (7, .int v36_7), (6, .int v36_6), (5, .int s25_0), (4, .int r1), (0, .ref (ad 0)), (1, .int a0), (2, .int a1), (3, .int a2)] → W p l e (headSpec v_pointsByText rm_pointsByText).room s m args below meth c H locs 0 0 Q (F0 m 36 ls []) := by
      intro d
      induction d with
      | zero =>
        intro v36_8 v36_7 v36_6 H locs ls hv36_8 hx36_0 hP hS hl
        exact absurd hx36_0 (by first | exact ms_zu hv36_8.2 | omega)
      | succ d ih36 =>
        intro v36_8 v36_7 v36_6 H locs ls hv36_8 hx36_0 hP hS hl
        refine lv_iload hx hb dX13_pointsByText_36 (lv_at hl 0 rfl) ?_
        refine lv_aload_n hx hb dX13_pointsByText_38 rfl (lv_at hl 5 rfl) ?_
        have i5 : 0 ≤ (xi (E 0) 8).toInt ∧ (xi (E 0) 8).toInt ≤ 16 := hI0.iv 0 (Nat.le_of_ble_eq_true rfl) rfl (Nat.le_of_ble_eq_true rfl) rfl
        refine th_get (ci := 14) (C := RX13) (T := TX13) (N := 97) (v := .int (xi (E 0) 8)) hx hb hts hinX13 hown hK hP hI 0 (Nat.le_of_ble_eq_true rfl) rfl rfl 8 (Nat.le_of_ble_eq_true rfl) (hts _ (vA_in _ _ (in_24 _ (zs16 (zs4 (zs1 (zs1 (zs0)))))))) (fun _ h9 => h9) (th_v0 hKp hI0 0 (Nat.le_of_ble_eq_true rfl) rfl (Nat.le_of_ble_eq_true rfl) rfl rfl) dX13_pointsByText_39 ?_
        refine lv_icmp_ge (tgt := 93) hx hb dX13_pointsByText_42 (by decide) (fun c6 => ?_) (fun c6 => ?_)
        · --42 taken
          have t7 : (xi (E 0) 8).toInt ≤ v36_8.toInt := ti_le c6
          refine lv_aload_n hx hb dX13_pointsByText_93 rfl (lv_at hl 5 rfl) ?_
          refine th_v (va_runV (As := []) (rest := []) ⟨hx, hb, hml, hown, hts⟩ (q_clear l dC dI cT ad E25_ H.size hI) (cwV 0 hts (gi_V (in_28 _ (zs16 (zs4 (zs4 (zs4 (zs1 (zs1 (zs0)))))))) (in_28 _ (zs16 (zs4 (zs4 (zs4 (zs1 (zs1 (zs1 (zs0))))))))) (in_28 _ (zs16 (zs16 (zs0)))) (in_24 _ (zs4 (zs4 (zs4 (zs1 (zs1 (zs1 (zs0)))))))) (in_28 _ (zs16 (zs16 (zs1 (zs0)))))) rfl rfl rfl ⟨rfl, hz_yX13_clear_0⟩ ⟨Nat.le_of_ble_eq_true rfl, Nat.le_of_ble_eq_true rfl⟩) ⟨HW_bl, va_recv hK hP (ci := 14) (q0 := 0) rfl (hI.ob 0 (Nat.le_of_ble_eq_true rfl) rfl), (HW_wi hP hK (WX_D hD) hS hA hEV)⟩ rfl rfl hl.1 rfl (lv_room (Nat.le_of_ble_eq_true rfl)) dX13_pointsByText_94 ⟨Nat.le_of_ble_eq_true rfl, Nat.le_of_ble_eq_true rfl⟩) (WX_D hD) hS hA (fun E9 H locs hw hP hS => ?_)
          obtain ⟨hI, kq10, hw⟩ := hw
          have hKb := hKp
          have hKp := hKp.tr kq10 (wl_sub rfl rfl)
          refine lv_aload_n hx hb dX13_pointsByText_97 rfl (lv_at hl 5 rfl) ?_
          refine th_get (ci := 14) (C := RX13) (T := TX13) (N := 97) (v := .ref (ad 12)) hx hb hts hinX13 hown hK hP hI 0 (Nat.le_of_ble_eq_true rfl) rfl rfl 15 (Nat.le_of_ble_eq_true rfl) (hts _ (vA_in _ _ (in_25 _ (zs16 (zs16 (zs4 (zs1 (zs0)))))))) (fun _ h9 => h9) (hI.fr 0 (Nat.le_of_ble_eq_true rfl) rfl (Nat.le_of_ble_eq_true rfl) 12 rfl) dX13_pointsByText_98 ?_
          refine lv_bipush (v := 107) hx hb dX13_pointsByText_101 (by decide) ?_
          refine lv_iload hx hb dX13_pointsByText_103 (lv_at hl 4 rfl) ?_
          have n11 : vp_in (107 : Int32) 128 := (iv_in (n := 128) ln_107 (by decide))
          refine th_iast hx hb hK hP (WX_D hD) hS hI 12 (Nat.le_of_ble_eq_true rfl) rfl rfl n11 (okI rfl (iv_w f2 (by decide))) dX13_pointsByText_105 (fun H locs E12 pw13 hI hP hS => ?_)
          have hKp := hKp.pw pw13 rfl
          refine lv_aload_n hx hb dX13_pointsByText_106 rfl (lv_at hl 5 rfl) ?_
          refine th_get (ci := 14) (C := RX13) (T := TX13) (N := 97) (v := .ref (ad 12)) hx hb hts hinX13 hown hK hP hI 0 (Nat.le_of_ble_eq_true rfl) rfl rfl 15 (Nat.le_of_ble_eq_true rfl) (hts _ (vA_in _ _ (in_25 _ (zs16 (zs16 (zs4 (zs1 (zs0)))))))) (fun _ h9 => h9) (hI.fr 0 (Nat.le_of_ble_eq_true rfl) rfl (Nat.le_of_ble_eq_true rfl) 12 rfl) dX13_pointsByText_107 ?_
          refine lv_bipush (v := 114) hx hb dX13_pointsByText_110 (by decide) ?_
          refine lv_iload hx hb dX13_pointsByText_112 (lv_at hl 3 rfl) ?_
          have n14 : vp_in (114 : Int32) 128 := (iv_in (n := 128) ln_114 (by decide))
          refine th_iast hx hb hK hP (WX_D hD) hS hI 12 (Nat.le_of_ble_eq_true rfl) rfl rfl n14 (okI rfl (iv_all _)) dX13_pointsByText_114 (fun H locs E15 pw16 hI hP hS => ?_)
          have hKp := hKp.pw pw16 rfl
          refine lv_aload_n hx hb dX13_pointsByText_115 rfl (lv_at hl 5 rfl) ?_
          refine th_get (ci := 14) (C := RX13) (T := TX13) (N := 97) (v := .ref (ad 12)) hx hb hts hinX13 hown hK hP hI 0 (Nat.le_of_ble_eq_true rfl) rfl rfl 15 (Nat.le_of_ble_eq_true rfl) (hts _ (vA_in _ _ (in_25 _ (zs16 (zs16 (zs4 (zs1 (zs0)))))))) (fun _ h9 => h9) (hI.fr 0 (Nat.le_of_ble_eq_true rfl) rfl (Nat.le_of_ble_eq_true rfl) 12 rfl) dX13_pointsByText_116 ?_
          refine lv_bipush (v := 101) hx hb dX13_pointsByText_119 (by decide) ?_
          refine lv_iload hx hb dX13_pointsByText_121 (lv_at hl 2 rfl) ?_
          have n17 : vp_in (101 : Int32) 128 := (iv_in (n := 128) ln_101 (by decide))
          refine th_iast hx hb hK hP (WX_D hD) hS hI 12 (Nat.le_of_ble_eq_true rfl) rfl rfl n17 (okI rfl (iv_all _)) dX13_pointsByText_123 (fun H locs E18 pw19 hI hP hS => ?_)
          have hKp := hKp.pw pw19 rfl
          refine lv_aload_n hx hb dX13_pointsByText_124 rfl (lv_at hl 5 rfl) ?_
          refine th_get (ci := 14) (C := RX13) (T := TX13) (N := 97) (v := .ref (ad 12)) hx hb hts hinX13 hown hK hP hI 0 (Nat.le_of_ble_eq_true rfl) rfl rfl 15 (Nat.le_of_ble_eq_true rfl) (hts _ (vA_in _ _ (in_25 _ (zs16 (zs16 (zs4 (zs1 (zs0)))))))) (fun _ h9 => h9) (hI.fr 0 (Nat.le_of_ble_eq_true rfl) rfl (Nat.le_of_ble_eq_true rfl) 12 rfl) dX13_pointsByText_125 ?_
          refine lv_bipush (v := 102) hx hb dX13_pointsByText_128 (by decide) ?_
          refine lv_iload hx hb dX13_pointsByText_130 (lv_at hl 1 rfl) ?_
          have n20 : vp_in (102 : Int32) 128 := (iv_in (n := 128) ln_102 (by decide))
          refine th_iast hx hb hK hP (WX_D hD) hS hI 12 (Nat.le_of_ble_eq_true rfl) rfl rfl n20 (okI rfl (iv_all _)) dX13_pointsByText_132 (fun H locs E21 pw22 hI hP hS => ?_)
          have hKp := hKp.pw pw22 rfl
          refine lv_iconst (v := 0) hx hb dX13_pointsByText_133 (by decide) ?_
          refine lv_sipush (v := 10000) hx hb dX13_pointsByText_134 (by decide) ?_
          refine lv_aload_n hx hb dX13_pointsByText_137 rfl (lv_at hl 5 rfl) ?_
          refine lv_bipush (v := 112) hx hb dX13_pointsByText_138 (by decide) ?_
          refine lv_aload_n hx hb dX13_pointsByText_140 rfl (lv_at hl 5 rfl) ?_
          refine th_get (ci := 14) (C := RX13) (T := TX13) (N := 97) (v := .ref (ad 13)) hx hb hts hinX13 hown hK hP hI 0 (Nat.le_of_ble_eq_true rfl) rfl rfl 27 (Nat.le_of_ble_eq_true rfl) (hts _ (vA_in _ _ (in_27 _ (zs16 (zs16 (zs0)))))) (fun _ h9 => h9) (hI.fr 0 (Nat.le_of_ble_eq_true rfl) rfl (Nat.le_of_ble_eq_true rfl) 13 rfl) dX13_pointsByText_141 ?_
          refine lv_iload_n hx hb dX13_pointsByText_144 rfl (lv_at hl 6 rfl) ?_
          have n24 : vp_in a0 20 := (iv_in (n := 20) hh0 (by decide))
          refine th_iald hx hb hK hP hI 13 (Nat.le_of_ble_eq_true rfl) rfl rfl n24 dX13_pointsByText_145 (fun y23 ey23 => ?_)
          have iy23 : 0 ≤ y23.toInt ∧ y23.toInt ≤ 400 := hI.el 13 (Nat.le_of_ble_eq_true rfl) rfl n24 (fun _ => rfl) ey23
          have ey23 := ey23.trans (hKp.ei 13 _ rfl)
          refine lv_iload_n hx hb dX13_pointsByText_146 rfl (lv_at hl 8 rfl) ?_
          refine th_i (va_runV (As := [.int 112, .int y23, .int a2]) (rest := [.int 10000, .int 0]) ⟨hx, hb, hml, hown, hts⟩ (q_worth l dC dI cT ad E21 H.size (112 : Int32) y23 a2 hI (iv_w ln_112 (by decide))) (cwV 3 hts (gi_V (in_28 _ (zs16 (zs16 (zs1 (zs1 (zs0)))))) (in_28 _ (zs16 (zs16 (zs1 (zs1 (zs1 (zs0))))))) (in_28 _ (zs16 (zs16 (zs4 (zs0))))) (in_24 _ (zs4 (zs4 (zs4 (zs1 (zs1 (zs1 (zs0)))))))) (in_28 _ (zs16 (zs16 (zs4 (zs1 (zs0))))))) rfl rfl rfl ⟨rfl, hz_yX13_worth_3⟩ ⟨Nat.le_of_ble_eq_true rfl, Nat.le_of_ble_eq_true rfl⟩) ⟨HW_bl, va_recv hK hP (ci := 14) (q0 := 0) rfl (hI.ob 0 (Nat.le_of_ble_eq_true rfl) rfl), (HW_wi hP hK (WX_D hD) hS hA hEV)⟩ rfl rfl hl.1 rfl (lv_room (Nat.le_of_ble_eq_true rfl)) dX13_pointsByText_147 ⟨Nat.le_of_ble_eq_true rfl, Nat.le_of_ble_eq_true rfl⟩) (WX_D hD) hS hA (fun r25 E26 H locs hw hP hS => ?_)
          obtain ⟨hI, kq27, hw⟩ := hw
          have hKb := hKp
          have hKp := hKp.tr kq27 (wl_sub rfl rfl)
          refine va_mmin hx hb (by rw [hml]; exact hl.1.symm) hown (hts _ (vA_in _ _ (in_28 _ (zs16 (zs4 (zs4 (zs1 (zs1 (zs0))))))))) (hts _ (vA_in _ _ (in_0 _ (zs16 (zs16 (zs4 (zs0))))))) (hts _ (vA_in _ _ (in_0 _ (zs16 (zs16 (zs1 (zs0))))))) (hts _ (vA_in _ _ (in_0 _ (zs16 (zs16 (zs4 (zs1 (zs0)))))))) (Nat.le_of_ble_eq_true rfl) (Nat.le_of_ble_eq_true rfl) (Nat.le_of_ble_eq_true rfl) (Nat.le_of_ble_eq_true rfl) dX13_pointsByText_150 ?_
          have z10000 := ln_10000
          refine lv_topi (fun y28 ey28 => ?_)
          obtain ⟨ty28, iy28⟩ := ti_min (e := (-2147483648)) (f := 10000) ln_10000 (iv_all _) ey28 (by decide)
          have iy28 : -2147483648 ≤ y28.toInt ∧ y28.toInt ≤ 10000 := iy28
          refine va_mmax hx hb (by rw [hml]; exact hl.1.symm) hown (hts _ (vA_in _ _ (in_25 _ (zs16 (zs4 (zs4 (zs1 (zs1 (zs1 (zs0)))))))))) (hts _ (vA_in _ _ (in_0 _ (zs16 (zs16 (zs0)))))) (hts _ (vA_in _ _ (in_0 _ (zs16 (zs16 (zs1 (zs0))))))) (hts _ (vA_in _ _ (in_0 _ (zs16 (zs16 (zs1 (zs1 (zs0)))))))) (Nat.le_of_ble_eq_true rfl) (Nat.le_of_ble_eq_true rfl) (Nat.le_of_ble_eq_true rfl) (Nat.le_of_ble_eq_true rfl) dX13_pointsByText_153 ?_
          have z0 := ln_0
          refine lv_topi (fun y29 ey29 => ?_)
          obtain ⟨ty29, iy29⟩ := ti_max (e := 0) (f := 10000) ln_0 iy28 ey29 (by decide)
          have iy29 : 0 ≤ y29.toInt ∧ y29.toInt ≤ 10000 := iy29
          rw [hQ]
          exact W.iret (v := y29) hx hb hr (fun t ht hW => ⟨⟨y29, E26, rfl, ⟨hI, hKp, trivial⟩, by show va_P (dC, dI) vwCl (WX 72 ad E26) t.heap; rw [ht]; exact hP⟩, hS.F ht⟩) hS.2.2 dX13_pointsByText_156
        · --42 not
          have t30 : v36_8.toInt < (xi (E 0) 8).toInt := ti_nle c6
          have i31 : 0 ≤ v36_8.toInt ∧ v36_8.toInt ≤ 15 := iv_lt_l t30 hv36_8 i5 (by decide)
          have i32 : 1 ≤ (xi (E 0) 8).toInt ∧ (xi (E 0) 8).toInt ≤ 16 := iv_lt_r t30 hv36_8 i5 (by decide)
          refine lv_iload hx hb dX13_pointsByText_45 (lv_at hl 2 rfl) ?_
          refine lv_aload_n hx hb dX13_pointsByText_47 rfl (lv_at hl 5 rfl) ?_
          refine lv_iload_n hx hb dX13_pointsByText_48 rfl (lv_at hl 6 rfl) ?_
          refine lv_iload hx hb dX13_pointsByText_49 (lv_at hl 0 rfl) ?_
          refine lv_iload_n hx hb dX13_pointsByText_51 rfl (lv_at hl 8 rfl) ?_
          refine th_ri (va_runV (As := [.int a0, .int v36_8, .int a2]) (rest := [.int v36_6]) ⟨hx, hb, hml, hown, hts⟩ (q_isEntered l dC dI cT ad E25_ H.size a0 v36_8 a2 hI hh0 i31) (cwV 3 hts (gi_V (in_24 _ (zs16 (zs16 (zs1 (zs1 (zs1 (zs0))))))) (in_24 _ (zs16 (zs16 (zs4 (zs0))))) (in_24 _ (zs16 (zs16 (zs4 (zs1 (zs0)))))) (in_24 _ (zs4 (zs4 (zs4 (zs1 (zs1 (zs1 (zs0)))))))) (in_24 _ (zs16 (zs16 (zs4 (zs1 (zs1 (zs0)))))))) rfl rfl rfl ⟨rfl, hz_yX13_isEntered_3⟩ ⟨Nat.le_of_ble_eq_true rfl, Nat.le_of_ble_eq_true rfl⟩) ⟨HW_bl, va_recv hK hP (ci := 14) (q0 := 0) rfl (hI.ob 0 (Nat.le_of_ble_eq_true rfl) rfl), (HW_wi hP hK (WX_D hD) hS hA hEV)⟩ rfl rfl hl.1 rfl (lv_room (Nat.le_of_ble_eq_true rfl)) dX13_pointsByText_52 ⟨Nat.le_of_ble_eq_true rfl, Nat.le_of_ble_eq_true rfl⟩) hS hP (fun r33 H locs hw hP hS => ?_)
          rcases hw with hw | hw
          · -- isEntered, case 0
            obtain ⟨rfl, f34⟩ := hw
            try rw [hKp.ef 21 (fun _ => rfl)] at f34
            refine lv_if_eq (tgt := 62) hx hb dX13_pointsByText_55 (by decide) (fun c35 => ?_) (fun c35 => ?_)
            · --55 taken
              exact absurd c35 (by decide)
            · --55 not
              refine lv_iconst (v := 1) hx hb dX13_pointsByText_58 (by decide) ?_
              refine lv_goto (tgt := 63) hx hb dX13_pointsByText_59 (by decide) ?_
              refine lv_iadd hx hb dX13_pointsByText_63 ?_
              refine lv_topi (fun y36 ey36 => ?_)
              refine lv_istore (lv' := [(6, .int y36), (8, .int v36_8), (7, .int v36_7), (5, .int s25_0), (4, .int r1), (0, .ref (ad 0)), (1, .int a0), (2, .int a1), (3, .int a2)]) hx hb dX13_pointsByText_64 hl (by decide) rfl (fun ls hl => ?_)
              refine lv_iload hx hb dX13_pointsByText_66 (lv_at hl 2 rfl) ?_
              refine lv_aload_n hx hb dX13_pointsByText_68 rfl (lv_at hl 5 rfl) ?_
              refine lv_iload_n hx hb dX13_pointsByText_69 rfl (lv_at hl 6 rfl) ?_
              refine lv_iload hx hb dX13_pointsByText_70 (lv_at hl 1 rfl) ?_
              refine lv_iload_n hx hb dX13_pointsByText_72 rfl (lv_at hl 8 rfl) ?_
              refine th_ri (va_runV (As := [.int a0, .int v36_8, .int a2]) (rest := [.int v36_7]) ⟨hx, hb, hml, hown, hts⟩ (q_codeOf l dC dI cT ad E25_ H.size a0 v36_8 a2 hI hh0 i31) (cwV 3 hts (gi_V (in_27 _ (zs16 (zs16 (zs4 (zs0))))) (in_27 _ (zs16 (zs16 (zs4 (zs1 (zs0)))))) (in_27 _ (zs16 (zs16 (zs4 (zs1 (zs1 (zs0))))))) (in_24 _ (zs4 (zs4 (zs4 (zs1 (zs1 (zs1 (zs0)))))))) (in_27 _ (zs16 (zs16 (zs4 (zs1 (zs1 (zs1 (zs0))))))))) rfl rfl rfl ⟨rfl, hz_yX13_codeOf_3⟩ ⟨Nat.le_of_ble_eq_true rfl, Nat.le_of_ble_eq_true rfl⟩) ⟨HW_bl, va_recv hK hP (ci := 14) (q0 := 0) rfl (hI.ob 0 (Nat.le_of_ble_eq_true rfl) rfl), (HW_wi hP hK (WX_D hD) hS hA hEV)⟩ rfl rfl hl.1 rfl (lv_room (Nat.le_of_ble_eq_true rfl)) dX13_pointsByText_73 ⟨Nat.le_of_ble_eq_true rfl, Nat.le_of_ble_eq_true rfl⟩) hS hP (fun r37 H locs hw hP hS => ?_)
              obtain ⟨f38, f39⟩ := hw
              try rw [hKp.ei 0 47 rfl] at f39
              try rw [hKp.ef 24 (fun _ => rfl)] at f39
              try rw [hKp.ef 25 (fun _ => rfl)] at f39
              try rw [hKp.ef 28 (fun _ => rfl)] at f39
              refine lv_if_ne (tgt := 83) hx hb dX13_pointsByText_76 (by decide) (fun c40 => ?_) (fun c40 => ?_)
              · --76 taken
                have t41 : ¬ r37.toInt = 0 := ti_ne c40
                have i42 : 1 ≤ r37.toInt ∧ r37.toInt ≤ 5 := iv_ne_l t41 f38 (il_ 0)
                refine lv_iconst (v := 0) hx hb dX13_pointsByText_83 (by decide) ?_
                refine lv_iadd hx hb dX13_pointsByText_84 ?_
                refine lv_topi (fun y43 ey43 => ?_)
                obtain ⟨ty43, iy43⟩ := ti_add (e := (-2147483648)) (f := 2147483647) (iv_all _) ln_0 ey43 (by decide)
                have ty43 : y43.toInt = v36_7.toInt + 0 := ty43
                have iy43 : -2147483648 ≤ y43.toInt ∧ y43.toInt ≤ 2147483647 := iy43
                refine lv_istore (lv' := [(7, .int y43), (6, .int y36), (8, .int v36_8), (5, .int s25_0), (4, .int r1), (0, .ref (ad 0)), (1, .int a0), (2, .int a1), (3, .int a2)]) hx hb dX13_pointsByText_85 hl (by decide) rfl (fun ls hl => ?_)
                obtain ⟨y44, ey44⟩ : ∃ y : Int32, y = v36_8 + (1 : Int32) := ⟨_, rfl⟩
                obtain ⟨ty44, iy44⟩ := ti_add (e := 1) (f := 16) i31 ln_1 ey44 (by decide)
                have ty44 : y44.toInt = v36_8.toInt + 1 := ty44
                have iy44 : 1 ≤ y44.toInt ∧ y44.toInt ≤ 16 := iy44
                refine lv_iinc (v := y44) (lv' := [(8, .int y44), (7, .int y43), (6, .int y36), (5, .int s25_0), (4, .int r1), (0, .ref (ad 0)), (1, .int a0), (2, .int a1), (3, .int a2)]) hx hb dX13_pointsByText_87 hl (k := 2) rfl (by rw [ey44]; rfl) (by decide) rfl (fun ls hl => ?_)
                refine lv_goto (tgt := 36) hx hb dX13_pointsByText_90 (by decide) ?_
                exact ih36 y44 y43 y36 _ _ _ (iv_w iy44 (by decide)) (by first | exact ms_su hx36_0 ty44 (by decide) | omega) hP hS (lv_sub hl [0, 1, 2, 3, 4, 5, 6, 7, 8] rfl)
              · --76 not
                have t45 : r37.toInt = 0 := ti_eq c40
                have i46 : 0 ≤ r37.toInt ∧ r37.toInt ≤ 0 := iv_eqi t45 f38 (il_ 0) (by decide)
                refine lv_iconst (v := 1) hx hb dX13_pointsByText_79 (by decide) ?_
                refine lv_goto (tgt := 84) hx hb dX13_pointsByText_80 (by decide) ?_
                refine lv_iadd hx hb dX13_pointsByText_84 ?_
                refine lv_topi (fun y47 ey47 => ?_)
                refine lv_istore (lv' := [(7, .int y47), (6, .int y36), (8, .int v36_8), (5, .int s25_0), (4, .int r1), (0, .ref (ad 0)), (1, .int a0), (2, .int a1), (3, .int a2)]) hx hb dX13_pointsByText_85 hl (by decide) rfl (fun ls hl => ?_)
                obtain ⟨y48, ey48⟩ : ∃ y : Int32, y = v36_8 + (1 : Int32) := ⟨_, rfl⟩
                obtain ⟨ty48, iy48⟩ := ti_add (e := 1) (f := 16) i31 ln_1 ey48 (by decide)
                have ty48 : y48.toInt = v36_8.toInt + 1 := ty48
                have iy48 : 1 ≤ y48.toInt ∧ y48.toInt ≤ 16 := iy48
                refine lv_iinc (v := y48) (lv' := [(8, .int y48), (7, .int y47), (6, .int y36), (5, .int s25_0), (4, .int r1), (0, .ref (ad 0)), (1, .int a0), (2, .int a1), (3, .int a2)]) hx hb dX13_pointsByText_87 hl (k := 2) rfl (by rw [ey48]; rfl) (by decide) rfl (fun ls hl => ?_)
                refine lv_goto (tgt := 36) hx hb dX13_pointsByText_90 (by decide) ?_
                exact ih36 y48 y47 y36 _ _ _ (iv_w iy48 (by decide)) (by first | exact ms_su hx36_0 ty48 (by decide) | omega) hP hS (lv_sub hl [0, 1, 2, 3, 4, 5, 6, 7, 8] rfl)
          · -- isEntered, case 1
            obtain ⟨rfl, f49⟩ := hw
            try rw [hKp.ef 21 (fun _ => rfl)] at f49
            refine lv_if_eq (tgt := 62) hx hb dX13_pointsByText_55 (by decide) (fun c50 => ?_) (fun c50 => ?_)
            · --55 taken
              refine lv_iconst (v := 0) hx hb dX13_pointsByText_62 (by decide) ?_
              refine lv_iadd hx hb dX13_pointsByText_63 ?_
              refine lv_topi (fun y51 ey51 => ?_)
              obtain ⟨ty51, iy51⟩ := ti_add (e := (-2147483648)) (f := 2147483647) (iv_all _) ln_0 ey51 (by decide)
              have ty51 : y51.toInt = v36_6.toInt + 0 := ty51
              have iy51 : -2147483648 ≤ y51.toInt ∧ y51.toInt ≤ 2147483647 := iy51
              refine lv_istore (lv' := [(6, .int y51), (8, .int v36_8), (7, .int v36_7), (5, .int s25_0), (4, .int r1), (0, .ref (ad 0)), (1, .int a0), (2, .int a1), (3, .int a2)]) hx hb dX13_pointsByText_64 hl (by decide) rfl (fun ls hl => ?_)
              refine lv_iload hx hb dX13_pointsByText_66 (lv_at hl 2 rfl) ?_
              refine lv_aload_n hx hb dX13_pointsByText_68 rfl (lv_at hl 5 rfl) ?_
              refine lv_iload_n hx hb dX13_pointsByText_69 rfl (lv_at hl 6 rfl) ?_
              refine lv_iload hx hb dX13_pointsByText_70 (lv_at hl 1 rfl) ?_
              refine lv_iload_n hx hb dX13_pointsByText_72 rfl (lv_at hl 8 rfl) ?_
              refine th_ri (va_runV (As := [.int a0, .int v36_8, .int a2]) (rest := [.int v36_7]) ⟨hx, hb, hml, hown, hts⟩ (q_codeOf l dC dI cT ad E25_ H.size a0 v36_8 a2 hI hh0 i31) (cwV 3 hts (gi_V (in_27 _ (zs16 (zs16 (zs4 (zs0))))) (in_27 _ (zs16 (zs16 (zs4 (zs1 (zs0)))))) (in_27 _ (zs16 (zs16 (zs4 (zs1 (zs1 (zs0))))))) (in_24 _ (zs4 (zs4 (zs4 (zs1 (zs1 (zs1 (zs0)))))))) (in_27 _ (zs16 (zs16 (zs4 (zs1 (zs1 (zs1 (zs0))))))))) rfl rfl rfl ⟨rfl, hz_yX13_codeOf_3⟩ ⟨Nat.le_of_ble_eq_true rfl, Nat.le_of_ble_eq_true rfl⟩) ⟨HW_bl, va_recv hK hP (ci := 14) (q0 := 0) rfl (hI.ob 0 (Nat.le_of_ble_eq_true rfl) rfl), (HW_wi hP hK (WX_D hD) hS hA hEV)⟩ rfl rfl hl.1 rfl (lv_room (Nat.le_of_ble_eq_true rfl)) dX13_pointsByText_73 ⟨Nat.le_of_ble_eq_true rfl, Nat.le_of_ble_eq_true rfl⟩) hS hP (fun r52 H locs hw hP hS => ?_)
              obtain ⟨f53, f54⟩ := hw
              try rw [hKp.ei 0 47 rfl] at f54
              try rw [hKp.ef 24 (fun _ => rfl)] at f54
              try rw [hKp.ef 25 (fun _ => rfl)] at f54
              try rw [hKp.ef 28 (fun _ => rfl)] at f54
              refine lv_if_ne (tgt := 83) hx hb dX13_pointsByText_76 (by decide) (fun c55 => ?_) (fun c55 => ?_)
              · --76 taken
                have t56 : ¬ r52.toInt = 0 := ti_ne c55
                have i57 : 1 ≤ r52.toInt ∧ r52.toInt ≤ 5 := iv_ne_l t56 f53 (il_ 0)
                refine lv_iconst (v := 0) hx hb dX13_pointsByText_83 (by decide) ?_
                refine lv_iadd hx hb dX13_pointsByText_84 ?_
                refine lv_topi (fun y58 ey58 => ?_)
                obtain ⟨ty58, iy58⟩ := ti_add (e := (-2147483648)) (f := 2147483647) (iv_all _) ln_0 ey58 (by decide)
                have ty58 : y58.toInt = v36_7.toInt + 0 := ty58
                have iy58 : -2147483648 ≤ y58.toInt ∧ y58.toInt ≤ 2147483647 := iy58
                refine lv_istore (lv' := [(7, .int y58), (6, .int y51), (8, .int v36_8), (5, .int s25_0), (4, .int r1), (0, .ref (ad 0)), (1, .int a0), (2, .int a1), (3, .int a2)]) hx hb dX13_pointsByText_85 hl (by decide) rfl (fun ls hl => ?_)
                obtain ⟨y59, ey59⟩ : ∃ y : Int32, y = v36_8 + (1 : Int32) := ⟨_, rfl⟩
                obtain ⟨ty59, iy59⟩ := ti_add (e := 1) (f := 16) i31 ln_1 ey59 (by decide)
                have ty59 : y59.toInt = v36_8.toInt + 1 := ty59
                have iy59 : 1 ≤ y59.toInt ∧ y59.toInt ≤ 16 := iy59
                refine lv_iinc (v := y59) (lv' := [(8, .int y59), (7, .int y58), (6, .int y51), (5, .int s25_0), (4, .int r1), (0, .ref (ad 0)), (1, .int a0), (2, .int a1), (3, .int a2)]) hx hb dX13_pointsByText_87 hl (k := 2) rfl (by rw [ey59]; rfl) (by decide) rfl (fun ls hl => ?_)
                refine lv_goto (tgt := 36) hx hb dX13_pointsByText_90 (by decide) ?_
                exact ih36 y59 y58 y51 _ _ _ (iv_w iy59 (by decide)) (by first | exact ms_su hx36_0 ty59 (by decide) | omega) hP hS (lv_sub hl [0, 1, 2, 3, 4, 5, 6, 7, 8] rfl)
              · --76 not
                have t60 : r52.toInt = 0 := ti_eq c55
                have i61 : 0 ≤ r52.toInt ∧ r52.toInt ≤ 0 := iv_eqi t60 f53 (il_ 0) (by decide)
                refine lv_iconst (v := 1) hx hb dX13_pointsByText_79 (by decide) ?_
                refine lv_goto (tgt := 84) hx hb dX13_pointsByText_80 (by decide) ?_
                refine lv_iadd hx hb dX13_pointsByText_84 ?_
                refine lv_topi (fun y62 ey62 => ?_)
                refine lv_istore (lv' := [(7, .int y62), (6, .int y51), (8, .int v36_8), (5, .int s25_0), (4, .int r1), (0, .ref (ad 0)), (1, .int a0), (2, .int a1), (3, .int a2)]) hx hb dX13_pointsByText_85 hl (by decide) rfl (fun ls hl => ?_)
                obtain ⟨y63, ey63⟩ : ∃ y : Int32, y = v36_8 + (1 : Int32) := ⟨_, rfl⟩
                obtain ⟨ty63, iy63⟩ := ti_add (e := 1) (f := 16) i31 ln_1 ey63 (by decide)
                have ty63 : y63.toInt = v36_8.toInt + 1 := ty63
                have iy63 : 1 ≤ y63.toInt ∧ y63.toInt ≤ 16 := iy63
                refine lv_iinc (v := y63) (lv' := [(8, .int y63), (7, .int y62), (6, .int y51), (5, .int s25_0), (4, .int r1), (0, .ref (ad 0)), (1, .int a0), (2, .int a1), (3, .int a2)]) hx hb dX13_pointsByText_87 hl (k := 2) rfl (by rw [ey63]; rfl) (by decide) rfl (fun ls hl => ?_)
                refine lv_goto (tgt := 36) hx hb dX13_pointsByText_90 (by decide) ?_
                exact ih36 y63 y62 y51 _ _ _ (iv_w iy63 (by decide)) (by first | exact ms_su hx36_0 ty63 (by decide) | omega) hP hS (lv_sub hl [0, 1, 2, 3, 4, 5, 6, 7, 8] rfl)
            · --55 not
              exact absurd c50 (by decide)
    exact hL36 (17) (0 : Int32) (0 : Int32) (0 : Int32) _ _ _ (iv_w ln_0 (by decide)) (by have h9 := ln_0; first | exact ms_bu h9.1 (by decide) | omega) hP hS (lv_sub hl [0, 1, 2, 3, 4, 5, 6, 7, 8] rfl)
  refine lv_if_ne (tgt := 24) hx hb dX13_pointsByText_11 (by decide) (fun c64 => ?_) (fun c64 => ?_)
  · --11 taken
    have t65 : ¬ r1.toInt = 0 := ti_ne c64
    have i66 : 1 ≤ r1.toInt ∧ r1.toInt ≤ 5 := iv_ne_l t65 f2 (il_ 0)
    refine lv_iconst (v := 0) hx hb dX13_pointsByText_24 (by decide) ?_
    exact hJ25 (0 : Int32) E _ _ _ hI hKp hP hS (lv_sub hl [0, 1, 2, 3, 4] rfl)
  · --11 not
    have t67 : r1.toInt = 0 := ti_eq c64
    have i68 : 0 ≤ r1.toInt ∧ r1.toInt ≤ 0 := iv_eqi t67 f2 (il_ 0) (by decide)
    refine lv_aload_n hx hb dX13_pointsByText_14 rfl (lv_at hl 1 rfl) ?_
    refine lv_iload_n hx hb dX13_pointsByText_15 rfl (lv_at hl 2 rfl) ?_
    refine lv_iload_n hx hb dX13_pointsByText_16 rfl (lv_at hl 3 rfl) ?_
    refine lv_iload_n hx hb dX13_pointsByText_17 rfl (lv_at hl 4 rfl) ?_
    refine th_i (va_runV (As := [.int a0, .int a1, .int a2]) (rest := []) ⟨hx, hb, hml, hown, hts⟩ (q_placeOf l dC dI cT ad E H.size a0 a1 a2 hI hh0 (by exact f3 t67)) (cwV 3 hts (gi_V (in_32 _ (zs16 (zs4 (zs4 (zs4 (zs1 (zs1 (zs1 (zs0))))))))) (in_32 _ (zs16 (zs16 (zs0)))) (in_32 _ (zs16 (zs16 (zs1 (zs0))))) (in_24 _ (zs4 (zs4 (zs4 (zs1 (zs1 (zs1 (zs0)))))))) (in_32 _ (zs16 (zs4 (zs4 (zs4 (zs1 (zs0)))))))) rfl rfl rfl ⟨rfl, hz_yX13_placeOf_3⟩ ⟨Nat.le_of_ble_eq_true rfl, Nat.le_of_ble_eq_true rfl⟩) ⟨HW_bl, va_recv hK hP (ci := 14) (q0 := 0) rfl (hI.ob 0 (Nat.le_of_ble_eq_true rfl) rfl), (HW_wi hP hK (WX_D hD) hS hA hEV)⟩ rfl rfl hl.1 rfl (lv_room (Nat.le_of_ble_eq_true rfl)) dX13_pointsByText_18 ⟨Nat.le_of_ble_eq_true rfl, Nat.le_of_ble_eq_true rfl⟩) (WX_D hD) hS hA (fun r69 E70 H locs hw hP hS => ?_)
    obtain ⟨hI, kq71, hw⟩ := hw
    have hKb := hKp
    have hKp := hKp.tr kq71 (wl_sub rfl rfl)
    refine lv_goto (tgt := 25) hx hb dX13_pointsByText_21 (by decide) ?_
    exact hJ25 r69 E70 _ _ _ hI hKp hP hS (lv_sub hl [0, 1, 2, 3, 4] rfl)
def v_pointsOf : List Cond := .code yX13_pointsOf cX13_pointsOf 7 (some .int) :: vA
abbrev rm_pointsOf : Room := { frames := 75, cells := 0, slots := 0, locals := 3000 }
def w_pointsOf : Nat → Nat → Bool := wl [12] [(0, 18), (0, 19), (0, 20), (0, 21), (0, 22), (0, 23), (0, 24), (0, 25), (0, 26)]
set_option maxHeartbeats 4000000 in
set_option maxRecDepth 100000 in
theorem q_pointsOf (l : Launch) (dC : Nat → ClassId) (dI : Nat → Nat → Nat) (cT : Nat → ClassId) (ad : Nat → Nat) (E : Nat → va_E) (sz : Nat) (a0 : Int32) (a1 : Int32) (a2 : Int32) (hI0 : IX cT shM spM 72 ad E) (hh0 : 0 ≤ a0.toInt ∧ a0.toInt ≤ 19) (hh1 : 0 ≤ a1.toInt ∧ a1.toInt ≤ 15) : Met l yX13_pointsOf v_pointsOf rm_pointsOf (va_Pc [.ref (ad 0), .int a0, .int a1, .int a2] (HW dC dI (TYM cT) 72 ad E sz)) (va_Qi (S := Nat → va_E) (fun r u => IX cT shM spM 72 ad u ∧ Kp w_pointsOf E u ∧ (True)) (HB dC dI 72 ad) (va_A (WX 72 ad E) sz)) 0 0 (va_A (WX 72 ad E) sz) := by
  refine Met.ofW (cc := cX13_pointsOf) (maxL := 7) (ret := (some .int)) (by decide) rfl ?_
  intro p e s m args below meth c s₁ B hml hv
  obtain ⟨hargs, hsz, hP, hK, hD0, hEV⟩ := hv
  subst hsz
  have hx := B.exec
  have hb := B.bytes
  have hr := B.returns
  have hts := atoms_spec (ws := v_pointsOf) B.pre
  have hown : s.vm.findClass RX13 = some m.cls := findClass_of_methodNamed B.named
  have hlocks := B.notSynchronized
  have hinX13 : ∀ w ∈ u_ws RX13 TX13 97, w ∈ v_pointsOf := fun w h => vA_in _ w (in_X13 w h)
  generalize hAe : va_A (WX 72 ad E) s.heap.size = A at hEV ⊢
  have hA : ∀ q : Nat, s.heap.size ≤ q → A q := fun q h => by rw [← hAe]; exact Or.inr h
  have hD : va_D A (WX 72 ad E) := by rw [← hAe]; exact hD0.self
  have hS : va_S A s.heap s.heap [] := va_S.rf
  have hI := hI0
  have hKp : Kp w_pointsOf E E := Kp.rf
  have hl := lv_entry ([.ref (ad 0), .int a0, .int a1, .int a2]) (n := 7) (Nat.le_of_ble_eq_true rfl)
  obtain ⟨Q, hQ⟩ : ∃ Q, Q = MQ below (va_Qi (S := Nat → va_E) (fun r u => IX cT shM spM 72 ad u ∧ Kp w_pointsOf E u ∧ (True)) (HB dC dI 72 ad) (A)) args s 0 0 (A) := ⟨_, rfl⟩
  rw [← hQ, show entryFrame m args 7 = _ from (congrArg (fun z => entryFrame m z 7) hargs).trans (lg_entry_eq _ _ _)]
  generalize (lg_sl ([.ref (ad 0), .int a0, .int a1, .int a2]) ++ List.replicate (7 - (lg_sl ([.ref (ad 0), .int a0, .int a1, .int a2])).length) Slot.unset).toArray = ls at hl ⊢
  have hl : lv_has ls 7 [(0, .ref (ad 0)), (1, .int a0), (2, .int a1), (3, .int a2)] := hl
  refine lv_aload_n hx hb dX13_pointsOf_0 rfl (lv_at hl 0 rfl) ?_
  refine lv_iload_n hx hb dX13_pointsOf_1 rfl (lv_at hl 1 rfl) ?_
  refine lv_iload_n hx hb dX13_pointsOf_2 rfl (lv_at hl 2 rfl) ?_
  refine lv_iload_n hx hb dX13_pointsOf_3 rfl (lv_at hl 3 rfl) ?_
  refine th_ri (va_runV (As := [.int a0, .int a1, .int a2]) (rest := []) ⟨hx, hb, hml, hown, hts⟩ (q_hasRedress l dC dI cT ad E s.heap.size a0 a1 a2 hI) (cwV 3 hts (gi_V (in_32 _ (zs16 (zs16 (zs4 (zs1 (zs1 (zs1 (zs0)))))))) (in_33 _ zs0) (in_33 _ (zs1 (zs0))) (in_24 _ (zs4 (zs4 (zs4 (zs1 (zs1 (zs1 (zs0)))))))) (in_32 _ zs0)) rfl rfl rfl ⟨rfl, hz_yX13_hasRedress_3⟩ ⟨Nat.le_of_ble_eq_true rfl, Nat.le_of_ble_eq_true rfl⟩) ⟨HW_bl, va_recv hK hP (ci := 14) (q0 := 0) rfl (hI.ob 0 (Nat.le_of_ble_eq_true rfl) rfl), (HW_wi hP hK (WX_D hD) hS hA hEV)⟩ rfl rfl hl.1 rfl (lv_room (Nat.le_of_ble_eq_true rfl)) dX13_pointsOf_4 ⟨Nat.le_of_ble_eq_true rfl, Nat.le_of_ble_eq_true rfl⟩) hS hP (fun r1 H locs hw hP hS => ?_)
  rcases hw with hw | hw
  · -- hasRedress, case 0
    obtain rfl := hw
    refine lv_if_ne (tgt := 18) hx hb dX13_pointsOf_7 (by decide) (fun c2 => ?_) (fun c2 => ?_)
    · --7 taken
      refine lv_iconst (v := 0) hx hb dX13_pointsOf_18 (by decide) ?_
      refine lv_istore (lv' := [(4, .int 0), (0, .ref (ad 0)), (1, .int a0), (2, .int a1), (3, .int a2)]) hx hb dX13_pointsOf_19 hl (by decide) rfl (fun ls hl => ?_)
      refine lv_iconst (v := 0) hx hb dX13_pointsOf_21 (by decide) ?_
      refine lv_istore (lv' := [(5, .int 0), (4, .int 0), (0, .ref (ad 0)), (1, .int a0), (2, .int a1), (3, .int a2)]) hx hb dX13_pointsOf_22 hl (by decide) rfl (fun ls hl => ?_)
      refine lv_iconst (v := 0) hx hb dX13_pointsOf_24 (by decide) ?_
      refine lv_istore (lv' := [(6, .int 0), (5, .int 0), (4, .int 0), (0, .ref (ad 0)), (1, .int a0), (2, .int a1), (3, .int a2)]) hx hb dX13_pointsOf_25 hl (by decide) rfl (fun ls hl => ?_)
      have hL27 : ∀ d : Nat, ∀ (v27_6 : Int32) (v27_5 : Int32) (v27_4 : Int32) (E27_ : Nat → va_E) (H : Heap) (locs : List Loc) (ls : Array Slot), 0 ≤ v27_6.toInt ∧ v27_6.toInt ≤ 20 → 20 - v27_6.toInt < (d : Int) → IX cT shM spM 72 ad E27_ → Kp w_pointsOf E E27_ → va_P (dC, dI) vwCl (WX 72 ad E27_) H → va_S A s.heap H locs → lv_has ls 7 [(6, .int v27_6), (5, .int v27_5), (4, .int v27_4), (0, .ref (ad 0)), (1, .int a0), (2, .int a1), (3, .int a2)] → W p l e (headSpec v_pointsOf rm_pointsOf).room s m args below meth c H locs 0 0 Q (F0 m 27 ls []) := by
        intro d
        induction d with
        | zero =>
          intro v27_6 v27_5 v27_4 E27_ H locs ls hv27_6 hx27_0 hI hKp hP hS hl
          exact absurd hx27_0 (by first | exact ms_zu hv27_6.2 | omega)
        | succ d ih27 =>
          intro v27_6 v27_5 v27_4 E27_ H locs ls hv27_6 hx27_0 hI hKp hP hS hl
          refine lv_iload hx hb dX13_pointsOf_27 (lv_at hl 0 rfl) ?_
          refine lv_aload_n hx hb dX13_pointsOf_29 rfl (lv_at hl 3 rfl) ?_
          have i3 : 0 ≤ (xi (E 0) 46).toInt ∧ (xi (E 0) 46).toInt ≤ 20 := hI0.iv 0 (Nat.le_of_ble_eq_true rfl) rfl (Nat.le_of_ble_eq_true rfl) rfl
          refine th_get (ci := 14) (C := RX13) (T := TX13) (N := 97) (v := .int (xi (E 0) 46)) hx hb hts hinX13 hown hK hP hI 0 (Nat.le_of_ble_eq_true rfl) rfl rfl 46 (Nat.le_of_ble_eq_true rfl) (hts _ (vA_in _ _ (in_24 _ (zs16 (zs1 (zs0)))))) (fun _ h9 => h9) (th_v0 hKp hI0 0 (Nat.le_of_ble_eq_true rfl) rfl (Nat.le_of_ble_eq_true rfl) rfl rfl) dX13_pointsOf_30 ?_
          refine lv_icmp_ge (tgt := 89) hx hb dX13_pointsOf_33 (by decide) (fun c4 => ?_) (fun c4 => ?_)
          · --33 taken
            have t5 : (xi (E 0) 46).toInt ≤ v27_6.toInt := ti_le c4
            refine lv_iload hx hb dX13_pointsOf_89 (lv_at hl 1 rfl) ?_
            refine lv_if_ne (tgt := 98) hx hb dX13_pointsOf_91 (by decide) (fun c6 => ?_) (fun c6 => ?_)
            · --91 taken
              have t7 : ¬ v27_5.toInt = 0 := ti_ne c6
              refine lv_iload hx hb dX13_pointsOf_98 (lv_at hl 2 rfl) ?_
              refine lv_iload hx hb dX13_pointsOf_100 (lv_at hl 1 rfl) ?_
              refine lv_idiv hx hb dX13_pointsOf_102 (fun h9 => t7 (by rw [h9]; rfl)) ?_
              refine lv_topi (fun y8 ey8 => ?_)
              rw [hQ]
              exact W.iret (v := y8) hx hb hr (fun t ht hW => ⟨⟨y8, E27_, rfl, ⟨hI, hKp, trivial⟩, by show va_P (dC, dI) vwCl (WX 72 ad E27_) t.heap; rw [ht]; exact hP⟩, hS.F ht⟩) hS.2.2 dX13_pointsOf_103
            · --91 not
              have t9 : v27_5.toInt = 0 := ti_eq c6
              have i10 : 0 ≤ v27_5.toInt ∧ v27_5.toInt ≤ 0 := iv_eqi t9 (iv_all _) (il_ 0) (by decide)
              refine lv_iconst (v := 0) hx hb dX13_pointsOf_94 (by decide) ?_
              refine lv_goto (tgt := 103) hx hb dX13_pointsOf_95 (by decide) ?_
              rw [hQ]
              exact W.iret (v := 0) hx hb hr (fun t ht hW => ⟨⟨0, E27_, rfl, ⟨hI, hKp, trivial⟩, by show va_P (dC, dI) vwCl (WX 72 ad E27_) t.heap; rw [ht]; exact hP⟩, hS.F ht⟩) hS.2.2 dX13_pointsOf_103
          · --33 not
            have t11 : v27_6.toInt < (xi (E 0) 46).toInt := ti_nle c4
            have i12 : 0 ≤ v27_6.toInt ∧ v27_6.toInt ≤ 19 := iv_lt_l t11 hv27_6 i3 (by decide)
            have i13 : 1 ≤ (xi (E 0) 46).toInt ∧ (xi (E 0) 46).toInt ≤ 20 := iv_lt_r t11 hv27_6 i3 (by decide)
            refine lv_iload hx hb dX13_pointsOf_36 (lv_at hl 0 rfl) ?_
            refine lv_iload_n hx hb dX13_pointsOf_38 rfl (lv_at hl 4 rfl) ?_
            refine lv_icmp_eq (tgt := 83) hx hb dX13_pointsOf_39 (by decide) (fun c14 => ?_) (fun c14 => ?_)
            · --39 taken
              have t15 : v27_6.toInt = a0.toInt := ti_eq c14
              obtain ⟨y16, ey16⟩ : ∃ y : Int32, y = v27_6 + (1 : Int32) := ⟨_, rfl⟩
              obtain ⟨ty16, iy16⟩ := ti_add (e := 1) (f := 20) i12 ln_1 ey16 (by decide)
              have ty16 : y16.toInt = v27_6.toInt + 1 := ty16
              have iy16 : 1 ≤ y16.toInt ∧ y16.toInt ≤ 20 := iy16
              refine lv_iinc (v := y16) (lv' := [(6, .int y16), (5, .int v27_5), (4, .int v27_4), (0, .ref (ad 0)), (1, .int a0), (2, .int a1), (3, .int a2)]) hx hb dX13_pointsOf_83 hl (k := 0) rfl (by rw [ey16]; rfl) (by decide) rfl (fun ls hl => ?_)
              refine lv_goto (tgt := 27) hx hb dX13_pointsOf_86 (by decide) ?_
              exact ih27 y16 v27_5 v27_4 E27_ _ _ _ (iv_w iy16 (by decide)) (by first | exact ms_su hx27_0 ty16 (by decide) | omega) hI hKp hP hS (lv_sub hl [0, 1, 2, 3, 4, 5, 6] rfl)
            · --39 not
              have t17 : ¬ v27_6.toInt = a0.toInt := ti_ne c14
              refine lv_aload_n hx hb dX13_pointsOf_42 rfl (lv_at hl 3 rfl) ?_
              refine th_get (ci := 14) (C := RX13) (T := TX13) (N := 97) (v := .ref (ad 20)) hx hb hts hinX13 hown hK hP hI 0 (Nat.le_of_ble_eq_true rfl) rfl rfl 34 (Nat.le_of_ble_eq_true rfl) (hts _ (vA_in _ _ (in_24 _ (zs4 (zs4 (zs1 (zs1 (zs1 (zs0))))))))) (fun _ h9 => h9) (hI.fr 0 (Nat.le_of_ble_eq_true rfl) rfl (Nat.le_of_ble_eq_true rfl) 20 rfl) dX13_pointsOf_43 ?_
              refine lv_iload hx hb dX13_pointsOf_46 (lv_at hl 0 rfl) ?_
              have n19 : vp_in v27_6 20 := (iv_in (n := 20) i12 (by decide))
              refine th_iald hx hb hK hP hI 20 (Nat.le_of_ble_eq_true rfl) rfl rfl n19 dX13_pointsOf_48 (fun y18 ey18 => ?_)
              have iy18 : 0 ≤ y18.toInt ∧ y18.toInt ≤ 400 := hI.el 20 (Nat.le_of_ble_eq_true rfl) rfl n19 (fun _ => rfl) ey18
              have ey18 := ey18.trans (hKp.ei 20 _ rfl)
              refine lv_iload_n hx hb dX13_pointsOf_49 rfl (lv_at hl 6 rfl) ?_
              refine lv_icmp_gt (tgt := 83) hx hb dX13_pointsOf_50 (by decide) (fun c20 => ?_) (fun c20 => ?_)
              · --50 taken
                have t21 : a2.toInt < y18.toInt := ti_lt c20
                have i22 : -2147483648 ≤ a2.toInt ∧ a2.toInt ≤ 399 := iv_lt_l t21 (iv_all _) iy18 (by decide)
                obtain ⟨y23, ey23⟩ : ∃ y : Int32, y = v27_6 + (1 : Int32) := ⟨_, rfl⟩
                obtain ⟨ty23, iy23⟩ := ti_add (e := 1) (f := 20) i12 ln_1 ey23 (by decide)
                have ty23 : y23.toInt = v27_6.toInt + 1 := ty23
                have iy23 : 1 ≤ y23.toInt ∧ y23.toInt ≤ 20 := iy23
                refine lv_iinc (v := y23) (lv' := [(6, .int y23), (5, .int v27_5), (4, .int v27_4), (0, .ref (ad 0)), (1, .int a0), (2, .int a1), (3, .int a2)]) hx hb dX13_pointsOf_83 hl (k := 0) rfl (by rw [ey23]; rfl) (by decide) rfl (fun ls hl => ?_)
                refine lv_goto (tgt := 27) hx hb dX13_pointsOf_86 (by decide) ?_
                exact ih27 y23 v27_5 v27_4 E27_ _ _ _ (iv_w iy23 (by decide)) (by first | exact ms_su hx27_0 ty23 (by decide) | omega) hI hKp hP hS (lv_sub hl [0, 1, 2, 3, 4, 5, 6] rfl)
              · --50 not
                have t24 : y18.toInt ≤ a2.toInt := ti_nlt c20
                have i25 : 0 ≤ a2.toInt ∧ a2.toInt ≤ 2147483647 := iv_le_r t24 iy18 (iv_all _) (by decide)
                refine lv_aload_n hx hb dX13_pointsOf_53 rfl (lv_at hl 3 rfl) ?_
                refine lv_iload hx hb dX13_pointsOf_54 (lv_at hl 0 rfl) ?_
                refine lv_iload_n hx hb dX13_pointsOf_56 rfl (lv_at hl 5 rfl) ?_
                refine lv_iload_n hx hb dX13_pointsOf_57 rfl (lv_at hl 6 rfl) ?_
                refine th_ri (va_runV (As := [.int v27_6, .int a1, .int a2]) (rest := []) ⟨hx, hb, hml, hown, hts⟩ (q_hasRedress l dC dI cT ad E27_ H.size v27_6 a1 a2 hI) (cwV 3 hts (gi_V (in_32 _ (zs16 (zs16 (zs4 (zs1 (zs1 (zs1 (zs0)))))))) (in_33 _ zs0) (in_33 _ (zs1 (zs0))) (in_24 _ (zs4 (zs4 (zs4 (zs1 (zs1 (zs1 (zs0)))))))) (in_32 _ zs0)) rfl rfl rfl ⟨rfl, hz_yX13_hasRedress_3⟩ ⟨Nat.le_of_ble_eq_true rfl, Nat.le_of_ble_eq_true rfl⟩) ⟨HW_bl, va_recv hK hP (ci := 14) (q0 := 0) rfl (hI.ob 0 (Nat.le_of_ble_eq_true rfl) rfl), (HW_wi hP hK (WX_D hD) hS hA hEV)⟩ rfl rfl hl.1 rfl (lv_room (Nat.le_of_ble_eq_true rfl)) dX13_pointsOf_58 ⟨Nat.le_of_ble_eq_true rfl, Nat.le_of_ble_eq_true rfl⟩) hS hP (fun r26 H locs hw hP hS => ?_)
                rcases hw with hw | hw
                · -- hasRedress, case 0
                  obtain rfl := hw
                  refine lv_if_eq (tgt := 67) hx hb dX13_pointsOf_61 (by decide) (fun c27 => ?_) (fun c27 => ?_)
                  · --61 taken
                    exact absurd c27 (by decide)
                  · --61 not
                    refine lv_goto (tgt := 83) hx hb dX13_pointsOf_64 (by decide) ?_
                    obtain ⟨y28, ey28⟩ : ∃ y : Int32, y = v27_6 + (1 : Int32) := ⟨_, rfl⟩
                    obtain ⟨ty28, iy28⟩ := ti_add (e := 1) (f := 20) i12 ln_1 ey28 (by decide)
                    have ty28 : y28.toInt = v27_6.toInt + 1 := ty28
                    have iy28 : 1 ≤ y28.toInt ∧ y28.toInt ≤ 20 := iy28
                    refine lv_iinc (v := y28) (lv' := [(6, .int y28), (5, .int v27_5), (4, .int v27_4), (0, .ref (ad 0)), (1, .int a0), (2, .int a1), (3, .int a2)]) hx hb dX13_pointsOf_83 hl (k := 0) rfl (by rw [ey28]; rfl) (by decide) rfl (fun ls hl => ?_)
                    refine lv_goto (tgt := 27) hx hb dX13_pointsOf_86 (by decide) ?_
                    exact ih27 y28 v27_5 v27_4 E27_ _ _ _ (iv_w iy28 (by decide)) (by first | exact ms_su hx27_0 ty28 (by decide) | omega) hI hKp hP hS (lv_sub hl [0, 1, 2, 3, 4, 5, 6] rfl)
                · -- hasRedress, case 1
                  obtain rfl := hw
                  refine lv_if_eq (tgt := 67) hx hb dX13_pointsOf_61 (by decide) (fun c29 => ?_) (fun c29 => ?_)
                  · --61 taken
                    refine lv_iload hx hb dX13_pointsOf_67 (lv_at hl 2 rfl) ?_
                    refine lv_aload_n hx hb dX13_pointsOf_69 rfl (lv_at hl 3 rfl) ?_
                    refine lv_iload hx hb dX13_pointsOf_70 (lv_at hl 0 rfl) ?_
                    refine lv_iload_n hx hb dX13_pointsOf_72 rfl (lv_at hl 5 rfl) ?_
                    refine lv_iload_n hx hb dX13_pointsOf_73 rfl (lv_at hl 6 rfl) ?_
                    refine th_i (va_runV (As := [.int v27_6, .int a1, .int a2]) (rest := [.int v27_4]) ⟨hx, hb, hml, hown, hts⟩ (q_pointsByText l dC dI cT ad E27_ H.size v27_6 a1 a2 hI i12 hh1) (cwV 3 hts (gi_V (in_33 _ (zs1 (zs1 (zs0)))) (in_33 _ (zs1 (zs1 (zs1 (zs0))))) (in_33 _ (zs4 (zs0))) (in_24 _ (zs4 (zs4 (zs4 (zs1 (zs1 (zs1 (zs0)))))))) (in_33 _ (zs4 (zs1 (zs0))))) rfl rfl rfl ⟨rfl, hz_yX13_pointsByText_3⟩ ⟨Nat.le_of_ble_eq_true rfl, Nat.le_of_ble_eq_true rfl⟩) ⟨HW_bl, va_recv hK hP (ci := 14) (q0 := 0) rfl (hI.ob 0 (Nat.le_of_ble_eq_true rfl) rfl), (HW_wi hP hK (WX_D hD) hS hA hEV)⟩ rfl rfl hl.1 rfl (lv_room (Nat.le_of_ble_eq_true rfl)) dX13_pointsOf_74 ⟨Nat.le_of_ble_eq_true rfl, Nat.le_of_ble_eq_true rfl⟩) (WX_D hD) hS hA (fun r30 E31 H locs hw hP hS => ?_)
                    obtain ⟨hI, kq32, hw⟩ := hw
                    have hKb := hKp
                    have hKp := hKp.tr kq32 (wl_sub rfl rfl)
                    refine lv_iadd hx hb dX13_pointsOf_77 ?_
                    refine lv_topi (fun y33 ey33 => ?_)
                    refine lv_istore (lv' := [(4, .int y33), (6, .int v27_6), (5, .int v27_5), (0, .ref (ad 0)), (1, .int a0), (2, .int a1), (3, .int a2)]) hx hb dX13_pointsOf_78 hl (by decide) rfl (fun ls hl => ?_)
                    obtain ⟨y34, ey34⟩ : ∃ y : Int32, y = v27_5 + (1 : Int32) := ⟨_, rfl⟩
                    refine lv_iinc (v := y34) (lv' := [(5, .int y34), (4, .int y33), (6, .int v27_6), (0, .ref (ad 0)), (1, .int a0), (2, .int a1), (3, .int a2)]) hx hb dX13_pointsOf_80 hl (k := 2) rfl (by rw [ey34]; rfl) (by decide) rfl (fun ls hl => ?_)
                    obtain ⟨y35, ey35⟩ : ∃ y : Int32, y = v27_6 + (1 : Int32) := ⟨_, rfl⟩
                    obtain ⟨ty35, iy35⟩ := ti_add (e := 1) (f := 20) i12 ln_1 ey35 (by decide)
                    have ty35 : y35.toInt = v27_6.toInt + 1 := ty35
                    have iy35 : 1 ≤ y35.toInt ∧ y35.toInt ≤ 20 := iy35
                    refine lv_iinc (v := y35) (lv' := [(6, .int y35), (5, .int y34), (4, .int y33), (0, .ref (ad 0)), (1, .int a0), (2, .int a1), (3, .int a2)]) hx hb dX13_pointsOf_83 hl (k := 2) rfl (by rw [ey35]; rfl) (by decide) rfl (fun ls hl => ?_)
                    refine lv_goto (tgt := 27) hx hb dX13_pointsOf_86 (by decide) ?_
                    exact ih27 y35 y34 y33 E31 _ _ _ (iv_w iy35 (by decide)) (by first | exact ms_su hx27_0 ty35 (by decide) | omega) hI hKp hP hS (lv_sub hl [0, 1, 2, 3, 4, 5, 6] rfl)
                  · --61 not
                    exact absurd c29 (by decide)
      exact hL27 (21) (0 : Int32) (0 : Int32) (0 : Int32) E _ _ _ (iv_w ln_0 (by decide)) (by have h9 := ln_0; first | exact ms_bu h9.1 (by decide) | omega) hI hKp hP hS (lv_sub hl [0, 1, 2, 3, 4, 5, 6] rfl)
    · --7 not
      exact absurd c2 (by decide)
  · -- hasRedress, case 1
    obtain rfl := hw
    refine lv_if_ne (tgt := 18) hx hb dX13_pointsOf_7 (by decide) (fun c36 => ?_) (fun c36 => ?_)
    · --7 taken
      exact absurd c36 (by decide)
    · --7 not
      refine lv_aload_n hx hb dX13_pointsOf_10 rfl (lv_at hl 0 rfl) ?_
      refine lv_iload_n hx hb dX13_pointsOf_11 rfl (lv_at hl 1 rfl) ?_
      refine lv_iload_n hx hb dX13_pointsOf_12 rfl (lv_at hl 2 rfl) ?_
      refine lv_iload_n hx hb dX13_pointsOf_13 rfl (lv_at hl 3 rfl) ?_
      refine th_i (va_runV (As := [.int a0, .int a1, .int a2]) (rest := []) ⟨hx, hb, hml, hown, hts⟩ (q_pointsByText l dC dI cT ad E H.size a0 a1 a2 hI hh0 hh1) (cwV 3 hts (gi_V (in_33 _ (zs1 (zs1 (zs0)))) (in_33 _ (zs1 (zs1 (zs1 (zs0))))) (in_33 _ (zs4 (zs0))) (in_24 _ (zs4 (zs4 (zs4 (zs1 (zs1 (zs1 (zs0)))))))) (in_33 _ (zs4 (zs1 (zs0))))) rfl rfl rfl ⟨rfl, hz_yX13_pointsByText_3⟩ ⟨Nat.le_of_ble_eq_true rfl, Nat.le_of_ble_eq_true rfl⟩) ⟨HW_bl, va_recv hK hP (ci := 14) (q0 := 0) rfl (hI.ob 0 (Nat.le_of_ble_eq_true rfl) rfl), (HW_wi hP hK (WX_D hD) hS hA hEV)⟩ rfl rfl hl.1 rfl (lv_room (Nat.le_of_ble_eq_true rfl)) dX13_pointsOf_14 ⟨Nat.le_of_ble_eq_true rfl, Nat.le_of_ble_eq_true rfl⟩) (WX_D hD) hS hA (fun r37 E38 H locs hw hP hS => ?_)
      obtain ⟨hI, kq39, hw⟩ := hw
      have hKb := hKp
      have hKp := hKp.tr kq39 (wl_sub rfl rfl)
      rw [hQ]
      exact W.iret (v := r37) hx hb hr (fun t ht hW => ⟨⟨r37, E38, rfl, ⟨hI, hKp, trivial⟩, by show va_P (dC, dI) vwCl (WX 72 ad E38) t.heap; rw [ht]; exact hP⟩, hS.F ht⟩) hS.2.2 dX13_pointsOf_17
