set_option maxRecDepth 100000 in
theorem zh_dX0_racesIn_0_0 : zc cX0_racesIn 0 [3, 61, 3, 62, 29, 42, 180, 0, 21, 182, 0, 56, 162, 0, 30, 42] = true := by decide +kernel
set_option maxRecDepth 100000 in
theorem zh_dX0_racesIn_16_16 : zc cX0_racesIn 16 [180, 0, 21, 29, 182, 0, 69, 192, 0, 73, 180, 0, 75, 27, 163, 0] = true := by decide +kernel
set_option maxRecDepth 100000 in
theorem zh_dX0_racesIn_30_32 : zc cX0_racesIn 32 [6, 132, 2, 1, 132, 3, 1, 167, 255, 221, 28, 172] = true := by decide +kernel
set_option maxRecDepth 100000 in
theorem zh_dX8_pointsIn_0_0 : zc cX8_pointsIn 0 [42, 180, 0, 34, 180, 0, 42, 27, 182, 0, 48, 192, 0, 54, 28, 29] = true := by decide +kernel
set_option maxRecDepth 100000 in
theorem zh_dX8_pointsIn_16_16 : zc cX8_pointsIn 16 [182, 0, 56, 154, 0, 21, 42, 180, 0, 38, 27, 29, 182, 0, 60, 42] = true := by decide +kernel
set_option maxRecDepth 100000 in
theorem zh_dX8_pointsIn_32_32 : zc cX8_pointsIn 32 [180, 0, 38, 28, 182, 0, 66, 172, 42, 42, 180, 0, 34, 29, 182, 0] = true := by decide +kernel
set_option maxRecDepth 100000 in
theorem zh_dX8_pointsIn_46_48 : zc cX8_pointsIn 48 [70, 181, 0, 73, 3, 54, 4, 21, 4, 42, 180, 0, 73, 162, 0, 38] = true := by decide +kernel
set_option maxRecDepth 100000 in
theorem zh_dX8_pointsIn_64_64 : zc cX8_pointsIn 64 [42, 180, 0, 38, 21, 4, 29, 182, 0, 60, 42, 180, 0, 9, 21, 4] = true := by decide +kernel
set_option maxRecDepth 100000 in
theorem zh_dX8_pointsIn_80_80 : zc cX8_pointsIn 80 [28, 184, 0, 76, 42, 180, 0, 38, 28, 182, 0, 66, 79, 132, 4, 1] = true := by decide +kernel
set_option maxRecDepth 100000 in
theorem zh_dX8_pointsIn_96_96 : zc cX8_pointsIn 96 [167, 255, 215, 42, 27, 28, 29, 182, 0, 80, 172] = true := by decide +kernel
set_option maxRecDepth 100000 in
theorem zh_dX8_meanBeside_0_0 : zc cX8_meanBeside 0 [3, 54, 4, 3, 54, 5, 3, 54, 6, 21, 6, 42, 180, 0, 73, 162] = true := by decide +kernel
set_option maxRecDepth 100000 in
theorem zh_dX8_meanBeside_15_16 : zc cX8_meanBeside 16 [0, 60, 21, 6, 27, 159, 0, 48, 42, 180, 0, 34, 180, 0, 42, 21] = true := by decide +kernel
set_option maxRecDepth 100000 in
theorem zh_dX8_meanBeside_31_32 : zc cX8_meanBeside 32 [6, 182, 0, 48, 192, 0, 54, 28, 29, 182, 0, 56, 153, 0, 6, 167] = true := by decide +kernel
set_option maxRecDepth 100000 in
theorem zh_dX8_meanBeside_47_48 : zc cX8_meanBeside 48 [0, 22, 21, 4, 42, 180, 0, 9, 21, 6, 28, 184, 0, 76, 46, 96] = true := by decide +kernel
set_option maxRecDepth 100000 in
theorem zh_dX8_meanBeside_64_64 : zc cX8_meanBeside 64 [54, 4, 132, 5, 1, 132, 6, 1, 167, 255, 193, 21, 5, 154, 0, 7] = true := by decide +kernel
set_option maxRecDepth 100000 in
theorem zh_dX8_meanBeside_80_80 : zc cX8_meanBeside 80 [3, 167, 0, 8, 21, 4, 21, 5, 108, 172] = true := by decide +kernel
set_option maxRecDepth 100000 in
theorem zh_dX9_plainPointsOf_0_0 : zc cX9_plainPointsOf 0 [42, 180, 0, 27, 182, 0, 113, 42, 180, 0, 27, 180, 0, 116, 6, 42] = true := by decide +kernel
set_option maxRecDepth 100000 in
theorem zh_dX9_plainPointsOf_16_16 : zc cX9_plainPointsOf 16 [180, 0, 9, 27, 46, 2, 160, 0, 7, 5, 167, 0, 9, 42, 180, 0] = true := by decide +kernel
set_option maxRecDepth 100000 in
theorem zh_dX9_plainPointsOf_30_32 : zc cX9_plainPointsOf 32 [9, 27, 46, 79, 42, 180, 0, 27, 180, 0, 116, 7, 42, 180, 0, 24] = true := by decide +kernel
set_option maxRecDepth 100000 in
theorem zh_dX9_plainPointsOf_48_48 : zc cX9_plainPointsOf 48 [27, 46, 79, 42, 180, 0, 27, 180, 0, 116, 8, 42, 180, 0, 94, 79] = true := by decide +kernel
set_option maxRecDepth 100000 in
theorem zh_dX9_plainPointsOf_64_64 : zc cX9_plainPointsOf 64 [42, 180, 0, 27, 180, 0, 116, 16, 6, 42, 180, 0, 97, 79, 42, 180] = true := by decide +kernel
set_option maxRecDepth 100000 in
theorem zh_dX9_plainPointsOf_79_80 : zc cX9_plainPointsOf 80 [0, 27, 42, 180, 0, 87, 16, 112, 182, 0, 119, 3, 17, 39, 16, 184] = true := by decide +kernel
set_option maxRecDepth 100000 in
theorem zh_dX9_plainPointsOf_95_96 : zc cX9_plainPointsOf 96 [0, 123, 172] = true := by decide +kernel
set_option maxRecDepth 100000 in
theorem zh_dX12_points_0_0 : zc cX12_points 0 [42, 180, 0, 10, 27, 29, 182, 0, 162, 153, 0, 14, 42, 180, 0, 10] = true := by decide +kernel
set_option maxRecDepth 100000 in
theorem zh_dX12_points_16_16 : zc cX12_points 16 [28, 182, 0, 66, 154, 0, 5, 2, 172, 42, 180, 0, 37, 27, 28, 29] = true := by decide +kernel
set_option maxRecDepth 100000 in
theorem zh_dX12_points_32_32 : zc cX12_points 32 [182, 0, 186, 172] = true := by decide +kernel
theorem dX0_racesIn_0 : decode cX0_racesIn 0 = .ok (.iconst 0, 1) := zo_3 (zi_at zh_dX0_racesIn_0_0 0 rfl)
theorem dX0_racesIn_1 : decode cX0_racesIn 1 = .ok (.istore_n 2, 1) := zo_61 (zi_at zh_dX0_racesIn_0_0 1 rfl)
theorem dX0_racesIn_2 : decode cX0_racesIn 2 = .ok (.iconst 0, 1) := zo_3 (zi_at zh_dX0_racesIn_0_0 2 rfl)
theorem dX0_racesIn_3 : decode cX0_racesIn 3 = .ok (.istore_n 3, 1) := zo_62 (zi_at zh_dX0_racesIn_0_0 3 rfl)
theorem dX0_racesIn_4 : decode cX0_racesIn 4 = .ok (.iload_n 3, 1) := zo_29 (zi_at zh_dX0_racesIn_0_0 4 rfl)
theorem dX0_racesIn_5 : decode cX0_racesIn 5 = .ok (.aload_n 0, 1) := zo_42 (zi_at zh_dX0_racesIn_0_0 5 rfl)
theorem dX0_racesIn_6 : decode cX0_racesIn 6 = .ok (.getfield 21, 3) := zo_180 (zi_at zh_dX0_racesIn_0_0 6 rfl) (zi_at zh_dX0_racesIn_0_0 7 rfl) (zi_at zh_dX0_racesIn_0_0 8 rfl) rfl
theorem dX0_racesIn_9 : decode cX0_racesIn 9 = .ok (.invokevirtual 56, 3) := zo_182 (zi_at zh_dX0_racesIn_0_0 9 rfl) (zi_at zh_dX0_racesIn_0_0 10 rfl) (zi_at zh_dX0_racesIn_0_0 11 rfl) rfl
theorem dX0_racesIn_12 : decode cX0_racesIn 12 = .ok (.if_icmp .ge 30, 3) := zo_162 (zi_at zh_dX0_racesIn_0_0 12 rfl) (zi_at zh_dX0_racesIn_0_0 13 rfl) (zi_at zh_dX0_racesIn_0_0 14 rfl) rfl
theorem dX0_racesIn_15 : decode cX0_racesIn 15 = .ok (.aload_n 0, 1) := zo_42 (zi_at zh_dX0_racesIn_0_0 15 rfl)
theorem dX0_racesIn_16 : decode cX0_racesIn 16 = .ok (.getfield 21, 3) := zo_180 (zi_at zh_dX0_racesIn_16_16 0 rfl) (zi_at zh_dX0_racesIn_16_16 1 rfl) (zi_at zh_dX0_racesIn_16_16 2 rfl) rfl
theorem dX0_racesIn_19 : decode cX0_racesIn 19 = .ok (.iload_n 3, 1) := zo_29 (zi_at zh_dX0_racesIn_16_16 3 rfl)
theorem dX0_racesIn_20 : decode cX0_racesIn 20 = .ok (.invokevirtual 69, 3) := zo_182 (zi_at zh_dX0_racesIn_16_16 4 rfl) (zi_at zh_dX0_racesIn_16_16 5 rfl) (zi_at zh_dX0_racesIn_16_16 6 rfl) rfl
theorem dX0_racesIn_23 : decode cX0_racesIn 23 = .ok (.checkcast 73, 3) := zo_192 (zi_at zh_dX0_racesIn_16_16 7 rfl) (zi_at zh_dX0_racesIn_16_16 8 rfl) (zi_at zh_dX0_racesIn_16_16 9 rfl) rfl
theorem dX0_racesIn_26 : decode cX0_racesIn 26 = .ok (.getfield 75, 3) := zo_180 (zi_at zh_dX0_racesIn_16_16 10 rfl) (zi_at zh_dX0_racesIn_16_16 11 rfl) (zi_at zh_dX0_racesIn_16_16 12 rfl) rfl
theorem dX0_racesIn_29 : decode cX0_racesIn 29 = .ok (.iload_n 1, 1) := zo_27 (zi_at zh_dX0_racesIn_16_16 13 rfl)
theorem dX0_racesIn_30 : decode cX0_racesIn 30 = .ok (.if_icmp .gt 6, 3) := zo_163 (zi_at zh_dX0_racesIn_16_16 14 rfl) (zi_at zh_dX0_racesIn_16_16 15 rfl) (zi_at zh_dX0_racesIn_30_32 0 rfl) rfl
theorem dX0_racesIn_33 : decode cX0_racesIn 33 = .ok (.iinc 2 1, 3) := zo_132 (zi_at zh_dX0_racesIn_30_32 1 rfl) (zi_at zh_dX0_racesIn_30_32 2 rfl) (zi_at zh_dX0_racesIn_30_32 3 rfl) rfl
theorem dX0_racesIn_36 : decode cX0_racesIn 36 = .ok (.iinc 3 1, 3) := zo_132 (zi_at zh_dX0_racesIn_30_32 4 rfl) (zi_at zh_dX0_racesIn_30_32 5 rfl) (zi_at zh_dX0_racesIn_30_32 6 rfl) rfl
theorem dX0_racesIn_39 : decode cX0_racesIn 39 = .ok (.goto (-35), 3) := zo_167 (zi_at zh_dX0_racesIn_30_32 7 rfl) (zi_at zh_dX0_racesIn_30_32 8 rfl) (zi_at zh_dX0_racesIn_30_32 9 rfl) rfl
theorem dX0_racesIn_42 : decode cX0_racesIn 42 = .ok (.iload_n 2, 1) := zo_28 (zi_at zh_dX0_racesIn_30_32 10 rfl)
theorem dX0_racesIn_43 : decode cX0_racesIn 43 = .ok (.ireturn, 1) := zo_172 (zi_at zh_dX0_racesIn_30_32 11 rfl)
theorem dX8_pointsIn_0 : decode cX8_pointsIn 0 = .ok (.aload_n 0, 1) := zo_42 (zi_at zh_dX8_pointsIn_0_0 0 rfl)
theorem dX8_pointsIn_1 : decode cX8_pointsIn 1 = .ok (.getfield 34, 3) := zo_180 (zi_at zh_dX8_pointsIn_0_0 1 rfl) (zi_at zh_dX8_pointsIn_0_0 2 rfl) (zi_at zh_dX8_pointsIn_0_0 3 rfl) rfl
theorem dX8_pointsIn_4 : decode cX8_pointsIn 4 = .ok (.getfield 42, 3) := zo_180 (zi_at zh_dX8_pointsIn_0_0 4 rfl) (zi_at zh_dX8_pointsIn_0_0 5 rfl) (zi_at zh_dX8_pointsIn_0_0 6 rfl) rfl
theorem dX8_pointsIn_7 : decode cX8_pointsIn 7 = .ok (.iload_n 1, 1) := zo_27 (zi_at zh_dX8_pointsIn_0_0 7 rfl)
theorem dX8_pointsIn_8 : decode cX8_pointsIn 8 = .ok (.invokevirtual 48, 3) := zo_182 (zi_at zh_dX8_pointsIn_0_0 8 rfl) (zi_at zh_dX8_pointsIn_0_0 9 rfl) (zi_at zh_dX8_pointsIn_0_0 10 rfl) rfl
theorem dX8_pointsIn_11 : decode cX8_pointsIn 11 = .ok (.checkcast 54, 3) := zo_192 (zi_at zh_dX8_pointsIn_0_0 11 rfl) (zi_at zh_dX8_pointsIn_0_0 12 rfl) (zi_at zh_dX8_pointsIn_0_0 13 rfl) rfl
theorem dX8_pointsIn_14 : decode cX8_pointsIn 14 = .ok (.iload_n 2, 1) := zo_28 (zi_at zh_dX8_pointsIn_0_0 14 rfl)
theorem dX8_pointsIn_15 : decode cX8_pointsIn 15 = .ok (.iload_n 3, 1) := zo_29 (zi_at zh_dX8_pointsIn_0_0 15 rfl)
theorem dX8_pointsIn_16 : decode cX8_pointsIn 16 = .ok (.invokevirtual 56, 3) := zo_182 (zi_at zh_dX8_pointsIn_16_16 0 rfl) (zi_at zh_dX8_pointsIn_16_16 1 rfl) (zi_at zh_dX8_pointsIn_16_16 2 rfl) rfl
theorem dX8_pointsIn_19 : decode cX8_pointsIn 19 = .ok (.ifCond .ne 21, 3) := zo_154 (zi_at zh_dX8_pointsIn_16_16 3 rfl) (zi_at zh_dX8_pointsIn_16_16 4 rfl) (zi_at zh_dX8_pointsIn_16_16 5 rfl) rfl
theorem dX8_pointsIn_22 : decode cX8_pointsIn 22 = .ok (.aload_n 0, 1) := zo_42 (zi_at zh_dX8_pointsIn_16_16 6 rfl)
theorem dX8_pointsIn_23 : decode cX8_pointsIn 23 = .ok (.getfield 38, 3) := zo_180 (zi_at zh_dX8_pointsIn_16_16 7 rfl) (zi_at zh_dX8_pointsIn_16_16 8 rfl) (zi_at zh_dX8_pointsIn_16_16 9 rfl) rfl
theorem dX8_pointsIn_26 : decode cX8_pointsIn 26 = .ok (.iload_n 1, 1) := zo_27 (zi_at zh_dX8_pointsIn_16_16 10 rfl)
theorem dX8_pointsIn_27 : decode cX8_pointsIn 27 = .ok (.iload_n 3, 1) := zo_29 (zi_at zh_dX8_pointsIn_16_16 11 rfl)
theorem dX8_pointsIn_28 : decode cX8_pointsIn 28 = .ok (.invokevirtual 60, 3) := zo_182 (zi_at zh_dX8_pointsIn_16_16 12 rfl) (zi_at zh_dX8_pointsIn_16_16 13 rfl) (zi_at zh_dX8_pointsIn_16_16 14 rfl) rfl
theorem dX8_pointsIn_31 : decode cX8_pointsIn 31 = .ok (.aload_n 0, 1) := zo_42 (zi_at zh_dX8_pointsIn_16_16 15 rfl)
theorem dX8_pointsIn_32 : decode cX8_pointsIn 32 = .ok (.getfield 38, 3) := zo_180 (zi_at zh_dX8_pointsIn_32_32 0 rfl) (zi_at zh_dX8_pointsIn_32_32 1 rfl) (zi_at zh_dX8_pointsIn_32_32 2 rfl) rfl
theorem dX8_pointsIn_35 : decode cX8_pointsIn 35 = .ok (.iload_n 2, 1) := zo_28 (zi_at zh_dX8_pointsIn_32_32 3 rfl)
theorem dX8_pointsIn_36 : decode cX8_pointsIn 36 = .ok (.invokevirtual 66, 3) := zo_182 (zi_at zh_dX8_pointsIn_32_32 4 rfl) (zi_at zh_dX8_pointsIn_32_32 5 rfl) (zi_at zh_dX8_pointsIn_32_32 6 rfl) rfl
theorem dX8_pointsIn_39 : decode cX8_pointsIn 39 = .ok (.ireturn, 1) := zo_172 (zi_at zh_dX8_pointsIn_32_32 7 rfl)
theorem dX8_pointsIn_40 : decode cX8_pointsIn 40 = .ok (.aload_n 0, 1) := zo_42 (zi_at zh_dX8_pointsIn_32_32 8 rfl)
theorem dX8_pointsIn_41 : decode cX8_pointsIn 41 = .ok (.aload_n 0, 1) := zo_42 (zi_at zh_dX8_pointsIn_32_32 9 rfl)
theorem dX8_pointsIn_42 : decode cX8_pointsIn 42 = .ok (.getfield 34, 3) := zo_180 (zi_at zh_dX8_pointsIn_32_32 10 rfl) (zi_at zh_dX8_pointsIn_32_32 11 rfl) (zi_at zh_dX8_pointsIn_32_32 12 rfl) rfl
theorem dX8_pointsIn_45 : decode cX8_pointsIn 45 = .ok (.iload_n 3, 1) := zo_29 (zi_at zh_dX8_pointsIn_32_32 13 rfl)
theorem dX8_pointsIn_46 : decode cX8_pointsIn 46 = .ok (.invokevirtual 70, 3) := zo_182 (zi_at zh_dX8_pointsIn_32_32 14 rfl) (zi_at zh_dX8_pointsIn_32_32 15 rfl) (zi_at zh_dX8_pointsIn_46_48 0 rfl) rfl
theorem dX8_pointsIn_49 : decode cX8_pointsIn 49 = .ok (.putfield 73, 3) := zo_181 (zi_at zh_dX8_pointsIn_46_48 1 rfl) (zi_at zh_dX8_pointsIn_46_48 2 rfl) (zi_at zh_dX8_pointsIn_46_48 3 rfl) rfl
theorem dX8_pointsIn_52 : decode cX8_pointsIn 52 = .ok (.iconst 0, 1) := zo_3 (zi_at zh_dX8_pointsIn_46_48 4 rfl)
theorem dX8_pointsIn_53 : decode cX8_pointsIn 53 = .ok (.istore 4, 2) := zo_54 (zi_at zh_dX8_pointsIn_46_48 5 rfl) (zi_at zh_dX8_pointsIn_46_48 6 rfl)
theorem dX8_pointsIn_55 : decode cX8_pointsIn 55 = .ok (.iload 4, 2) := zo_21 (zi_at zh_dX8_pointsIn_46_48 7 rfl) (zi_at zh_dX8_pointsIn_46_48 8 rfl)
theorem dX8_pointsIn_57 : decode cX8_pointsIn 57 = .ok (.aload_n 0, 1) := zo_42 (zi_at zh_dX8_pointsIn_46_48 9 rfl)
theorem dX8_pointsIn_58 : decode cX8_pointsIn 58 = .ok (.getfield 73, 3) := zo_180 (zi_at zh_dX8_pointsIn_46_48 10 rfl) (zi_at zh_dX8_pointsIn_46_48 11 rfl) (zi_at zh_dX8_pointsIn_46_48 12 rfl) rfl
theorem dX8_pointsIn_61 : decode cX8_pointsIn 61 = .ok (.if_icmp .ge 38, 3) := zo_162 (zi_at zh_dX8_pointsIn_46_48 13 rfl) (zi_at zh_dX8_pointsIn_46_48 14 rfl) (zi_at zh_dX8_pointsIn_46_48 15 rfl) rfl
theorem dX8_pointsIn_64 : decode cX8_pointsIn 64 = .ok (.aload_n 0, 1) := zo_42 (zi_at zh_dX8_pointsIn_64_64 0 rfl)
theorem dX8_pointsIn_65 : decode cX8_pointsIn 65 = .ok (.getfield 38, 3) := zo_180 (zi_at zh_dX8_pointsIn_64_64 1 rfl) (zi_at zh_dX8_pointsIn_64_64 2 rfl) (zi_at zh_dX8_pointsIn_64_64 3 rfl) rfl
theorem dX8_pointsIn_68 : decode cX8_pointsIn 68 = .ok (.iload 4, 2) := zo_21 (zi_at zh_dX8_pointsIn_64_64 4 rfl) (zi_at zh_dX8_pointsIn_64_64 5 rfl)
theorem dX8_pointsIn_70 : decode cX8_pointsIn 70 = .ok (.iload_n 3, 1) := zo_29 (zi_at zh_dX8_pointsIn_64_64 6 rfl)
theorem dX8_pointsIn_71 : decode cX8_pointsIn 71 = .ok (.invokevirtual 60, 3) := zo_182 (zi_at zh_dX8_pointsIn_64_64 7 rfl) (zi_at zh_dX8_pointsIn_64_64 8 rfl) (zi_at zh_dX8_pointsIn_64_64 9 rfl) rfl
theorem dX8_pointsIn_74 : decode cX8_pointsIn 74 = .ok (.aload_n 0, 1) := zo_42 (zi_at zh_dX8_pointsIn_64_64 10 rfl)
theorem dX8_pointsIn_75 : decode cX8_pointsIn 75 = .ok (.getfield 9, 3) := zo_180 (zi_at zh_dX8_pointsIn_64_64 11 rfl) (zi_at zh_dX8_pointsIn_64_64 12 rfl) (zi_at zh_dX8_pointsIn_64_64 13 rfl) rfl
theorem dX8_pointsIn_78 : decode cX8_pointsIn 78 = .ok (.iload 4, 2) := zo_21 (zi_at zh_dX8_pointsIn_64_64 14 rfl) (zi_at zh_dX8_pointsIn_64_64 15 rfl)
theorem dX8_pointsIn_80 : decode cX8_pointsIn 80 = .ok (.iload_n 2, 1) := zo_28 (zi_at zh_dX8_pointsIn_80_80 0 rfl)
theorem dX8_pointsIn_81 : decode cX8_pointsIn 81 = .ok (.invokestatic 76, 3) := zo_184 (zi_at zh_dX8_pointsIn_80_80 1 rfl) (zi_at zh_dX8_pointsIn_80_80 2 rfl) (zi_at zh_dX8_pointsIn_80_80 3 rfl) rfl
theorem dX8_pointsIn_84 : decode cX8_pointsIn 84 = .ok (.aload_n 0, 1) := zo_42 (zi_at zh_dX8_pointsIn_80_80 4 rfl)
theorem dX8_pointsIn_85 : decode cX8_pointsIn 85 = .ok (.getfield 38, 3) := zo_180 (zi_at zh_dX8_pointsIn_80_80 5 rfl) (zi_at zh_dX8_pointsIn_80_80 6 rfl) (zi_at zh_dX8_pointsIn_80_80 7 rfl) rfl
theorem dX8_pointsIn_88 : decode cX8_pointsIn 88 = .ok (.iload_n 2, 1) := zo_28 (zi_at zh_dX8_pointsIn_80_80 8 rfl)
theorem dX8_pointsIn_89 : decode cX8_pointsIn 89 = .ok (.invokevirtual 66, 3) := zo_182 (zi_at zh_dX8_pointsIn_80_80 9 rfl) (zi_at zh_dX8_pointsIn_80_80 10 rfl) (zi_at zh_dX8_pointsIn_80_80 11 rfl) rfl
theorem dX8_pointsIn_92 : decode cX8_pointsIn 92 = .ok (.iastore, 1) := zo_79 (zi_at zh_dX8_pointsIn_80_80 12 rfl)
theorem dX8_pointsIn_93 : decode cX8_pointsIn 93 = .ok (.iinc 4 1, 3) := zo_132 (zi_at zh_dX8_pointsIn_80_80 13 rfl) (zi_at zh_dX8_pointsIn_80_80 14 rfl) (zi_at zh_dX8_pointsIn_80_80 15 rfl) rfl
theorem dX8_pointsIn_96 : decode cX8_pointsIn 96 = .ok (.goto (-41), 3) := zo_167 (zi_at zh_dX8_pointsIn_96_96 0 rfl) (zi_at zh_dX8_pointsIn_96_96 1 rfl) (zi_at zh_dX8_pointsIn_96_96 2 rfl) rfl
theorem dX8_pointsIn_99 : decode cX8_pointsIn 99 = .ok (.aload_n 0, 1) := zo_42 (zi_at zh_dX8_pointsIn_96_96 3 rfl)
theorem dX8_pointsIn_100 : decode cX8_pointsIn 100 = .ok (.iload_n 1, 1) := zo_27 (zi_at zh_dX8_pointsIn_96_96 4 rfl)
theorem dX8_pointsIn_101 : decode cX8_pointsIn 101 = .ok (.iload_n 2, 1) := zo_28 (zi_at zh_dX8_pointsIn_96_96 5 rfl)
theorem dX8_pointsIn_102 : decode cX8_pointsIn 102 = .ok (.iload_n 3, 1) := zo_29 (zi_at zh_dX8_pointsIn_96_96 6 rfl)
theorem dX8_pointsIn_103 : decode cX8_pointsIn 103 = .ok (.invokevirtual 80, 3) := zo_182 (zi_at zh_dX8_pointsIn_96_96 7 rfl) (zi_at zh_dX8_pointsIn_96_96 8 rfl) (zi_at zh_dX8_pointsIn_96_96 9 rfl) rfl
theorem dX8_pointsIn_106 : decode cX8_pointsIn 106 = .ok (.ireturn, 1) := zo_172 (zi_at zh_dX8_pointsIn_96_96 10 rfl)
theorem dX8_meanBeside_0 : decode cX8_meanBeside 0 = .ok (.iconst 0, 1) := zo_3 (zi_at zh_dX8_meanBeside_0_0 0 rfl)
theorem dX8_meanBeside_1 : decode cX8_meanBeside 1 = .ok (.istore 4, 2) := zo_54 (zi_at zh_dX8_meanBeside_0_0 1 rfl) (zi_at zh_dX8_meanBeside_0_0 2 rfl)
theorem dX8_meanBeside_3 : decode cX8_meanBeside 3 = .ok (.iconst 0, 1) := zo_3 (zi_at zh_dX8_meanBeside_0_0 3 rfl)
theorem dX8_meanBeside_4 : decode cX8_meanBeside 4 = .ok (.istore 5, 2) := zo_54 (zi_at zh_dX8_meanBeside_0_0 4 rfl) (zi_at zh_dX8_meanBeside_0_0 5 rfl)
theorem dX8_meanBeside_6 : decode cX8_meanBeside 6 = .ok (.iconst 0, 1) := zo_3 (zi_at zh_dX8_meanBeside_0_0 6 rfl)
theorem dX8_meanBeside_7 : decode cX8_meanBeside 7 = .ok (.istore 6, 2) := zo_54 (zi_at zh_dX8_meanBeside_0_0 7 rfl) (zi_at zh_dX8_meanBeside_0_0 8 rfl)
theorem dX8_meanBeside_9 : decode cX8_meanBeside 9 = .ok (.iload 6, 2) := zo_21 (zi_at zh_dX8_meanBeside_0_0 9 rfl) (zi_at zh_dX8_meanBeside_0_0 10 rfl)
theorem dX8_meanBeside_11 : decode cX8_meanBeside 11 = .ok (.aload_n 0, 1) := zo_42 (zi_at zh_dX8_meanBeside_0_0 11 rfl)
theorem dX8_meanBeside_12 : decode cX8_meanBeside 12 = .ok (.getfield 73, 3) := zo_180 (zi_at zh_dX8_meanBeside_0_0 12 rfl) (zi_at zh_dX8_meanBeside_0_0 13 rfl) (zi_at zh_dX8_meanBeside_0_0 14 rfl) rfl
theorem dX8_meanBeside_15 : decode cX8_meanBeside 15 = .ok (.if_icmp .ge 60, 3) := zo_162 (zi_at zh_dX8_meanBeside_0_0 15 rfl) (zi_at zh_dX8_meanBeside_15_16 0 rfl) (zi_at zh_dX8_meanBeside_15_16 1 rfl) rfl
theorem dX8_meanBeside_18 : decode cX8_meanBeside 18 = .ok (.iload 6, 2) := zo_21 (zi_at zh_dX8_meanBeside_15_16 2 rfl) (zi_at zh_dX8_meanBeside_15_16 3 rfl)
theorem dX8_meanBeside_20 : decode cX8_meanBeside 20 = .ok (.iload_n 1, 1) := zo_27 (zi_at zh_dX8_meanBeside_15_16 4 rfl)
theorem dX8_meanBeside_21 : decode cX8_meanBeside 21 = .ok (.if_icmp .eq 48, 3) := zo_159 (zi_at zh_dX8_meanBeside_15_16 5 rfl) (zi_at zh_dX8_meanBeside_15_16 6 rfl) (zi_at zh_dX8_meanBeside_15_16 7 rfl) rfl
theorem dX8_meanBeside_24 : decode cX8_meanBeside 24 = .ok (.aload_n 0, 1) := zo_42 (zi_at zh_dX8_meanBeside_15_16 8 rfl)
theorem dX8_meanBeside_25 : decode cX8_meanBeside 25 = .ok (.getfield 34, 3) := zo_180 (zi_at zh_dX8_meanBeside_15_16 9 rfl) (zi_at zh_dX8_meanBeside_15_16 10 rfl) (zi_at zh_dX8_meanBeside_15_16 11 rfl) rfl
theorem dX8_meanBeside_28 : decode cX8_meanBeside 28 = .ok (.getfield 42, 3) := zo_180 (zi_at zh_dX8_meanBeside_15_16 12 rfl) (zi_at zh_dX8_meanBeside_15_16 13 rfl) (zi_at zh_dX8_meanBeside_15_16 14 rfl) rfl
theorem dX8_meanBeside_31 : decode cX8_meanBeside 31 = .ok (.iload 6, 2) := zo_21 (zi_at zh_dX8_meanBeside_15_16 15 rfl) (zi_at zh_dX8_meanBeside_31_32 0 rfl)
theorem dX8_meanBeside_33 : decode cX8_meanBeside 33 = .ok (.invokevirtual 48, 3) := zo_182 (zi_at zh_dX8_meanBeside_31_32 1 rfl) (zi_at zh_dX8_meanBeside_31_32 2 rfl) (zi_at zh_dX8_meanBeside_31_32 3 rfl) rfl
theorem dX8_meanBeside_36 : decode cX8_meanBeside 36 = .ok (.checkcast 54, 3) := zo_192 (zi_at zh_dX8_meanBeside_31_32 4 rfl) (zi_at zh_dX8_meanBeside_31_32 5 rfl) (zi_at zh_dX8_meanBeside_31_32 6 rfl) rfl
theorem dX8_meanBeside_39 : decode cX8_meanBeside 39 = .ok (.iload_n 2, 1) := zo_28 (zi_at zh_dX8_meanBeside_31_32 7 rfl)
theorem dX8_meanBeside_40 : decode cX8_meanBeside 40 = .ok (.iload_n 3, 1) := zo_29 (zi_at zh_dX8_meanBeside_31_32 8 rfl)
theorem dX8_meanBeside_41 : decode cX8_meanBeside 41 = .ok (.invokevirtual 56, 3) := zo_182 (zi_at zh_dX8_meanBeside_31_32 9 rfl) (zi_at zh_dX8_meanBeside_31_32 10 rfl) (zi_at zh_dX8_meanBeside_31_32 11 rfl) rfl
theorem dX8_meanBeside_44 : decode cX8_meanBeside 44 = .ok (.ifCond .eq 6, 3) := zo_153 (zi_at zh_dX8_meanBeside_31_32 12 rfl) (zi_at zh_dX8_meanBeside_31_32 13 rfl) (zi_at zh_dX8_meanBeside_31_32 14 rfl) rfl
theorem dX8_meanBeside_47 : decode cX8_meanBeside 47 = .ok (.goto 22, 3) := zo_167 (zi_at zh_dX8_meanBeside_31_32 15 rfl) (zi_at zh_dX8_meanBeside_47_48 0 rfl) (zi_at zh_dX8_meanBeside_47_48 1 rfl) rfl
theorem dX8_meanBeside_50 : decode cX8_meanBeside 50 = .ok (.iload 4, 2) := zo_21 (zi_at zh_dX8_meanBeside_47_48 2 rfl) (zi_at zh_dX8_meanBeside_47_48 3 rfl)
theorem dX8_meanBeside_52 : decode cX8_meanBeside 52 = .ok (.aload_n 0, 1) := zo_42 (zi_at zh_dX8_meanBeside_47_48 4 rfl)
theorem dX8_meanBeside_53 : decode cX8_meanBeside 53 = .ok (.getfield 9, 3) := zo_180 (zi_at zh_dX8_meanBeside_47_48 5 rfl) (zi_at zh_dX8_meanBeside_47_48 6 rfl) (zi_at zh_dX8_meanBeside_47_48 7 rfl) rfl
theorem dX8_meanBeside_56 : decode cX8_meanBeside 56 = .ok (.iload 6, 2) := zo_21 (zi_at zh_dX8_meanBeside_47_48 8 rfl) (zi_at zh_dX8_meanBeside_47_48 9 rfl)
theorem dX8_meanBeside_58 : decode cX8_meanBeside 58 = .ok (.iload_n 2, 1) := zo_28 (zi_at zh_dX8_meanBeside_47_48 10 rfl)
theorem dX8_meanBeside_59 : decode cX8_meanBeside 59 = .ok (.invokestatic 76, 3) := zo_184 (zi_at zh_dX8_meanBeside_47_48 11 rfl) (zi_at zh_dX8_meanBeside_47_48 12 rfl) (zi_at zh_dX8_meanBeside_47_48 13 rfl) rfl
theorem dX8_meanBeside_62 : decode cX8_meanBeside 62 = .ok (.iaload, 1) := zo_46 (zi_at zh_dX8_meanBeside_47_48 14 rfl)
theorem dX8_meanBeside_63 : decode cX8_meanBeside 63 = .ok (.iadd, 1) := zo_96 (zi_at zh_dX8_meanBeside_47_48 15 rfl)
theorem dX8_meanBeside_64 : decode cX8_meanBeside 64 = .ok (.istore 4, 2) := zo_54 (zi_at zh_dX8_meanBeside_64_64 0 rfl) (zi_at zh_dX8_meanBeside_64_64 1 rfl)
theorem dX8_meanBeside_66 : decode cX8_meanBeside 66 = .ok (.iinc 5 1, 3) := zo_132 (zi_at zh_dX8_meanBeside_64_64 2 rfl) (zi_at zh_dX8_meanBeside_64_64 3 rfl) (zi_at zh_dX8_meanBeside_64_64 4 rfl) rfl
theorem dX8_meanBeside_69 : decode cX8_meanBeside 69 = .ok (.iinc 6 1, 3) := zo_132 (zi_at zh_dX8_meanBeside_64_64 5 rfl) (zi_at zh_dX8_meanBeside_64_64 6 rfl) (zi_at zh_dX8_meanBeside_64_64 7 rfl) rfl
theorem dX8_meanBeside_72 : decode cX8_meanBeside 72 = .ok (.goto (-63), 3) := zo_167 (zi_at zh_dX8_meanBeside_64_64 8 rfl) (zi_at zh_dX8_meanBeside_64_64 9 rfl) (zi_at zh_dX8_meanBeside_64_64 10 rfl) rfl
theorem dX8_meanBeside_75 : decode cX8_meanBeside 75 = .ok (.iload 5, 2) := zo_21 (zi_at zh_dX8_meanBeside_64_64 11 rfl) (zi_at zh_dX8_meanBeside_64_64 12 rfl)
theorem dX8_meanBeside_77 : decode cX8_meanBeside 77 = .ok (.ifCond .ne 7, 3) := zo_154 (zi_at zh_dX8_meanBeside_64_64 13 rfl) (zi_at zh_dX8_meanBeside_64_64 14 rfl) (zi_at zh_dX8_meanBeside_64_64 15 rfl) rfl
theorem dX8_meanBeside_80 : decode cX8_meanBeside 80 = .ok (.iconst 0, 1) := zo_3 (zi_at zh_dX8_meanBeside_80_80 0 rfl)
theorem dX8_meanBeside_81 : decode cX8_meanBeside 81 = .ok (.goto 8, 3) := zo_167 (zi_at zh_dX8_meanBeside_80_80 1 rfl) (zi_at zh_dX8_meanBeside_80_80 2 rfl) (zi_at zh_dX8_meanBeside_80_80 3 rfl) rfl
theorem dX8_meanBeside_84 : decode cX8_meanBeside 84 = .ok (.iload 4, 2) := zo_21 (zi_at zh_dX8_meanBeside_80_80 4 rfl) (zi_at zh_dX8_meanBeside_80_80 5 rfl)
theorem dX8_meanBeside_86 : decode cX8_meanBeside 86 = .ok (.iload 5, 2) := zo_21 (zi_at zh_dX8_meanBeside_80_80 6 rfl) (zi_at zh_dX8_meanBeside_80_80 7 rfl)
theorem dX8_meanBeside_88 : decode cX8_meanBeside 88 = .ok (.idiv, 1) := zo_108 (zi_at zh_dX8_meanBeside_80_80 8 rfl)
theorem dX8_meanBeside_89 : decode cX8_meanBeside 89 = .ok (.ireturn, 1) := zo_172 (zi_at zh_dX8_meanBeside_80_80 9 rfl)
theorem dX9_plainPointsOf_0 : decode cX9_plainPointsOf 0 = .ok (.aload_n 0, 1) := zo_42 (zi_at zh_dX9_plainPointsOf_0_0 0 rfl)
theorem dX9_plainPointsOf_1 : decode cX9_plainPointsOf 1 = .ok (.getfield 27, 3) := zo_180 (zi_at zh_dX9_plainPointsOf_0_0 1 rfl) (zi_at zh_dX9_plainPointsOf_0_0 2 rfl) (zi_at zh_dX9_plainPointsOf_0_0 3 rfl) rfl
theorem dX9_plainPointsOf_4 : decode cX9_plainPointsOf 4 = .ok (.invokevirtual 113, 3) := zo_182 (zi_at zh_dX9_plainPointsOf_0_0 4 rfl) (zi_at zh_dX9_plainPointsOf_0_0 5 rfl) (zi_at zh_dX9_plainPointsOf_0_0 6 rfl) rfl
theorem dX9_plainPointsOf_7 : decode cX9_plainPointsOf 7 = .ok (.aload_n 0, 1) := zo_42 (zi_at zh_dX9_plainPointsOf_0_0 7 rfl)
theorem dX9_plainPointsOf_8 : decode cX9_plainPointsOf 8 = .ok (.getfield 27, 3) := zo_180 (zi_at zh_dX9_plainPointsOf_0_0 8 rfl) (zi_at zh_dX9_plainPointsOf_0_0 9 rfl) (zi_at zh_dX9_plainPointsOf_0_0 10 rfl) rfl
theorem dX9_plainPointsOf_11 : decode cX9_plainPointsOf 11 = .ok (.getfield 116, 3) := zo_180 (zi_at zh_dX9_plainPointsOf_0_0 11 rfl) (zi_at zh_dX9_plainPointsOf_0_0 12 rfl) (zi_at zh_dX9_plainPointsOf_0_0 13 rfl) rfl
theorem dX9_plainPointsOf_14 : decode cX9_plainPointsOf 14 = .ok (.iconst 3, 1) := zo_6 (zi_at zh_dX9_plainPointsOf_0_0 14 rfl)
theorem dX9_plainPointsOf_15 : decode cX9_plainPointsOf 15 = .ok (.aload_n 0, 1) := zo_42 (zi_at zh_dX9_plainPointsOf_0_0 15 rfl)
theorem dX9_plainPointsOf_16 : decode cX9_plainPointsOf 16 = .ok (.getfield 9, 3) := zo_180 (zi_at zh_dX9_plainPointsOf_16_16 0 rfl) (zi_at zh_dX9_plainPointsOf_16_16 1 rfl) (zi_at zh_dX9_plainPointsOf_16_16 2 rfl) rfl
theorem dX9_plainPointsOf_19 : decode cX9_plainPointsOf 19 = .ok (.iload_n 1, 1) := zo_27 (zi_at zh_dX9_plainPointsOf_16_16 3 rfl)
theorem dX9_plainPointsOf_20 : decode cX9_plainPointsOf 20 = .ok (.iaload, 1) := zo_46 (zi_at zh_dX9_plainPointsOf_16_16 4 rfl)
theorem dX9_plainPointsOf_21 : decode cX9_plainPointsOf 21 = .ok (.iconst (-1), 1) := zo_2 (zi_at zh_dX9_plainPointsOf_16_16 5 rfl)
theorem dX9_plainPointsOf_22 : decode cX9_plainPointsOf 22 = .ok (.if_icmp .ne 7, 3) := zo_160 (zi_at zh_dX9_plainPointsOf_16_16 6 rfl) (zi_at zh_dX9_plainPointsOf_16_16 7 rfl) (zi_at zh_dX9_plainPointsOf_16_16 8 rfl) rfl
theorem dX9_plainPointsOf_25 : decode cX9_plainPointsOf 25 = .ok (.iconst 2, 1) := zo_5 (zi_at zh_dX9_plainPointsOf_16_16 9 rfl)
theorem dX9_plainPointsOf_26 : decode cX9_plainPointsOf 26 = .ok (.goto 9, 3) := zo_167 (zi_at zh_dX9_plainPointsOf_16_16 10 rfl) (zi_at zh_dX9_plainPointsOf_16_16 11 rfl) (zi_at zh_dX9_plainPointsOf_16_16 12 rfl) rfl
theorem dX9_plainPointsOf_29 : decode cX9_plainPointsOf 29 = .ok (.aload_n 0, 1) := zo_42 (zi_at zh_dX9_plainPointsOf_16_16 13 rfl)
theorem dX9_plainPointsOf_30 : decode cX9_plainPointsOf 30 = .ok (.getfield 9, 3) := zo_180 (zi_at zh_dX9_plainPointsOf_16_16 14 rfl) (zi_at zh_dX9_plainPointsOf_16_16 15 rfl) (zi_at zh_dX9_plainPointsOf_30_32 0 rfl) rfl
theorem dX9_plainPointsOf_33 : decode cX9_plainPointsOf 33 = .ok (.iload_n 1, 1) := zo_27 (zi_at zh_dX9_plainPointsOf_30_32 1 rfl)
theorem dX9_plainPointsOf_34 : decode cX9_plainPointsOf 34 = .ok (.iaload, 1) := zo_46 (zi_at zh_dX9_plainPointsOf_30_32 2 rfl)
theorem dX9_plainPointsOf_35 : decode cX9_plainPointsOf 35 = .ok (.iastore, 1) := zo_79 (zi_at zh_dX9_plainPointsOf_30_32 3 rfl)
theorem dX9_plainPointsOf_36 : decode cX9_plainPointsOf 36 = .ok (.aload_n 0, 1) := zo_42 (zi_at zh_dX9_plainPointsOf_30_32 4 rfl)
theorem dX9_plainPointsOf_37 : decode cX9_plainPointsOf 37 = .ok (.getfield 27, 3) := zo_180 (zi_at zh_dX9_plainPointsOf_30_32 5 rfl) (zi_at zh_dX9_plainPointsOf_30_32 6 rfl) (zi_at zh_dX9_plainPointsOf_30_32 7 rfl) rfl
theorem dX9_plainPointsOf_40 : decode cX9_plainPointsOf 40 = .ok (.getfield 116, 3) := zo_180 (zi_at zh_dX9_plainPointsOf_30_32 8 rfl) (zi_at zh_dX9_plainPointsOf_30_32 9 rfl) (zi_at zh_dX9_plainPointsOf_30_32 10 rfl) rfl
theorem dX9_plainPointsOf_43 : decode cX9_plainPointsOf 43 = .ok (.iconst 4, 1) := zo_7 (zi_at zh_dX9_plainPointsOf_30_32 11 rfl)
theorem dX9_plainPointsOf_44 : decode cX9_plainPointsOf 44 = .ok (.aload_n 0, 1) := zo_42 (zi_at zh_dX9_plainPointsOf_30_32 12 rfl)
theorem dX9_plainPointsOf_45 : decode cX9_plainPointsOf 45 = .ok (.getfield 24, 3) := zo_180 (zi_at zh_dX9_plainPointsOf_30_32 13 rfl) (zi_at zh_dX9_plainPointsOf_30_32 14 rfl) (zi_at zh_dX9_plainPointsOf_30_32 15 rfl) rfl
theorem dX9_plainPointsOf_48 : decode cX9_plainPointsOf 48 = .ok (.iload_n 1, 1) := zo_27 (zi_at zh_dX9_plainPointsOf_48_48 0 rfl)
theorem dX9_plainPointsOf_49 : decode cX9_plainPointsOf 49 = .ok (.iaload, 1) := zo_46 (zi_at zh_dX9_plainPointsOf_48_48 1 rfl)
theorem dX9_plainPointsOf_50 : decode cX9_plainPointsOf 50 = .ok (.iastore, 1) := zo_79 (zi_at zh_dX9_plainPointsOf_48_48 2 rfl)
theorem dX9_plainPointsOf_51 : decode cX9_plainPointsOf 51 = .ok (.aload_n 0, 1) := zo_42 (zi_at zh_dX9_plainPointsOf_48_48 3 rfl)
theorem dX9_plainPointsOf_52 : decode cX9_plainPointsOf 52 = .ok (.getfield 27, 3) := zo_180 (zi_at zh_dX9_plainPointsOf_48_48 4 rfl) (zi_at zh_dX9_plainPointsOf_48_48 5 rfl) (zi_at zh_dX9_plainPointsOf_48_48 6 rfl) rfl
theorem dX9_plainPointsOf_55 : decode cX9_plainPointsOf 55 = .ok (.getfield 116, 3) := zo_180 (zi_at zh_dX9_plainPointsOf_48_48 7 rfl) (zi_at zh_dX9_plainPointsOf_48_48 8 rfl) (zi_at zh_dX9_plainPointsOf_48_48 9 rfl) rfl
theorem dX9_plainPointsOf_58 : decode cX9_plainPointsOf 58 = .ok (.iconst 5, 1) := zo_8 (zi_at zh_dX9_plainPointsOf_48_48 10 rfl)
theorem dX9_plainPointsOf_59 : decode cX9_plainPointsOf 59 = .ok (.aload_n 0, 1) := zo_42 (zi_at zh_dX9_plainPointsOf_48_48 11 rfl)
theorem dX9_plainPointsOf_60 : decode cX9_plainPointsOf 60 = .ok (.getfield 94, 3) := zo_180 (zi_at zh_dX9_plainPointsOf_48_48 12 rfl) (zi_at zh_dX9_plainPointsOf_48_48 13 rfl) (zi_at zh_dX9_plainPointsOf_48_48 14 rfl) rfl
theorem dX9_plainPointsOf_63 : decode cX9_plainPointsOf 63 = .ok (.iastore, 1) := zo_79 (zi_at zh_dX9_plainPointsOf_48_48 15 rfl)
theorem dX9_plainPointsOf_64 : decode cX9_plainPointsOf 64 = .ok (.aload_n 0, 1) := zo_42 (zi_at zh_dX9_plainPointsOf_64_64 0 rfl)
theorem dX9_plainPointsOf_65 : decode cX9_plainPointsOf 65 = .ok (.getfield 27, 3) := zo_180 (zi_at zh_dX9_plainPointsOf_64_64 1 rfl) (zi_at zh_dX9_plainPointsOf_64_64 2 rfl) (zi_at zh_dX9_plainPointsOf_64_64 3 rfl) rfl
theorem dX9_plainPointsOf_68 : decode cX9_plainPointsOf 68 = .ok (.getfield 116, 3) := zo_180 (zi_at zh_dX9_plainPointsOf_64_64 4 rfl) (zi_at zh_dX9_plainPointsOf_64_64 5 rfl) (zi_at zh_dX9_plainPointsOf_64_64 6 rfl) rfl
theorem dX9_plainPointsOf_71 : decode cX9_plainPointsOf 71 = .ok (.bipush 6, 2) := zo_16 (zi_at zh_dX9_plainPointsOf_64_64 7 rfl) (zi_at zh_dX9_plainPointsOf_64_64 8 rfl) rfl
theorem dX9_plainPointsOf_73 : decode cX9_plainPointsOf 73 = .ok (.aload_n 0, 1) := zo_42 (zi_at zh_dX9_plainPointsOf_64_64 9 rfl)
theorem dX9_plainPointsOf_74 : decode cX9_plainPointsOf 74 = .ok (.getfield 97, 3) := zo_180 (zi_at zh_dX9_plainPointsOf_64_64 10 rfl) (zi_at zh_dX9_plainPointsOf_64_64 11 rfl) (zi_at zh_dX9_plainPointsOf_64_64 12 rfl) rfl
theorem dX9_plainPointsOf_77 : decode cX9_plainPointsOf 77 = .ok (.iastore, 1) := zo_79 (zi_at zh_dX9_plainPointsOf_64_64 13 rfl)
theorem dX9_plainPointsOf_78 : decode cX9_plainPointsOf 78 = .ok (.aload_n 0, 1) := zo_42 (zi_at zh_dX9_plainPointsOf_64_64 14 rfl)
theorem dX9_plainPointsOf_79 : decode cX9_plainPointsOf 79 = .ok (.getfield 27, 3) := zo_180 (zi_at zh_dX9_plainPointsOf_64_64 15 rfl) (zi_at zh_dX9_plainPointsOf_79_80 0 rfl) (zi_at zh_dX9_plainPointsOf_79_80 1 rfl) rfl
theorem dX9_plainPointsOf_82 : decode cX9_plainPointsOf 82 = .ok (.aload_n 0, 1) := zo_42 (zi_at zh_dX9_plainPointsOf_79_80 2 rfl)
theorem dX9_plainPointsOf_83 : decode cX9_plainPointsOf 83 = .ok (.getfield 87, 3) := zo_180 (zi_at zh_dX9_plainPointsOf_79_80 3 rfl) (zi_at zh_dX9_plainPointsOf_79_80 4 rfl) (zi_at zh_dX9_plainPointsOf_79_80 5 rfl) rfl
theorem dX9_plainPointsOf_86 : decode cX9_plainPointsOf 86 = .ok (.bipush 112, 2) := zo_16 (zi_at zh_dX9_plainPointsOf_79_80 6 rfl) (zi_at zh_dX9_plainPointsOf_79_80 7 rfl) rfl
theorem dX9_plainPointsOf_88 : decode cX9_plainPointsOf 88 = .ok (.invokevirtual 119, 3) := zo_182 (zi_at zh_dX9_plainPointsOf_79_80 8 rfl) (zi_at zh_dX9_plainPointsOf_79_80 9 rfl) (zi_at zh_dX9_plainPointsOf_79_80 10 rfl) rfl
theorem dX9_plainPointsOf_91 : decode cX9_plainPointsOf 91 = .ok (.iconst 0, 1) := zo_3 (zi_at zh_dX9_plainPointsOf_79_80 11 rfl)
theorem dX9_plainPointsOf_92 : decode cX9_plainPointsOf 92 = .ok (.sipush 10000, 3) := zo_17 (zi_at zh_dX9_plainPointsOf_79_80 12 rfl) (zi_at zh_dX9_plainPointsOf_79_80 13 rfl) (zi_at zh_dX9_plainPointsOf_79_80 14 rfl) rfl
theorem dX9_plainPointsOf_95 : decode cX9_plainPointsOf 95 = .ok (.invokestatic 123, 3) := zo_184 (zi_at zh_dX9_plainPointsOf_79_80 15 rfl) (zi_at zh_dX9_plainPointsOf_95_96 0 rfl) (zi_at zh_dX9_plainPointsOf_95_96 1 rfl) rfl
theorem dX9_plainPointsOf_98 : decode cX9_plainPointsOf 98 = .ok (.ireturn, 1) := zo_172 (zi_at zh_dX9_plainPointsOf_95_96 2 rfl)
theorem dX12_points_0 : decode cX12_points 0 = .ok (.aload_n 0, 1) := zo_42 (zi_at zh_dX12_points_0_0 0 rfl)
theorem dX12_points_1 : decode cX12_points 1 = .ok (.getfield 10, 3) := zo_180 (zi_at zh_dX12_points_0_0 1 rfl) (zi_at zh_dX12_points_0_0 2 rfl) (zi_at zh_dX12_points_0_0 3 rfl) rfl
theorem dX12_points_4 : decode cX12_points 4 = .ok (.iload_n 1, 1) := zo_27 (zi_at zh_dX12_points_0_0 4 rfl)
theorem dX12_points_5 : decode cX12_points 5 = .ok (.iload_n 3, 1) := zo_29 (zi_at zh_dX12_points_0_0 5 rfl)
theorem dX12_points_6 : decode cX12_points 6 = .ok (.invokevirtual 162, 3) := zo_182 (zi_at zh_dX12_points_0_0 6 rfl) (zi_at zh_dX12_points_0_0 7 rfl) (zi_at zh_dX12_points_0_0 8 rfl) rfl
theorem dX12_points_9 : decode cX12_points 9 = .ok (.ifCond .eq 14, 3) := zo_153 (zi_at zh_dX12_points_0_0 9 rfl) (zi_at zh_dX12_points_0_0 10 rfl) (zi_at zh_dX12_points_0_0 11 rfl) rfl
theorem dX12_points_12 : decode cX12_points 12 = .ok (.aload_n 0, 1) := zo_42 (zi_at zh_dX12_points_0_0 12 rfl)
theorem dX12_points_13 : decode cX12_points 13 = .ok (.getfield 10, 3) := zo_180 (zi_at zh_dX12_points_0_0 13 rfl) (zi_at zh_dX12_points_0_0 14 rfl) (zi_at zh_dX12_points_0_0 15 rfl) rfl
theorem dX12_points_16 : decode cX12_points 16 = .ok (.iload_n 2, 1) := zo_28 (zi_at zh_dX12_points_16_16 0 rfl)
theorem dX12_points_17 : decode cX12_points 17 = .ok (.invokevirtual 66, 3) := zo_182 (zi_at zh_dX12_points_16_16 1 rfl) (zi_at zh_dX12_points_16_16 2 rfl) (zi_at zh_dX12_points_16_16 3 rfl) rfl
theorem dX12_points_20 : decode cX12_points 20 = .ok (.ifCond .ne 5, 3) := zo_154 (zi_at zh_dX12_points_16_16 4 rfl) (zi_at zh_dX12_points_16_16 5 rfl) (zi_at zh_dX12_points_16_16 6 rfl) rfl
theorem dX12_points_23 : decode cX12_points 23 = .ok (.iconst (-1), 1) := zo_2 (zi_at zh_dX12_points_16_16 7 rfl)
theorem dX12_points_24 : decode cX12_points 24 = .ok (.ireturn, 1) := zo_172 (zi_at zh_dX12_points_16_16 8 rfl)
theorem dX12_points_25 : decode cX12_points 25 = .ok (.aload_n 0, 1) := zo_42 (zi_at zh_dX12_points_16_16 9 rfl)
theorem dX12_points_26 : decode cX12_points 26 = .ok (.getfield 37, 3) := zo_180 (zi_at zh_dX12_points_16_16 10 rfl) (zi_at zh_dX12_points_16_16 11 rfl) (zi_at zh_dX12_points_16_16 12 rfl) rfl
theorem dX12_points_29 : decode cX12_points 29 = .ok (.iload_n 1, 1) := zo_27 (zi_at zh_dX12_points_16_16 13 rfl)
theorem dX12_points_30 : decode cX12_points 30 = .ok (.iload_n 2, 1) := zo_28 (zi_at zh_dX12_points_16_16 14 rfl)
theorem dX12_points_31 : decode cX12_points 31 = .ok (.iload_n 3, 1) := zo_29 (zi_at zh_dX12_points_16_16 15 rfl)
theorem dX12_points_32 : decode cX12_points 32 = .ok (.invokevirtual 186, 3) := zo_182 (zi_at zh_dX12_points_32_32 0 rfl) (zi_at zh_dX12_points_32_32 1 rfl) (zi_at zh_dX12_points_32_32 2 rfl) rfl
theorem dX12_points_35 : decode cX12_points 35 = .ok (.ireturn, 1) := zo_172 (zi_at zh_dX12_points_32_32 3 rfl)
theorem hz_yX5_isRedressedIn_2 : yX5_isRedressedIn.cls ≠ "java/lang/invoke/MethodHandle" ∧ yX5_isRedressedIn.cls ≠ "java/lang/invoke/VarHandle" ∧ (parseMethodDescriptor yX5_isRedressedIn.desc).map (fun d => d.parameters.length) = some 2 := by decide +kernel
theorem hz_yX12_cell_2 : yX12_cell.cls ≠ "java/lang/invoke/MethodHandle" ∧ yX12_cell.cls ≠ "java/lang/invoke/VarHandle" ∧ (parseMethodDescriptor yX12_cell.desc).map (fun d => d.parameters.length) = some 2 := by decide +kernel
theorem hz_yX0_racesIn_1 : yX0_racesIn.cls ≠ "java/lang/invoke/MethodHandle" ∧ yX0_racesIn.cls ≠ "java/lang/invoke/VarHandle" ∧ (parseMethodDescriptor yX0_racesIn.desc).map (fun d => d.parameters.length) = some 1 := by decide +kernel
theorem hz_yX8_meanBeside_3 : yX8_meanBeside.cls ≠ "java/lang/invoke/MethodHandle" ∧ yX8_meanBeside.cls ≠ "java/lang/invoke/VarHandle" ∧ (parseMethodDescriptor yX8_meanBeside.desc).map (fun d => d.parameters.length) = some 3 := by decide +kernel
theorem hz_yX9_plainPointsOf_1 : yX9_plainPointsOf.cls ≠ "java/lang/invoke/MethodHandle" ∧ yX9_plainPointsOf.cls ≠ "java/lang/invoke/VarHandle" ∧ (parseMethodDescriptor yX9_plainPointsOf.desc).map (fun d => d.parameters.length) = some 1 := by decide +kernel
theorem hz_yX8_pointsIn_3 : yX8_pointsIn.cls ≠ "java/lang/invoke/MethodHandle" ∧ yX8_pointsIn.cls ≠ "java/lang/invoke/VarHandle" ∧ (parseMethodDescriptor yX8_pointsIn.desc).map (fun d => d.parameters.length) = some 3 := by decide +kernel

def v_plainPointsX : List Cond := .code yX9_plainPointsOf cX9_plainPointsOf 2 (some .int) :: vA
abbrev rm_plainPointsX : Room := { frames := 4, cells := 0, slots := 0, locals := 160 }
def w_plainPointsX : Nat → Nat → Bool := wl [19, 20] []
set_option maxHeartbeats 4000000 in
set_option maxRecDepth 100000 in
theorem q_plainPointsX (l : Launch) (dC : Nat → ClassId) (dI : Nat → Nat → Nat) (cT : Nat → ClassId) (cf : Nat → Nat) (hC : CF cf) (ad : Nat → Nat) (E : Nat → va_E) (sz : Nat) (a0 : Int32) (hI0 : IXL cT (shC cf) (spC cf) (LC cf) ad E) (hh0 : 0 ≤ a0.toInt ∧ a0.toInt ≤ 15) (hh1 : (xi (E 3) 6).toInt < ((cf 1 : Nat) : Int)) (hh2 : RulAll cf E) : Met l yX9_plainPointsOf v_plainPointsX rm_plainPointsX (va_Pc [.ref (ad 3), .int a0] (HWL dC dI (TYC cT) cf ad E sz)) (va_Qi (S := Nat → va_E) (fun r u => IXL cT (shC cf) (spC cf) (LC cf) ad u ∧ Kp w_plainPointsX E u ∧ ((0 ≤ r.toInt ∧ r.toInt ≤ 10000) ∧ (r.toInt = clamp (wV cf E 112 (xi (E 3) 6) (plL E a0.toNatClampNeg)).toInt))) (HBL dC dI (LC cf) ad) (va_A (WL (LC cf) ad E) sz)) 0 0 (va_A (WL (LC cf) ad E) sz) := by
  obtain ⟨⟨hc0, hc1, hc2, hc3, hc4, hc5⟩, hcr⟩ := id hC
  refine Met.ofW (cc := cX9_plainPointsOf) (maxL := 2) (ret := (some .int)) (by decide) rfl ?_
  intro p e s m args below meth c s₁ B hml hv
  obtain ⟨hargs, hsz, hP, hK, hD0, hEV⟩ := hv
  subst hsz
  have hx := B.exec
  have hb := B.bytes
  have hr := B.returns
  have hts := atoms_spec (ws := v_plainPointsX) B.pre
  have hown : s.vm.findClass RX9 = some m.cls := findClass_of_methodNamed B.named
  have hlocks := B.notSynchronized
  have hinX0 : ∀ w ∈ u_ws RX0 TX0 11, w ∈ v_plainPointsX := fun w h => vA_in _ w (in_X0 w h)
  have hinX9 : ∀ w ∈ u_ws RX9 TX9 9, w ∈ v_plainPointsX := fun w h => vA_in _ w (in_X9 w h)
  generalize hAe : va_A (WL (LC cf) ad E) s.heap.size = A at hEV ⊢
  have hA : ∀ q : Nat, s.heap.size ≤ q → A q := fun q h => by rw [← hAe]; exact Or.inr h
  have hD : va_D A (WL (LC cf) ad E) := by rw [← hAe]; exact hD0.self
  have hS : va_S A s.heap s.heap [] := va_S.rf
  have hI := hI0
  have hKp : Kp w_plainPointsX E E := Kp.rf
  have hl := lv_entry ([.ref (ad 3), .int a0]) (n := 2) (Nat.le_of_ble_eq_true rfl)
  obtain ⟨Q, hQ⟩ : ∃ Q, Q = MQ below (va_Qi (S := Nat → va_E) (fun r u => IXL cT (shC cf) (spC cf) (LC cf) ad u ∧ Kp w_plainPointsX E u ∧ ((0 ≤ r.toInt ∧ r.toInt ≤ 10000) ∧ (r.toInt = clamp (wV cf E 112 (xi (E 3) 6) (plL E a0.toNatClampNeg)).toInt))) (HBL dC dI (LC cf) ad) (A)) args s 0 0 (A) := ⟨_, rfl⟩
  rw [← hQ, show entryFrame m args 2 = _ from (congrArg (fun z => entryFrame m z 2) hargs).trans (lg_entry_eq _ _ _)]
  generalize (lg_sl ([.ref (ad 3), .int a0]) ++ List.replicate (2 - (lg_sl ([.ref (ad 3), .int a0])).length) Slot.unset).toArray = ls at hl ⊢
  have hl : lv_has ls 2 [(0, .ref (ad 3)), (1, .int a0)] := hl
  have z0z : (0 : Int32).toInt = 0 := rfl
  refine lv_aload_n hx hb dX9_plainPointsOf_0 rfl (lv_at hl 0 rfl) ?_
  refine th_getL (ci := 10) (C := RX9) (T := TX9) (N := 9) (v := .ref (ad 1)) hx hb hts hinX9 hown hK hP hI 3 (mF 3 rfl) rfl rfl 0 (Nat.le_of_ble_eq_true rfl) (hts _ (vA_in _ _ (in_11 _ (zs16 (zs16 (zs4 (zs1 (zs1 (zs1 (zs0)))))))))) (fun _ h9 => h9) (hI.fr 3 (mF 3 rfl) rfl (Nat.le_of_ble_eq_true rfl) 1 rfl) dX9_plainPointsOf_1 ?_
  refine th_vL (va_runV (As := []) (rest := []) ⟨hx, hb, hml, hown, hts⟩ (q_forgetX l dC dI cT cf hC ad E s.heap.size hI) (cwV 0 hts (gi_V (in_20 _ (zs16 (zs4 (zs4 (zs1 (zs0)))))) (in_6 _ (zs16 (zs16 (zs4 (zs1 (zs0)))))) (in_6 _ (zs16 (zs16 (zs4 (zs1 (zs1 (zs0))))))) (in_5 _ (zs4 (zs1 (zs1 (zs0))))) (in_5 _ (zs16 (zs4 (zs1 (zs1 (zs1 (zs0)))))))) rfl rfl rfl ⟨rfl, hz_yX0_forgetLetters_0⟩ ⟨Nat.le_of_ble_eq_true rfl, Nat.le_of_ble_eq_true rfl⟩) ⟨HWL_bl, va_recv hK hP (ci := 1) (q0 := posL 1 (LC cf)) rfl (hI.ob 1 (mF 1 rfl) rfl), (HWL_wi hP hK (WL_D hD) hS hA hEV)⟩ rfl rfl hl.1 rfl (lv_room (Nat.le_of_ble_eq_true rfl)) dX9_plainPointsOf_4 ⟨Nat.le_of_ble_eq_true rfl, Nat.le_of_ble_eq_true rfl⟩) (WL_D hD) hS hA (fun E2 H locs hw hP hS => ?_)
  obtain ⟨hI, kq3, hw⟩ := hw
  have hKb := hKp
  have hKp := hKp.tr kq3 (wl_sub rfl rfl)
  have f4 := hw
  refine lv_aload_n hx hb dX9_plainPointsOf_7 rfl (lv_at hl 0 rfl) ?_
  refine th_getL (ci := 10) (C := RX9) (T := TX9) (N := 9) (v := .ref (ad 1)) hx hb hts hinX9 hown hK hP hI 3 (mF 3 rfl) rfl rfl 0 (Nat.le_of_ble_eq_true rfl) (hts _ (vA_in _ _ (in_11 _ (zs16 (zs16 (zs4 (zs1 (zs1 (zs1 (zs0)))))))))) (fun _ h9 => h9) (hI.fr 3 (mF 3 rfl) rfl (Nat.le_of_ble_eq_true rfl) 1 rfl) dX9_plainPointsOf_8 ?_
  refine th_getL (ci := 1) (C := RX0) (T := TX0) (N := 11) (v := .ref (ad 19)) hx hb hts hinX0 hown hK hP hI 1 (mF 1 rfl) rfl rfl 9 (Nat.le_of_ble_eq_true rfl) (hts _ (vA_in _ _ (in_20 _ (zs16 (zs4 (zs4 (zs0))))))) (fun _ h9 => h9) (hI.fr 1 (mF 1 rfl) rfl (Nat.le_of_ble_eq_true rfl) 19 rfl) dX9_plainPointsOf_11 ?_
  refine lv_iconst (v := 3) hx hb dX9_plainPointsOf_14 (by decide) ?_
  refine lv_aload_n hx hb dX9_plainPointsOf_15 rfl (lv_at hl 0 rfl) ?_
  refine th_getL (ci := 10) (C := RX9) (T := TX9) (N := 9) (v := .ref (ad 26)) hx hb hts hinX9 hown hK hP hI 3 (mF 3 rfl) rfl rfl 1 (Nat.le_of_ble_eq_true rfl) (hts _ (vA_in _ _ (in_12 _ (zs4 (zs1 (zs1 (zs0))))))) (fun _ h9 => h9) (hI.fr 3 (mF 3 rfl) rfl (Nat.le_of_ble_eq_true rfl) 26 rfl) dX9_plainPointsOf_16 ?_
  refine lv_iload_n hx hb dX9_plainPointsOf_19 rfl (lv_at hl 1 rfl) ?_
  have n6 : vp_in a0 16 := (iv_in (n := 16) hh0 (by decide))
  refine th_ialdL hx hb hK hP hI 26 (mF 26 rfl) rfl rfl n6 dX9_plainPointsOf_20 (fun y5 ey5 => ?_)
  have iy5 : -1 ≤ y5.toInt ∧ y5.toInt ≤ 5 := hI.el 26 (mF 26 rfl) rfl n6 (fun _ => rfl) ey5
  have ey5 := ey5.trans (hKp.ei 26 _ rfl)
  refine lv_iconst (v := -1) hx hb dX9_plainPointsOf_21 (by decide) ?_
  refine lv_icmp_ne (tgt := 29) hx hb dX9_plainPointsOf_22 (by decide) (fun c7 => ?_) (fun c7 => ?_)
  · --22 taken
    have t8 : ¬ y5.toInt = -1 := ti_ne c7
    have i9 : 0 ≤ y5.toInt ∧ y5.toInt ≤ 5 := iv_ne_l t8 iy5 (il_ (-1))
    refine lv_aload_n hx hb dX9_plainPointsOf_29 rfl (lv_at hl 0 rfl) ?_
    refine th_getL (ci := 10) (C := RX9) (T := TX9) (N := 9) (v := .ref (ad 26)) hx hb hts hinX9 hown hK hP hI 3 (mF 3 rfl) rfl rfl 1 (Nat.le_of_ble_eq_true rfl) (hts _ (vA_in _ _ (in_12 _ (zs4 (zs1 (zs1 (zs0))))))) (fun _ h9 => h9) (hI.fr 3 (mF 3 rfl) rfl (Nat.le_of_ble_eq_true rfl) 26 rfl) dX9_plainPointsOf_30 ?_
    refine lv_iload_n hx hb dX9_plainPointsOf_33 rfl (lv_at hl 1 rfl) ?_
    have n11 : vp_in a0 16 := (iv_in (n := 16) hh0 (by decide))
    refine th_ialdL hx hb hK hP hI 26 (mF 26 rfl) rfl rfl n11 dX9_plainPointsOf_34 (fun y10 ey10 => ?_)
    have iy10 : -1 ≤ y10.toInt ∧ y10.toInt ≤ 5 := hI.el 26 (mF 26 rfl) rfl n11 (fun _ => rfl) ey10
    have ey10 := ey10.trans (hKp.ei 26 _ rfl)
    have n12 : vp_in (3 : Int32) 14 := (iv_in (n := 14) ln_3 (by decide))
    refine th_iastL hx hb hK hP (WL_D hD) hS hI 19 (mF 19 rfl) rfl rfl n12 (okI rfl (iv_w iy10 (by decide))) dX9_plainPointsOf_35 (fun H locs E13 pw14 hI hP hS => ?_)
    have hKp := hKp.pw pw14 rfl
    have k15 : cL E13 = lset lz 3 y10 := (cL_set (k := 3) pw14 rfl (by decide)).trans (by rw [f4])
    refine lv_aload_n hx hb dX9_plainPointsOf_36 rfl (lv_at hl 0 rfl) ?_
    refine th_getL (ci := 10) (C := RX9) (T := TX9) (N := 9) (v := .ref (ad 1)) hx hb hts hinX9 hown hK hP hI 3 (mF 3 rfl) rfl rfl 0 (Nat.le_of_ble_eq_true rfl) (hts _ (vA_in _ _ (in_11 _ (zs16 (zs16 (zs4 (zs1 (zs1 (zs1 (zs0)))))))))) (fun _ h9 => h9) (hI.fr 3 (mF 3 rfl) rfl (Nat.le_of_ble_eq_true rfl) 1 rfl) dX9_plainPointsOf_37 ?_
    refine th_getL (ci := 1) (C := RX0) (T := TX0) (N := 11) (v := .ref (ad 19)) hx hb hts hinX0 hown hK hP hI 1 (mF 1 rfl) rfl rfl 9 (Nat.le_of_ble_eq_true rfl) (hts _ (vA_in _ _ (in_20 _ (zs16 (zs4 (zs4 (zs0))))))) (fun _ h9 => h9) (hI.fr 1 (mF 1 rfl) rfl (Nat.le_of_ble_eq_true rfl) 19 rfl) dX9_plainPointsOf_40 ?_
    refine lv_iconst (v := 4) hx hb dX9_plainPointsOf_43 (by decide) ?_
    refine lv_aload_n hx hb dX9_plainPointsOf_44 rfl (lv_at hl 0 rfl) ?_
    refine th_getL (ci := 10) (C := RX9) (T := TX9) (N := 9) (v := .ref (ad 30)) hx hb hts hinX9 hown hK hP hI 3 (mF 3 rfl) rfl rfl 5 (Nat.le_of_ble_eq_true rfl) (hts _ (vA_in _ _ (in_12 _ (zs4 (zs4 (zs4 (zs0))))))) (fun _ h9 => h9) (hI.fr 3 (mF 3 rfl) rfl (Nat.le_of_ble_eq_true rfl) 30 rfl) dX9_plainPointsOf_45 ?_
    refine lv_iload_n hx hb dX9_plainPointsOf_48 rfl (lv_at hl 1 rfl) ?_
    have n17 : vp_in a0 16 := (iv_in (n := 16) hh0 (by decide))
    refine th_ialdL hx hb hK hP hI 30 (mF 30 rfl) rfl rfl n17 dX9_plainPointsOf_49 (fun y16 ey16 => ?_)
    have iy16 : 0 ≤ y16.toInt ∧ y16.toInt ≤ 245 := hI.el 30 (mF 30 rfl) rfl n17 (fun _ => rfl) ey16
    have ey16 := ey16.trans (hKp.ei 30 _ rfl)
    have n18 : vp_in (4 : Int32) 14 := (iv_in (n := 14) ln_4 (by decide))
    refine th_iastL hx hb hK hP (WL_D hD) hS hI 19 (mF 19 rfl) rfl rfl n18 (okI rfl (iv_w iy16 (by decide))) dX9_plainPointsOf_50 (fun H locs E19 pw20 hI hP hS => ?_)
    have hKp := hKp.pw pw20 rfl
    have k21 : cL E19 = lset (lset lz 3 y10) 4 y16 := (cL_set (k := 4) pw20 rfl (by decide)).trans (by rw [k15])
    refine lv_aload_n hx hb dX9_plainPointsOf_51 rfl (lv_at hl 0 rfl) ?_
    refine th_getL (ci := 10) (C := RX9) (T := TX9) (N := 9) (v := .ref (ad 1)) hx hb hts hinX9 hown hK hP hI 3 (mF 3 rfl) rfl rfl 0 (Nat.le_of_ble_eq_true rfl) (hts _ (vA_in _ _ (in_11 _ (zs16 (zs16 (zs4 (zs1 (zs1 (zs1 (zs0)))))))))) (fun _ h9 => h9) (hI.fr 3 (mF 3 rfl) rfl (Nat.le_of_ble_eq_true rfl) 1 rfl) dX9_plainPointsOf_52 ?_
    refine th_getL (ci := 1) (C := RX0) (T := TX0) (N := 11) (v := .ref (ad 19)) hx hb hts hinX0 hown hK hP hI 1 (mF 1 rfl) rfl rfl 9 (Nat.le_of_ble_eq_true rfl) (hts _ (vA_in _ _ (in_20 _ (zs16 (zs4 (zs4 (zs0))))))) (fun _ h9 => h9) (hI.fr 1 (mF 1 rfl) rfl (Nat.le_of_ble_eq_true rfl) 19 rfl) dX9_plainPointsOf_55 ?_
    refine lv_iconst (v := 5) hx hb dX9_plainPointsOf_58 (by decide) ?_
    refine lv_aload_n hx hb dX9_plainPointsOf_59 rfl (lv_at hl 0 rfl) ?_
    have i22 : 0 ≤ (xi (E 3) 7).toInt ∧ (xi (E 3) 7).toInt ≤ 16 := hI0.iv 3 (mF 3 rfl) rfl (Nat.le_of_ble_eq_true rfl) rfl
    refine th_getL (ci := 10) (C := RX9) (T := TX9) (N := 9) (v := .int (xi (E 3) 7)) hx hb hts hinX9 hown hK hP hI 3 (mF 3 rfl) rfl rfl 7 (Nat.le_of_ble_eq_true rfl) (hts _ (vA_in _ _ (in_12 _ (zs4 (zs0))))) (fun _ h9 => h9) (th_v0L hKp hI0 3 (mF 3 rfl) rfl (Nat.le_of_ble_eq_true rfl) rfl rfl) dX9_plainPointsOf_60 ?_
    have n23 : vp_in (5 : Int32) 14 := (iv_in (n := 14) ln_5 (by decide))
    refine th_iastL hx hb hK hP (WL_D hD) hS hI 19 (mF 19 rfl) rfl rfl n23 (okI rfl (iv_w i22 (by decide))) dX9_plainPointsOf_63 (fun H locs E24 pw25 hI hP hS => ?_)
    have hKp := hKp.pw pw25 rfl
    have k26 : cL E24 = lset (lset (lset lz 3 y10) 4 y16) 5 ((xi (E 3) 7)) := (cL_set (k := 5) pw25 rfl (by decide)).trans (by rw [k21])
    refine lv_aload_n hx hb dX9_plainPointsOf_64 rfl (lv_at hl 0 rfl) ?_
    refine th_getL (ci := 10) (C := RX9) (T := TX9) (N := 9) (v := .ref (ad 1)) hx hb hts hinX9 hown hK hP hI 3 (mF 3 rfl) rfl rfl 0 (Nat.le_of_ble_eq_true rfl) (hts _ (vA_in _ _ (in_11 _ (zs16 (zs16 (zs4 (zs1 (zs1 (zs1 (zs0)))))))))) (fun _ h9 => h9) (hI.fr 3 (mF 3 rfl) rfl (Nat.le_of_ble_eq_true rfl) 1 rfl) dX9_plainPointsOf_65 ?_
    refine th_getL (ci := 1) (C := RX0) (T := TX0) (N := 11) (v := .ref (ad 19)) hx hb hts hinX0 hown hK hP hI 1 (mF 1 rfl) rfl rfl 9 (Nat.le_of_ble_eq_true rfl) (hts _ (vA_in _ _ (in_20 _ (zs16 (zs4 (zs4 (zs0))))))) (fun _ h9 => h9) (hI.fr 1 (mF 1 rfl) rfl (Nat.le_of_ble_eq_true rfl) 19 rfl) dX9_plainPointsOf_68 ?_
    refine lv_bipush (v := 6) hx hb dX9_plainPointsOf_71 (by decide) ?_
    refine lv_aload_n hx hb dX9_plainPointsOf_73 rfl (lv_at hl 0 rfl) ?_
    have i27 : 0 ≤ (xi (E 3) 8).toInt ∧ (xi (E 3) 8).toInt ≤ 16 := hI0.iv 3 (mF 3 rfl) rfl (Nat.le_of_ble_eq_true rfl) rfl
    refine th_getL (ci := 10) (C := RX9) (T := TX9) (N := 9) (v := .int (xi (E 3) 8)) hx hb hts hinX9 hown hK hP hI 3 (mF 3 rfl) rfl rfl 8 (Nat.le_of_ble_eq_true rfl) (hts _ (vA_in _ _ (in_12 _ (zs4 (zs1 (zs0)))))) (fun _ h9 => h9) (th_v0L hKp hI0 3 (mF 3 rfl) rfl (Nat.le_of_ble_eq_true rfl) rfl rfl) dX9_plainPointsOf_74 ?_
    have n28 : vp_in (6 : Int32) 14 := (iv_in (n := 14) ln_6 (by decide))
    refine th_iastL hx hb hK hP (WL_D hD) hS hI 19 (mF 19 rfl) rfl rfl n28 (okI rfl (iv_w i27 (by decide))) dX9_plainPointsOf_77 (fun H locs E29 pw30 hI hP hS => ?_)
    have hKp := hKp.pw pw30 rfl
    have k31 : cL E29 = lset (lset (lset (lset lz 3 y10) 4 y16) 5 ((xi (E 3) 7))) 6 ((xi (E 3) 8)) := (cL_set (k := 6) pw30 rfl (by decide)).trans (by rw [k26])
    refine lv_aload_n hx hb dX9_plainPointsOf_78 rfl (lv_at hl 0 rfl) ?_
    refine th_getL (ci := 10) (C := RX9) (T := TX9) (N := 9) (v := .ref (ad 1)) hx hb hts hinX9 hown hK hP hI 3 (mF 3 rfl) rfl rfl 0 (Nat.le_of_ble_eq_true rfl) (hts _ (vA_in _ _ (in_11 _ (zs16 (zs16 (zs4 (zs1 (zs1 (zs1 (zs0)))))))))) (fun _ h9 => h9) (hI.fr 3 (mF 3 rfl) rfl (Nat.le_of_ble_eq_true rfl) 1 rfl) dX9_plainPointsOf_79 ?_
    refine lv_aload_n hx hb dX9_plainPointsOf_82 rfl (lv_at hl 0 rfl) ?_
    have i32 : -1 ≤ (xi (E 3) 6).toInt ∧ (xi (E 3) 6).toInt ≤ 15 := hI0.iv 3 (mF 3 rfl) rfl (Nat.le_of_ble_eq_true rfl) rfl
    refine th_getL (ci := 10) (C := RX9) (T := TX9) (N := 9) (v := .int (xi (E 3) 6)) hx hb hts hinX9 hown hK hP hI 3 (mF 3 rfl) rfl rfl 6 (Nat.le_of_ble_eq_true rfl) (hts _ (vA_in _ _ (in_12 _ (zs1 (zs1 (zs1 (zs0))))))) (fun _ h9 => h9) (th_v0L hKp hI0 3 (mF 3 rfl) rfl (Nat.le_of_ble_eq_true rfl) rfl rfl) dX9_plainPointsOf_83 ?_
    refine lv_bipush (v := 112) hx hb dX9_plainPointsOf_86 (by decide) ?_
    have z112 := ln_112
    refine th_iL (va_runV (As := [.int (xi (E 3) 6), .int 112]) (rest := []) ⟨hx, hb, hml, hown, hts⟩ (q_worthInX l dC dI cT cf hC ad E29 H.size (xi (E 3) 6) (112 : Int32) hI (by exact fun i9 hi9 => (hh2 i9 hi9).cg (kp_rul hKp (fun o9 ho9 j9 => wl_p rfl rfl ho9) i9)) (by rw [k31]; exact (ls_b (ls_b (ls_b (ls_b lz_b ⟨by omega, by omega⟩) ⟨by omega, by omega⟩) ⟨by omega, by omega⟩) ⟨by omega, by omega⟩)) i32 (by omega) (iv_w ln_112 (by decide))) (cwV 2 hts (gi_V (in_20 _ (zs16 (zs4 (zs4 (zs1 (zs1 (zs0))))))) (in_16 _ (zs16 (zs4 (zs4 (zs1 (zs1 (zs0))))))) (in_16 _ (zs16 (zs4 (zs4 (zs1 (zs1 (zs1 (zs0)))))))) (in_5 _ (zs4 (zs1 (zs1 (zs0))))) (in_7 _ (zs16 (zs4 (zs4 (zs4 (zs0))))))) rfl rfl rfl ⟨rfl, hz_yX0_worthIn_2⟩ ⟨Nat.le_of_ble_eq_true rfl, Nat.le_of_ble_eq_true rfl⟩) ⟨HWL_bl, va_recv hK hP (ci := 1) (q0 := posL 1 (LC cf)) rfl (hI.ob 1 (mF 1 rfl) rfl), (HWL_wi hP hK (WL_D hD) hS hA hEV)⟩ rfl rfl hl.1 rfl (lv_room (Nat.le_of_ble_eq_true rfl)) dX9_plainPointsOf_88 ⟨Nat.le_of_ble_eq_true rfl, Nat.le_of_ble_eq_true rfl⟩) (WL_D hD) hS hA (fun r33 E34 H locs hw hP hS => ?_)
    obtain ⟨hI, kq35, hw⟩ := hw
    have hKb := hKp
    have hKp := hKp.tr kq35 (wl_sub rfl rfl)
    have f36 := hw
    have k37 : r33 = wV cf E 112 (xi (E 3) 6) (plL E a0.toNatClampNeg) := f36.trans (by rw [k31, plL_of (E := E) (b := a0.toNatClampNeg) (by have gy5 := congrArg Int32.toInt ey5; have gy10 := congrArg Int32.toInt ey10; have gy16 := congrArg Int32.toInt ey16; rw [if_neg (by omega)]; omega) (by have gy5 := congrArg Int32.toInt ey5; have gy10 := congrArg Int32.toInt ey10; have gy16 := congrArg Int32.toInt ey16; omega) rfl rfl]; exact wV_cg (fun i9 t9 h9 g9 j9 => kp_rul hKb (fun o9 ho9 j9 => wl_p rfl rfl ho9) i9 t9 h9 g9 j9))
    refine lv_iconst (v := 0) hx hb dX9_plainPointsOf_91 (by decide) ?_
    refine lv_sipush (v := 10000) hx hb dX9_plainPointsOf_92 (by decide) ?_
    have z0 := ln_0
    have z10000 := ln_10000
    refine th_pi (va_runSN (As := [.int r33, .int 0, .int 10000]) (rest := []) ⟨hx, hb, hml, hown, hts⟩ (q_cheldX l r33 (0 : Int32) (10000 : Int32) (by omega)) ⟨va_cnB 3 hts (gi_0 (in_7 _ (zs16 (zs4 (zs4 (zs1 (zs1 (zs0)))))))) rfl rfl rfl (hEV.1.1 _ (List.mem_of_getElem? (i := 11) rfl)) (hts _ (vA_in _ _ (in_4 _ (zs16 (zs4 (zs1 (zs1 (zs1 (zs0))))))))) hz_yX12_held_3 ⟨Nat.le_of_ble_eq_true rfl, Nat.le_of_ble_eq_true rfl⟩, (hts _ (vA_in _ _ (in_7 _ (zs16 (zs4 (zs4 (zs1 (zs0)))))))), trivial⟩ ⟨fun _ _ _ _ q => q, fun _ _ _ => ⟨rfl, trivial⟩⟩ rfl rfl hl.1 rfl (lv_room (Nat.le_of_ble_eq_true rfl)) dX9_plainPointsOf_95 ⟨Nat.le_of_ble_eq_true rfl, Nat.le_of_ble_eq_true rfl⟩) hS (fun r38 H1 locs1 hw hk1 hS => ?_)
    have hP := ub_keep hP hk1
    generalize H1 = H at hP hS ⊢
    generalize locs1 = locs at hS ⊢
    have f39 := hw
    have i40 : 0 ≤ r38.toInt ∧ r38.toInt ≤ 10000 := by have h9 := f39; have z0 := ln_0; have z1 := ln_10000; omega
    rw [hQ]
    exact W.iret (v := r38) hx hb hr (fun t ht hW => ⟨⟨r38, E34, rfl, ⟨hI, hKp, ⟨i40, (by unfold clamp; rw [← k37]; have z0 := ln_0; have z1 := ln_10000; omega)⟩⟩, by show va_P (dC, dI) vwCl (WL (LC cf) ad E34) t.heap; rw [ht]; exact hP⟩, hS.F ht⟩) hS.2.2 dX9_plainPointsOf_98
  · --22 not
    have t41 : y5.toInt = -1 := ti_eq c7
    have i42 : -1 ≤ y5.toInt ∧ y5.toInt ≤ -1 := iv_eqi t41 iy5 (il_ (-1)) (by decide)
    refine lv_iconst (v := 2) hx hb dX9_plainPointsOf_25 (by decide) ?_
    refine lv_goto (tgt := 35) hx hb dX9_plainPointsOf_26 (by decide) ?_
    have n43 : vp_in (3 : Int32) 14 := (iv_in (n := 14) ln_3 (by decide))
    refine th_iastL hx hb hK hP (WL_D hD) hS hI 19 (mF 19 rfl) rfl rfl n43 (okI rfl (iv_w ln_2 (by decide))) dX9_plainPointsOf_35 (fun H locs E44 pw45 hI hP hS => ?_)
    have hKp := hKp.pw pw45 rfl
    have k46 : cL E44 = lset lz 3 ((2 : Int32)) := (cL_set (k := 3) pw45 rfl (by decide)).trans (by rw [f4])
    refine lv_aload_n hx hb dX9_plainPointsOf_36 rfl (lv_at hl 0 rfl) ?_
    refine th_getL (ci := 10) (C := RX9) (T := TX9) (N := 9) (v := .ref (ad 1)) hx hb hts hinX9 hown hK hP hI 3 (mF 3 rfl) rfl rfl 0 (Nat.le_of_ble_eq_true rfl) (hts _ (vA_in _ _ (in_11 _ (zs16 (zs16 (zs4 (zs1 (zs1 (zs1 (zs0)))))))))) (fun _ h9 => h9) (hI.fr 3 (mF 3 rfl) rfl (Nat.le_of_ble_eq_true rfl) 1 rfl) dX9_plainPointsOf_37 ?_
    refine th_getL (ci := 1) (C := RX0) (T := TX0) (N := 11) (v := .ref (ad 19)) hx hb hts hinX0 hown hK hP hI 1 (mF 1 rfl) rfl rfl 9 (Nat.le_of_ble_eq_true rfl) (hts _ (vA_in _ _ (in_20 _ (zs16 (zs4 (zs4 (zs0))))))) (fun _ h9 => h9) (hI.fr 1 (mF 1 rfl) rfl (Nat.le_of_ble_eq_true rfl) 19 rfl) dX9_plainPointsOf_40 ?_
    refine lv_iconst (v := 4) hx hb dX9_plainPointsOf_43 (by decide) ?_
    refine lv_aload_n hx hb dX9_plainPointsOf_44 rfl (lv_at hl 0 rfl) ?_
    refine th_getL (ci := 10) (C := RX9) (T := TX9) (N := 9) (v := .ref (ad 30)) hx hb hts hinX9 hown hK hP hI 3 (mF 3 rfl) rfl rfl 5 (Nat.le_of_ble_eq_true rfl) (hts _ (vA_in _ _ (in_12 _ (zs4 (zs4 (zs4 (zs0))))))) (fun _ h9 => h9) (hI.fr 3 (mF 3 rfl) rfl (Nat.le_of_ble_eq_true rfl) 30 rfl) dX9_plainPointsOf_45 ?_
    refine lv_iload_n hx hb dX9_plainPointsOf_48 rfl (lv_at hl 1 rfl) ?_
    have n48 : vp_in a0 16 := (iv_in (n := 16) hh0 (by decide))
    refine th_ialdL hx hb hK hP hI 30 (mF 30 rfl) rfl rfl n48 dX9_plainPointsOf_49 (fun y47 ey47 => ?_)
    have iy47 : 0 ≤ y47.toInt ∧ y47.toInt ≤ 245 := hI.el 30 (mF 30 rfl) rfl n48 (fun _ => rfl) ey47
    have ey47 := ey47.trans (hKp.ei 30 _ rfl)
    have n49 : vp_in (4 : Int32) 14 := (iv_in (n := 14) ln_4 (by decide))
    refine th_iastL hx hb hK hP (WL_D hD) hS hI 19 (mF 19 rfl) rfl rfl n49 (okI rfl (iv_w iy47 (by decide))) dX9_plainPointsOf_50 (fun H locs E50 pw51 hI hP hS => ?_)
    have hKp := hKp.pw pw51 rfl
    have k52 : cL E50 = lset (lset lz 3 ((2 : Int32))) 4 y47 := (cL_set (k := 4) pw51 rfl (by decide)).trans (by rw [k46])
    refine lv_aload_n hx hb dX9_plainPointsOf_51 rfl (lv_at hl 0 rfl) ?_
    refine th_getL (ci := 10) (C := RX9) (T := TX9) (N := 9) (v := .ref (ad 1)) hx hb hts hinX9 hown hK hP hI 3 (mF 3 rfl) rfl rfl 0 (Nat.le_of_ble_eq_true rfl) (hts _ (vA_in _ _ (in_11 _ (zs16 (zs16 (zs4 (zs1 (zs1 (zs1 (zs0)))))))))) (fun _ h9 => h9) (hI.fr 3 (mF 3 rfl) rfl (Nat.le_of_ble_eq_true rfl) 1 rfl) dX9_plainPointsOf_52 ?_
    refine th_getL (ci := 1) (C := RX0) (T := TX0) (N := 11) (v := .ref (ad 19)) hx hb hts hinX0 hown hK hP hI 1 (mF 1 rfl) rfl rfl 9 (Nat.le_of_ble_eq_true rfl) (hts _ (vA_in _ _ (in_20 _ (zs16 (zs4 (zs4 (zs0))))))) (fun _ h9 => h9) (hI.fr 1 (mF 1 rfl) rfl (Nat.le_of_ble_eq_true rfl) 19 rfl) dX9_plainPointsOf_55 ?_
    refine lv_iconst (v := 5) hx hb dX9_plainPointsOf_58 (by decide) ?_
    refine lv_aload_n hx hb dX9_plainPointsOf_59 rfl (lv_at hl 0 rfl) ?_
    have i53 : 0 ≤ (xi (E 3) 7).toInt ∧ (xi (E 3) 7).toInt ≤ 16 := hI0.iv 3 (mF 3 rfl) rfl (Nat.le_of_ble_eq_true rfl) rfl
    refine th_getL (ci := 10) (C := RX9) (T := TX9) (N := 9) (v := .int (xi (E 3) 7)) hx hb hts hinX9 hown hK hP hI 3 (mF 3 rfl) rfl rfl 7 (Nat.le_of_ble_eq_true rfl) (hts _ (vA_in _ _ (in_12 _ (zs4 (zs0))))) (fun _ h9 => h9) (th_v0L hKp hI0 3 (mF 3 rfl) rfl (Nat.le_of_ble_eq_true rfl) rfl rfl) dX9_plainPointsOf_60 ?_
    have n54 : vp_in (5 : Int32) 14 := (iv_in (n := 14) ln_5 (by decide))
    refine th_iastL hx hb hK hP (WL_D hD) hS hI 19 (mF 19 rfl) rfl rfl n54 (okI rfl (iv_w i53 (by decide))) dX9_plainPointsOf_63 (fun H locs E55 pw56 hI hP hS => ?_)
    have hKp := hKp.pw pw56 rfl
    have k57 : cL E55 = lset (lset (lset lz 3 ((2 : Int32))) 4 y47) 5 ((xi (E 3) 7)) := (cL_set (k := 5) pw56 rfl (by decide)).trans (by rw [k52])
    refine lv_aload_n hx hb dX9_plainPointsOf_64 rfl (lv_at hl 0 rfl) ?_
    refine th_getL (ci := 10) (C := RX9) (T := TX9) (N := 9) (v := .ref (ad 1)) hx hb hts hinX9 hown hK hP hI 3 (mF 3 rfl) rfl rfl 0 (Nat.le_of_ble_eq_true rfl) (hts _ (vA_in _ _ (in_11 _ (zs16 (zs16 (zs4 (zs1 (zs1 (zs1 (zs0)))))))))) (fun _ h9 => h9) (hI.fr 3 (mF 3 rfl) rfl (Nat.le_of_ble_eq_true rfl) 1 rfl) dX9_plainPointsOf_65 ?_
    refine th_getL (ci := 1) (C := RX0) (T := TX0) (N := 11) (v := .ref (ad 19)) hx hb hts hinX0 hown hK hP hI 1 (mF 1 rfl) rfl rfl 9 (Nat.le_of_ble_eq_true rfl) (hts _ (vA_in _ _ (in_20 _ (zs16 (zs4 (zs4 (zs0))))))) (fun _ h9 => h9) (hI.fr 1 (mF 1 rfl) rfl (Nat.le_of_ble_eq_true rfl) 19 rfl) dX9_plainPointsOf_68 ?_
    refine lv_bipush (v := 6) hx hb dX9_plainPointsOf_71 (by decide) ?_
    refine lv_aload_n hx hb dX9_plainPointsOf_73 rfl (lv_at hl 0 rfl) ?_
    have i58 : 0 ≤ (xi (E 3) 8).toInt ∧ (xi (E 3) 8).toInt ≤ 16 := hI0.iv 3 (mF 3 rfl) rfl (Nat.le_of_ble_eq_true rfl) rfl
    refine th_getL (ci := 10) (C := RX9) (T := TX9) (N := 9) (v := .int (xi (E 3) 8)) hx hb hts hinX9 hown hK hP hI 3 (mF 3 rfl) rfl rfl 8 (Nat.le_of_ble_eq_true rfl) (hts _ (vA_in _ _ (in_12 _ (zs4 (zs1 (zs0)))))) (fun _ h9 => h9) (th_v0L hKp hI0 3 (mF 3 rfl) rfl (Nat.le_of_ble_eq_true rfl) rfl rfl) dX9_plainPointsOf_74 ?_
    have n59 : vp_in (6 : Int32) 14 := (iv_in (n := 14) ln_6 (by decide))
    refine th_iastL hx hb hK hP (WL_D hD) hS hI 19 (mF 19 rfl) rfl rfl n59 (okI rfl (iv_w i58 (by decide))) dX9_plainPointsOf_77 (fun H locs E60 pw61 hI hP hS => ?_)
    have hKp := hKp.pw pw61 rfl
    have k62 : cL E60 = lset (lset (lset (lset lz 3 ((2 : Int32))) 4 y47) 5 ((xi (E 3) 7))) 6 ((xi (E 3) 8)) := (cL_set (k := 6) pw61 rfl (by decide)).trans (by rw [k57])
    refine lv_aload_n hx hb dX9_plainPointsOf_78 rfl (lv_at hl 0 rfl) ?_
    refine th_getL (ci := 10) (C := RX9) (T := TX9) (N := 9) (v := .ref (ad 1)) hx hb hts hinX9 hown hK hP hI 3 (mF 3 rfl) rfl rfl 0 (Nat.le_of_ble_eq_true rfl) (hts _ (vA_in _ _ (in_11 _ (zs16 (zs16 (zs4 (zs1 (zs1 (zs1 (zs0)))))))))) (fun _ h9 => h9) (hI.fr 3 (mF 3 rfl) rfl (Nat.le_of_ble_eq_true rfl) 1 rfl) dX9_plainPointsOf_79 ?_
    refine lv_aload_n hx hb dX9_plainPointsOf_82 rfl (lv_at hl 0 rfl) ?_
    have i63 : -1 ≤ (xi (E 3) 6).toInt ∧ (xi (E 3) 6).toInt ≤ 15 := hI0.iv 3 (mF 3 rfl) rfl (Nat.le_of_ble_eq_true rfl) rfl
    refine th_getL (ci := 10) (C := RX9) (T := TX9) (N := 9) (v := .int (xi (E 3) 6)) hx hb hts hinX9 hown hK hP hI 3 (mF 3 rfl) rfl rfl 6 (Nat.le_of_ble_eq_true rfl) (hts _ (vA_in _ _ (in_12 _ (zs1 (zs1 (zs1 (zs0))))))) (fun _ h9 => h9) (th_v0L hKp hI0 3 (mF 3 rfl) rfl (Nat.le_of_ble_eq_true rfl) rfl rfl) dX9_plainPointsOf_83 ?_
    refine lv_bipush (v := 112) hx hb dX9_plainPointsOf_86 (by decide) ?_
    have z112 := ln_112
    refine th_iL (va_runV (As := [.int (xi (E 3) 6), .int 112]) (rest := []) ⟨hx, hb, hml, hown, hts⟩ (q_worthInX l dC dI cT cf hC ad E60 H.size (xi (E 3) 6) (112 : Int32) hI (by exact fun i9 hi9 => (hh2 i9 hi9).cg (kp_rul hKp (fun o9 ho9 j9 => wl_p rfl rfl ho9) i9)) (by rw [k62]; exact (ls_b (ls_b (ls_b (ls_b lz_b ⟨by decide, by decide⟩) ⟨by omega, by omega⟩) ⟨by omega, by omega⟩) ⟨by omega, by omega⟩)) i63 (by omega) (iv_w ln_112 (by decide))) (cwV 2 hts (gi_V (in_20 _ (zs16 (zs4 (zs4 (zs1 (zs1 (zs0))))))) (in_16 _ (zs16 (zs4 (zs4 (zs1 (zs1 (zs0))))))) (in_16 _ (zs16 (zs4 (zs4 (zs1 (zs1 (zs1 (zs0)))))))) (in_5 _ (zs4 (zs1 (zs1 (zs0))))) (in_7 _ (zs16 (zs4 (zs4 (zs4 (zs0))))))) rfl rfl rfl ⟨rfl, hz_yX0_worthIn_2⟩ ⟨Nat.le_of_ble_eq_true rfl, Nat.le_of_ble_eq_true rfl⟩) ⟨HWL_bl, va_recv hK hP (ci := 1) (q0 := posL 1 (LC cf)) rfl (hI.ob 1 (mF 1 rfl) rfl), (HWL_wi hP hK (WL_D hD) hS hA hEV)⟩ rfl rfl hl.1 rfl (lv_room (Nat.le_of_ble_eq_true rfl)) dX9_plainPointsOf_88 ⟨Nat.le_of_ble_eq_true rfl, Nat.le_of_ble_eq_true rfl⟩) (WL_D hD) hS hA (fun r64 E65 H locs hw hP hS => ?_)
    obtain ⟨hI, kq66, hw⟩ := hw
    have hKb := hKp
    have hKp := hKp.tr kq66 (wl_sub rfl rfl)
    have f67 := hw
    have k68 : r64 = wV cf E 112 (xi (E 3) 6) (plL E a0.toNatClampNeg) := f67.trans (by rw [k62, plL_of (E := E) (b := a0.toNatClampNeg) (by have gy5 := congrArg Int32.toInt ey5; have gy47 := congrArg Int32.toInt ey47; rw [if_pos (by omega)]; rfl) (by have gy5 := congrArg Int32.toInt ey5; have gy47 := congrArg Int32.toInt ey47; omega) rfl rfl]; exact wV_cg (fun i9 t9 h9 g9 j9 => kp_rul hKb (fun o9 ho9 j9 => wl_p rfl rfl ho9) i9 t9 h9 g9 j9))
    refine lv_iconst (v := 0) hx hb dX9_plainPointsOf_91 (by decide) ?_
    refine lv_sipush (v := 10000) hx hb dX9_plainPointsOf_92 (by decide) ?_
    have z0 := ln_0
    have z10000 := ln_10000
    refine th_pi (va_runSN (As := [.int r64, .int 0, .int 10000]) (rest := []) ⟨hx, hb, hml, hown, hts⟩ (q_cheldX l r64 (0 : Int32) (10000 : Int32) (by omega)) ⟨va_cnB 3 hts (gi_0 (in_7 _ (zs16 (zs4 (zs4 (zs1 (zs1 (zs0)))))))) rfl rfl rfl (hEV.1.1 _ (List.mem_of_getElem? (i := 11) rfl)) (hts _ (vA_in _ _ (in_4 _ (zs16 (zs4 (zs1 (zs1 (zs1 (zs0))))))))) hz_yX12_held_3 ⟨Nat.le_of_ble_eq_true rfl, Nat.le_of_ble_eq_true rfl⟩, (hts _ (vA_in _ _ (in_7 _ (zs16 (zs4 (zs4 (zs1 (zs0)))))))), trivial⟩ ⟨fun _ _ _ _ q => q, fun _ _ _ => ⟨rfl, trivial⟩⟩ rfl rfl hl.1 rfl (lv_room (Nat.le_of_ble_eq_true rfl)) dX9_plainPointsOf_95 ⟨Nat.le_of_ble_eq_true rfl, Nat.le_of_ble_eq_true rfl⟩) hS (fun r69 H1 locs1 hw hk1 hS => ?_)
    have hP := ub_keep hP hk1
    generalize H1 = H at hP hS ⊢
    generalize locs1 = locs at hS ⊢
    have f70 := hw
    have i71 : 0 ≤ r69.toInt ∧ r69.toInt ≤ 10000 := by have h9 := f70; have z0 := ln_0; have z1 := ln_10000; omega
    rw [hQ]
    exact W.iret (v := r69) hx hb hr (fun t ht hW => ⟨⟨r69, E65, rfl, ⟨hI, hKp, ⟨i71, (by unfold clamp; rw [← k68]; have z0 := ln_0; have z1 := ln_10000; omega)⟩⟩, by show va_P (dC, dI) vwCl (WL (LC cf) ad E65) t.heap; rw [ht]; exact hP⟩, hS.F ht⟩) hS.2.2 dX9_plainPointsOf_98
def v_racesInX : List Cond := .code yX0_racesIn cX0_racesIn 4 (some .int) :: vA
abbrev rm_racesInX : Room := { frames := 3, cells := 0, slots := 0, locals := 120 }
set_option maxHeartbeats 4000000 in
set_option maxRecDepth 100000 in
theorem q_racesInX (l : Launch) (dC : Nat → ClassId) (dI : Nat → Nat → Nat) (cT : Nat → ClassId) (cf : Nat → Nat) (hC : CF cf) (ad : Nat → Nat) (E : Nat → va_E) (sz : Nat) (a0 : Int32) (hI0 : IXL cT (shC cf) (spC cf) (LC cf) ad E)  : Met l yX0_racesIn v_racesInX rm_racesInX (va_Pc [.ref (ad 1), .int a0] (HWL dC dI (TYC cT) cf ad E sz)) (va_Qi (S := Unit) (fun r _ => (0 ≤ r.toInt ∧ r.toInt ≤ 20) ∧ (r.toInt ≤ ((cf 2 : Nat) : Int)) ∧ (CnR (fun i9 => (rcS E i9 0).toInt ≤ a0.toInt) (cf 2) r.toInt)) (fun _ _ => True) (fun _ => False)) 0 0 (fun _ => False) := by
  obtain ⟨⟨hc0, hc1, hc2, hc3, hc4, hc5⟩, hcr⟩ := id hC
  refine Met.ofW (cc := cX0_racesIn) (maxL := 4) (ret := (some .int)) (by decide) rfl ?_
  intro p e s m args below meth c s₁ B hml hv
  obtain ⟨hargs, hsz, hP, hK, hD0, hEV⟩ := hv
  subst hsz
  have hx := B.exec
  have hb := B.bytes
  have hr := B.returns
  have hts := atoms_spec (ws := v_racesInX) B.pre
  have hown : s.vm.findClass RX0 = some m.cls := findClass_of_methodNamed B.named
  have hlocks := B.notSynchronized
  have hinX0 : ∀ w ∈ u_ws RX0 TX0 11, w ∈ v_racesInX := fun w h => vA_in _ w (in_X0 w h)
  have hinX5 : ∀ w ∈ u_ws RX5 TX5 12, w ∈ v_racesInX := fun w h => vA_in _ w (in_X5 w h)
  have hS : va_S (fun _ : Nat => False) s.heap s.heap [] := va_S.rf
  have hD := hD0
  have hI := hI0
  have hKp : Kp (wl [] []) E E := Kp.rf
  have hl := lv_entry ([.ref (ad 1), .int a0]) (n := 4) (Nat.le_of_ble_eq_true rfl)
  obtain ⟨Q, hQ⟩ : ∃ Q, Q = MQ below (va_Qi (S := Unit) (fun r _ => (0 ≤ r.toInt ∧ r.toInt ≤ 20) ∧ (r.toInt ≤ ((cf 2 : Nat) : Int)) ∧ (CnR (fun i9 => (rcS E i9 0).toInt ≤ a0.toInt) (cf 2) r.toInt)) (fun _ _ => True) (fun _ => False)) args s 0 0 (fun _ => False) := ⟨_, rfl⟩
  rw [← hQ, show entryFrame m args 4 = _ from (congrArg (fun z => entryFrame m z 4) hargs).trans (lg_entry_eq _ _ _)]
  generalize (lg_sl ([.ref (ad 1), .int a0]) ++ List.replicate (4 - (lg_sl ([.ref (ad 1), .int a0])).length) Slot.unset).toArray = ls at hl ⊢
  have hl : lv_has ls 4 [(0, .ref (ad 1)), (1, .int a0)] := hl
  have z0z : (0 : Int32).toInt = 0 := rfl
  refine lv_iconst (v := 0) hx hb dX0_racesIn_0 (by decide) ?_
  refine lv_istore_n (lv' := [(2, .int 0), (0, .ref (ad 1)), (1, .int a0)]) hx hb dX0_racesIn_1 rfl hl (by decide) rfl (fun ls hl => ?_)
  refine lv_iconst (v := 0) hx hb dX0_racesIn_2 (by decide) ?_
  refine lv_istore_n (lv' := [(3, .int 0), (2, .int 0), (0, .ref (ad 1)), (1, .int a0)]) hx hb dX0_racesIn_3 rfl hl (by decide) rfl (fun ls hl => ?_)
  have hL4 : ∀ d : Nat, ∀ (v4_3 : Int32) (v4_2 : Int32) (H : Heap) (locs : List Loc) (ls : Array Slot), 0 ≤ v4_3.toInt ∧ v4_3.toInt ≤ 20 → 0 ≤ v4_2.toInt ∧ v4_2.toInt ≤ 20 → CnR (fun i9 => (rcS E i9 0).toInt ≤ a0.toInt) v4_3.toNatClampNeg v4_2.toInt → v4_3.toInt ≤ ((cf 2 : Nat) : Int) → (0 ≤ v4_2.toInt ∧ v4_2.toInt ≤ v4_3.toInt) → 20 - v4_3.toInt < (d : Int) → va_P (dC, dI) vwCl (WL (LC cf) ad E) H → va_S (fun _ : Nat => False) s.heap H locs → lv_has ls 4 [(3, .int v4_3), (2, .int v4_2), (0, .ref (ad 1)), (1, .int a0)] → W p l e (headSpec v_racesInX rm_racesInX).room s m args below meth c H locs 0 0 Q (F0 m 4 ls []) := by
    intro d
    induction d with
    | zero =>
      intro v4_3 v4_2 H locs ls hv4_3 hv4_2 hx4_0 hx4_1 hx4_2 hx4_3 hP hS hl
      exact absurd hx4_3 (by first | exact ms_zu hv4_3.2 | omega)
    | succ d ih4 =>
      intro v4_3 v4_2 H locs ls hv4_3 hv4_2 hx4_0 hx4_1 hx4_2 hx4_3 hP hS hl
      refine lv_iload_n hx hb dX0_racesIn_4 rfl (lv_at hl 0 rfl) ?_
      refine lv_aload_n hx hb dX0_racesIn_5 rfl (lv_at hl 2 rfl) ?_
      refine th_getL (ci := 1) (C := RX0) (T := TX0) (N := 11) (v := .ref (ad 9)) hx hb hts hinX0 hown hK hP hI 1 (mF 1 rfl) rfl rfl 5 (Nat.le_of_ble_eq_true rfl) (hts _ (vA_in _ _ (in_5 _ (zs1 (zs0))))) (fun _ h9 => h9) (hI.fr 1 (mF 1 rfl) rfl (Nat.le_of_ble_eq_true rfl) 9 rfl) dX0_racesIn_6 ?_
      refine th_riL (va_runV (As := []) (rest := [.int v4_3]) ⟨hx, hb, hml, hown, hts⟩ (q_size2 l dC dI cT cf hC ad E H.size hI) (cwV 0 hts (gi_V (in_4 _ (zs16 (zs16 (zs1 (zs1 (zs0)))))) (in_4 _ (zs16 (zs16 (zs1 (zs1 (zs1 (zs0))))))) (in_4 _ (zs16 (zs16 (zs4 (zs0))))) (in_3 _ (zs16 (zs1 (zs1 (zs0))))) (in_4 _ (zs16 (zs1 (zs1 (zs1 (zs0))))))) rfl rfl rfl ⟨rfl, hz_yJx4a65c_size_8abf5_0⟩ ⟨Nat.le_of_ble_eq_true rfl, Nat.le_of_ble_eq_true rfl⟩) ⟨HWL_bl, va_recv hK hP (ci := 0) (q0 := posL 9 (LC cf)) rfl (hI.ob 9 (mF 9 rfl) rfl), (HWL_wiR hP hK (WL_D hD) hS hEV)⟩ rfl rfl hl.1 rfl (lv_room (Nat.le_of_ble_eq_true rfl)) dX0_racesIn_9 ⟨Nat.le_of_ble_eq_true rfl, Nat.le_of_ble_eq_true rfl⟩) hS hP (fun r1 H locs hw hP hS => ?_)
      obtain ⟨f2, f3⟩ := hw
      refine lv_icmp_ge (tgt := 42) hx hb dX0_racesIn_12 (by decide) (fun c4 => ?_) (fun c4 => ?_)
      · --12 taken
        have t5 : r1.toInt ≤ v4_3.toInt := ti_le c4
        refine lv_iload_n hx hb dX0_racesIn_42 rfl (lv_at hl 1 rfl) ?_
        rw [hQ]
        exact W.iret (v := v4_2) hx hb hr (fun t ht hW => ⟨⟨v4_2, (), rfl, ⟨hv4_2, by all_goals omega, (by have h9 := hx4_0; rw [show v4_3.toNatClampNeg = cf 2 by rw [tn_]; omega] at h9; exact h9)⟩, trivial⟩, hS.F ht⟩) hS.2.2 dX0_racesIn_43
      · --12 not
        have t6 : v4_3.toInt < r1.toInt := ti_nle c4
        have i7 : 0 ≤ v4_3.toInt ∧ v4_3.toInt ≤ 19 := iv_lt_l t6 hv4_3 f2 (by decide)
        have i8 : 1 ≤ r1.toInt ∧ r1.toInt ≤ 20 := iv_lt_r t6 hv4_3 f2 (by decide)
        have i9 : 0 ≤ v4_2.toInt ∧ v4_2.toInt ≤ 19 := by omega
        refine lv_aload_n hx hb dX0_racesIn_15 rfl (lv_at hl 2 rfl) ?_
        refine th_getL (ci := 1) (C := RX0) (T := TX0) (N := 11) (v := .ref (ad 9)) hx hb hts hinX0 hown hK hP hI 1 (mF 1 rfl) rfl rfl 5 (Nat.le_of_ble_eq_true rfl) (hts _ (vA_in _ _ (in_5 _ (zs1 (zs0))))) (fun _ h9 => h9) (hI.fr 1 (mF 1 rfl) rfl (Nat.le_of_ble_eq_true rfl) 9 rfl) dX0_racesIn_16 ?_
        refine lv_iload_n hx hb dX0_racesIn_19 rfl (lv_at hl 0 rfl) ?_
        refine th_rrL (va_runV (As := [.int v4_3]) (rest := []) ⟨hx, hb, hml, hown, hts⟩ (q_get2 l dC dI cT cf hC ad E H.size v4_3 hI (by omega)) (cwV 1 hts (gi_V (in_4 _ (zs16 (zs16 (zs4 (zs1 (zs0)))))) (in_4 _ (zs16 (zs16 (zs4 (zs1 (zs1 (zs0))))))) (in_4 _ (zs16 (zs16 (zs4 (zs1 (zs1 (zs1 (zs0)))))))) (in_3 _ (zs16 (zs1 (zs1 (zs0))))) (in_3 _ (zs16 (zs16 (zs4 (zs1 (zs1 (zs1 (zs0))))))))) rfl rfl rfl ⟨rfl, hz_yJx4a65c_get_915e3_1⟩ ⟨Nat.le_of_ble_eq_true rfl, Nat.le_of_ble_eq_true rfl⟩) ⟨HWL_bl, va_recv hK hP (ci := 0) (q0 := posL 9 (LC cf)) rfl (hI.ob 9 (mF 9 rfl) rfl), (HWL_wiR hP hK (WL_D hD) hS hEV)⟩ rfl rfl hl.1 rfl (lv_room (Nat.le_of_ble_eq_true rfl)) dX0_racesIn_20 ⟨Nat.le_of_ble_eq_true rfl, Nat.le_of_ble_eq_true rfl⟩) hS hP (fun r10 H locs hw hP hS => ?_)
        obtain rfl := hw
        have lv11 : v4_3.toNatClampNeg < cf 2 := by rw [tn_]; omega
        refine va_castS (cC := dC 6) hx hb hown (hts _ (vA_in _ _ (in_6 _ zs0))) (hK.1 6 _ rfl).2 (va_recv hK hP (ci := 6) (q0 := posL (64 * (v4_3.toNatClampNeg + 1) + 6) (LC cf)) rfl (hI.ob (64 * (v4_3.toNatClampNeg + 1) + 6) (mP 6 v4_3.toNatClampNeg (by decide) lv11 (kl_le hC 2 (by decide))) (shC_p 6 v4_3.toNatClampNeg (by decide)))) dX0_racesIn_23 ?_
        have i12 : 0 ≤ (xi (E (64 * (v4_3.toNatClampNeg + 1) + 6)) 0).toInt ∧ (xi (E (64 * (v4_3.toNatClampNeg + 1) + 6)) 0).toInt ≤ 400 := hI0.iv (64 * (v4_3.toNatClampNeg + 1) + 6) (mP 6 v4_3.toNatClampNeg (by decide) lv11 (kl_le hC 2 (by decide))) (shC_p 6 v4_3.toNatClampNeg (by decide)) (Nat.le_of_ble_eq_true rfl) (spC_p 6 v4_3.toNatClampNeg (by decide) 0)
        refine th_getL (ci := 6) (C := RX5) (T := TX5) (N := 12) (v := .int (xi (E (64 * (v4_3.toNatClampNeg + 1) + 6)) 0)) hx hb hts hinX5 hown hK hP hI (64 * (v4_3.toNatClampNeg + 1) + 6) (mP 6 v4_3.toNatClampNeg (by decide) lv11 (kl_le hC 2 (by decide))) (shC_p 6 v4_3.toNatClampNeg (by decide)) rfl 0 (Nat.le_of_ble_eq_true rfl) (hts _ (vA_in _ _ (in_6 _ (zs1 (zs0))))) (fun _ h9 => h9) (th_v0L hKp hI0 (64 * (v4_3.toNatClampNeg + 1) + 6) (mP 6 v4_3.toNatClampNeg (by decide) lv11 (kl_le hC 2 (by decide))) (shC_p 6 v4_3.toNatClampNeg (by decide)) (Nat.le_of_ble_eq_true rfl) (spC_p 6 v4_3.toNatClampNeg (by decide) 0) (wl_p rfl rfl (by omega))) dX0_racesIn_26 ?_
        refine lv_iload_n hx hb dX0_racesIn_29 rfl (lv_at hl 3 rfl) ?_
        refine lv_icmp_gt (tgt := 36) hx hb dX0_racesIn_30 (by decide) (fun c13 => ?_) (fun c13 => ?_)
        · --30 taken
          have t14 : a0.toInt < (xi (E (64 * (v4_3.toNatClampNeg + 1) + 6)) 0).toInt := ti_lt c13
          have i15 : -2147483648 ≤ a0.toInt ∧ a0.toInt ≤ 399 := iv_lt_l t14 (iv_all _) i12 (by decide)
          obtain ⟨y16, ey16⟩ : ∃ y : Int32, y = v4_3 + (1 : Int32) := ⟨_, rfl⟩
          obtain ⟨ty16, iy16⟩ := ti_add (e := 1) (f := 20) i7 ln_1 ey16 (by decide)
          have ty16 : y16.toInt = v4_3.toInt + 1 := ty16
          have iy16 : 1 ≤ y16.toInt ∧ y16.toInt ≤ 20 := iy16
          refine lv_iinc (v := y16) (lv' := [(3, .int y16), (2, .int v4_2), (0, .ref (ad 1)), (1, .int a0)]) hx hb dX0_racesIn_36 hl (k := 0) rfl (by rw [ey16]; rfl) (by decide) rfl (fun ls hl => ?_)
          refine lv_goto (tgt := 4) hx hb dX0_racesIn_39 (by decide) ?_
          exact ih4 y16 v4_2 _ _ _ (iv_w iy16 (by decide)) (iv_w i9 (by decide)) (hx4_0.no (show ¬ (xi (E (64 * (v4_3.toNatClampNeg + 1) + 6)) 0).toInt ≤ a0.toInt by omega) rfl (by rw [tn_ y16, tn_ v4_3]; omega)) (by omega) (by omega) (by first | exact ms_su hx4_3 ty16 (by decide) | omega) hP hS (lv_sub hl [0, 1, 2, 3] rfl)
        · --30 not
          have t17 : (xi (E (64 * (v4_3.toNatClampNeg + 1) + 6)) 0).toInt ≤ a0.toInt := ti_nlt c13
          have i18 : 0 ≤ a0.toInt ∧ a0.toInt ≤ 2147483647 := iv_le_r t17 i12 (iv_all _) (by decide)
          obtain ⟨y19, ey19⟩ : ∃ y : Int32, y = v4_2 + (1 : Int32) := ⟨_, rfl⟩
          obtain ⟨ty19, iy19⟩ := ti_add (e := 1) (f := 20) i9 ln_1 ey19 (by decide)
          have ty19 : y19.toInt = v4_2.toInt + 1 := ty19
          have iy19 : 1 ≤ y19.toInt ∧ y19.toInt ≤ 20 := iy19
          refine lv_iinc (v := y19) (lv' := [(2, .int y19), (3, .int v4_3), (0, .ref (ad 1)), (1, .int a0)]) hx hb dX0_racesIn_33 hl (k := 1) rfl (by rw [ey19]; rfl) (by decide) rfl (fun ls hl => ?_)
          obtain ⟨y20, ey20⟩ : ∃ y : Int32, y = v4_3 + (1 : Int32) := ⟨_, rfl⟩
          obtain ⟨ty20, iy20⟩ := ti_add (e := 1) (f := 20) i7 ln_1 ey20 (by decide)
          have ty20 : y20.toInt = v4_3.toInt + 1 := ty20
          have iy20 : 1 ≤ y20.toInt ∧ y20.toInt ≤ 20 := iy20
          refine lv_iinc (v := y20) (lv' := [(3, .int y20), (2, .int y19), (0, .ref (ad 1)), (1, .int a0)]) hx hb dX0_racesIn_36 hl (k := 1) rfl (by rw [ey20]; rfl) (by decide) rfl (fun ls hl => ?_)
          refine lv_goto (tgt := 4) hx hb dX0_racesIn_39 (by decide) ?_
          exact ih4 y20 y19 _ _ _ (iv_w iy20 (by decide)) (iv_w iy19 (by decide)) (hx4_0.one (show (xi (E (64 * (v4_3.toNatClampNeg + 1) + 6)) 0).toInt ≤ a0.toInt by omega) ty19 (by rw [tn_ y20, tn_ v4_3]; omega)) (by omega) (by omega) (by first | exact ms_su hx4_3 ty20 (by decide) | omega) hP hS (lv_sub hl [0, 1, 2, 3] rfl)
  exact hL4 (21) (0 : Int32) (0 : Int32) _ _ _ (iv_w ln_0 (by decide)) (iv_w ln_0 (by decide)) (show CnR _ 0 0 from rfl) (by omega) (by have z9 := ln_0; omega) (by have h9 := ln_0; first | exact ms_bu h9.1 (by decide) | omega) hP hS (lv_sub hl [0, 1, 2, 3] rfl)
def v_meanBesideX : List Cond := .code yX8_meanBeside cX8_meanBeside 7 (some .int) :: vA
abbrev rm_meanBesideX : Room := { frames := 3, cells := 0, slots := 0, locals := 120 }
set_option maxHeartbeats 4000000 in
set_option maxRecDepth 100000 in
theorem q_meanBesideX (l : Launch) (dC : Nat → ClassId) (dI : Nat → Nat → Nat) (cT : Nat → ClassId) (cf : Nat → Nat) (hC : CF cf) (ad : Nat → Nat) (E : Nat → va_E) (sz : Nat) (a0 : Int32) (a1 : Int32) (a2 : Int32) (hI0 : IXL cT (shC cf) (spC cf) (LC cf) ad E) (hh0 : 0 ≤ a0.toInt ∧ a0.toInt ≤ 19) (hh1 : 0 ≤ a1.toInt ∧ a1.toInt ≤ 15) : Met l yX8_meanBeside v_meanBesideX rm_meanBesideX (va_Pc [.ref (ad 4), .int a0, .int a1, .int a2] (HWL dC dI (TYC cT) cf ad E sz)) (va_Qi (S := Unit) (fun r _ => (MnB E a0.toNatClampNeg a1.toNatClampNeg a2.toInt (xi (E 4) 2).toNatClampNeg r.toInt)) (fun _ _ => True) (fun _ => False)) 0 0 (fun _ => False) := by
  obtain ⟨⟨hc0, hc1, hc2, hc3, hc4, hc5⟩, hcr⟩ := id hC
  refine Met.ofW (cc := cX8_meanBeside) (maxL := 7) (ret := (some .int)) (by decide) rfl ?_
  intro p e s m args below meth c s₁ B hml hv
  obtain ⟨hargs, hsz, hP, hK, hD0, hEV⟩ := hv
  subst hsz
  have hx := B.exec
  have hb := B.bytes
  have hr := B.returns
  have hts := atoms_spec (ws := v_meanBesideX) B.pre
  have hown : s.vm.findClass RX8 = some m.cls := findClass_of_methodNamed B.named
  have hlocks := B.notSynchronized
  have hinX0 : ∀ w ∈ u_ws RX0 TX0 11, w ∈ v_meanBesideX := fun w h => vA_in _ w (in_X0 w h)
  have hinX8 : ∀ w ∈ u_ws RX8 TX8 10, w ∈ v_meanBesideX := fun w h => vA_in _ w (in_X8 w h)
  have hS : va_S (fun _ : Nat => False) s.heap s.heap [] := va_S.rf
  have hD := hD0
  have hI := hI0
  have hKp : Kp (wl [] []) E E := Kp.rf
  have hl := lv_entry ([.ref (ad 4), .int a0, .int a1, .int a2]) (n := 7) (Nat.le_of_ble_eq_true rfl)
  obtain ⟨Q, hQ⟩ : ∃ Q, Q = MQ below (va_Qi (S := Unit) (fun r _ => (MnB E a0.toNatClampNeg a1.toNatClampNeg a2.toInt (xi (E 4) 2).toNatClampNeg r.toInt)) (fun _ _ => True) (fun _ => False)) args s 0 0 (fun _ => False) := ⟨_, rfl⟩
  rw [← hQ, show entryFrame m args 7 = _ from (congrArg (fun z => entryFrame m z 7) hargs).trans (lg_entry_eq _ _ _)]
  generalize (lg_sl ([.ref (ad 4), .int a0, .int a1, .int a2]) ++ List.replicate (7 - (lg_sl ([.ref (ad 4), .int a0, .int a1, .int a2])).length) Slot.unset).toArray = ls at hl ⊢
  have hl : lv_has ls 7 [(0, .ref (ad 4)), (1, .int a0), (2, .int a1), (3, .int a2)] := hl
  have z0z : (0 : Int32).toInt = 0 := rfl
  have irc : 0 ≤ (xi (E 4) 2).toInt ∧ (xi (E 4) 2).toInt ≤ ((cf 2 : Nat) : Int) := hI0.iv 4 (mF 4 rfl) rfl (Nat.le_of_ble_eq_true rfl) rfl
  refine lv_iconst (v := 0) hx hb dX8_meanBeside_0 (by decide) ?_
  refine lv_istore (lv' := [(4, .int 0), (0, .ref (ad 4)), (1, .int a0), (2, .int a1), (3, .int a2)]) hx hb dX8_meanBeside_1 hl (by decide) rfl (fun ls hl => ?_)
  refine lv_iconst (v := 0) hx hb dX8_meanBeside_3 (by decide) ?_
  refine lv_istore (lv' := [(5, .int 0), (4, .int 0), (0, .ref (ad 4)), (1, .int a0), (2, .int a1), (3, .int a2)]) hx hb dX8_meanBeside_4 hl (by decide) rfl (fun ls hl => ?_)
  refine lv_iconst (v := 0) hx hb dX8_meanBeside_6 (by decide) ?_
  refine lv_istore (lv' := [(6, .int 0), (5, .int 0), (4, .int 0), (0, .ref (ad 4)), (1, .int a0), (2, .int a1), (3, .int a2)]) hx hb dX8_meanBeside_7 hl (by decide) rfl (fun ls hl => ?_)
  have hL9 : ∀ d : Nat, ∀ (v9_6 : Int32) (v9_5 : Int32) (v9_4 : Int32) (H : Heap) (locs : List Loc) (ls : Array Slot), 0 ≤ v9_6.toInt ∧ v9_6.toInt ≤ 20 → 0 ≤ v9_5.toInt ∧ v9_5.toInt ≤ 20 → 0 ≤ v9_4.toInt ∧ v9_4.toInt ≤ 2147483647 → SmR (fun o9 => ¬ o9 = a0.toNatClampNeg ∧ ¬ redC E a1.toNatClampNeg a2.toInt o9) (fun o9 v9 => v9 = (xi (E 31) (16 * o9 + a1.toNatClampNeg)).toInt) v9_6.toNatClampNeg v9_4.toInt → CnR (fun o9 => ¬ o9 = a0.toNatClampNeg ∧ ¬ redC E a1.toNatClampNeg a2.toInt o9) v9_6.toNatClampNeg v9_5.toInt → (0 ≤ v9_5.toInt ∧ v9_5.toInt ≤ v9_6.toInt) → (0 ≤ v9_4.toInt ∧ v9_4.toInt ≤ 10000 * v9_5.toInt) → v9_6.toInt ≤ (xi (E 4) 2).toInt → 20 - v9_6.toInt < (d : Int) → va_P (dC, dI) vwCl (WL (LC cf) ad E) H → va_S (fun _ : Nat => False) s.heap H locs → lv_has ls 7 [(6, .int v9_6), (5, .int v9_5), (4, .int v9_4), (0, .ref (ad 4)), (1, .int a0), (2, .int a1), (3, .int a2)] → W p l e (headSpec v_meanBesideX rm_meanBesideX).room s m args below meth c H locs 0 0 Q (F0 m 9 ls []) := by
    intro d
    induction d with
    | zero =>
      intro v9_6 v9_5 v9_4 H locs ls hv9_6 hv9_5 hv9_4 hx9_0 hx9_1 hx9_2 hx9_3 hx9_4 hx9_5 hP hS hl
      exact absurd hx9_5 (by first | exact ms_zu hv9_6.2 | omega)
    | succ d ih9 =>
      intro v9_6 v9_5 v9_4 H locs ls hv9_6 hv9_5 hv9_4 hx9_0 hx9_1 hx9_2 hx9_3 hx9_4 hx9_5 hP hS hl
      refine lv_iload hx hb dX8_meanBeside_9 (lv_at hl 0 rfl) ?_
      refine lv_aload_n hx hb dX8_meanBeside_11 rfl (lv_at hl 3 rfl) ?_
      have j2 : 0 ≤ (xi (E 4) 2).toInt ∧ (xi (E 4) 2).toInt ≤ ((cf 2 : Nat) : Int) := hI0.iv 4 (mF 4 rfl) rfl (Nat.le_of_ble_eq_true rfl) rfl
      have i1 : 0 ≤ (xi (E 4) 2).toInt ∧ (xi (E 4) 2).toInt ≤ 20 := by omega
      refine th_getL (ci := 9) (C := RX8) (T := TX8) (N := 10) (v := .int (xi (E 4) 2)) hx hb hts hinX8 hown hK hP hI 4 (mF 4 rfl) rfl rfl 2 (Nat.le_of_ble_eq_true rfl) (hts _ (vA_in _ _ (in_20 _ (zs4 (zs4 (zs4 (zs0))))))) (fun _ h9 => h9) (th_v0L hKp hI0 4 (mF 4 rfl) rfl (Nat.le_of_ble_eq_true rfl) rfl rfl) dX8_meanBeside_12 ?_
      refine lv_icmp_ge (tgt := 75) hx hb dX8_meanBeside_15 (by decide) (fun c3 => ?_) (fun c3 => ?_)
      · --15 taken
        have t4 : (xi (E 4) 2).toInt ≤ v9_6.toInt := ti_le c3
        have i5 : 0 ≤ v9_4.toInt ∧ v9_4.toInt ≤ 200000 := by omega
        refine lv_iload hx hb dX8_meanBeside_75 (lv_at hl 1 rfl) ?_
        refine lv_if_ne (tgt := 84) hx hb dX8_meanBeside_77 (by decide) (fun c6 => ?_) (fun c6 => ?_)
        · --77 taken
          have t7 : ¬ v9_5.toInt = 0 := ti_ne c6
          have i8 : 1 ≤ v9_5.toInt ∧ v9_5.toInt ≤ 20 := iv_ne_l t7 hv9_5 (il_ 0)
          refine lv_iload hx hb dX8_meanBeside_84 (lv_at hl 2 rfl) ?_
          refine lv_iload hx hb dX8_meanBeside_86 (lv_at hl 1 rfl) ?_
          refine lv_idiv hx hb dX8_meanBeside_88 (iv_n0 i8 (by decide)) ?_
          refine lv_topi (fun y9 ey9 => ?_)
          rw [hQ]
          exact W.iret (v := y9) hx hb hr (fun t ht hW => ⟨⟨y9, (), rfl, ⟨v9_4.toInt, v9_5.toInt, (by have h9 := hx9_0; rw [show v9_6.toNatClampNeg = (xi (E 4) 2).toNatClampNeg by rw [tn_, tn_]; omega] at h9; exact h9), (by have h9 := hx9_1; rw [show v9_6.toNatClampNeg = (xi (E 4) 2).toNatClampNeg by rw [tn_, tn_]; omega] at h9; exact h9), by unfold meanI; rw [if_neg (by omega)]; exact (ti_div (a := 0) (b := 200000) (c := 1) (d := 20) (e := 0) (f := 200000) (by omega) (by omega) ey9 (by decide)).1⟩, trivial⟩, hS.F ht⟩) hS.2.2 dX8_meanBeside_89
        · --77 not
          have t10 : v9_5.toInt = 0 := ti_eq c6
          have i11 : 0 ≤ v9_5.toInt ∧ v9_5.toInt ≤ 0 := iv_eqi t10 hv9_5 (il_ 0) (by decide)
          refine lv_iconst (v := 0) hx hb dX8_meanBeside_80 (by decide) ?_
          refine lv_goto (tgt := 89) hx hb dX8_meanBeside_81 (by decide) ?_
          rw [hQ]
          exact W.iret (v := 0) hx hb hr (fun t ht hW => ⟨⟨0, (), rfl, ⟨v9_4.toInt, v9_5.toInt, (by have h9 := hx9_0; rw [show v9_6.toNatClampNeg = (xi (E 4) 2).toNatClampNeg by rw [tn_, tn_]; omega] at h9; exact h9), (by have h9 := hx9_1; rw [show v9_6.toNatClampNeg = (xi (E 4) 2).toNatClampNeg by rw [tn_, tn_]; omega] at h9; exact h9), by unfold meanI; rw [if_pos (by omega)]; rfl⟩, trivial⟩, hS.F ht⟩) hS.2.2 dX8_meanBeside_89
      · --15 not
        have t12 : v9_6.toInt < (xi (E 4) 2).toInt := ti_nle c3
        have i13 : 0 ≤ v9_6.toInt ∧ v9_6.toInt ≤ 19 := iv_lt_l t12 hv9_6 i1 (by decide)
        have i14 : 1 ≤ (xi (E 4) 2).toInt ∧ (xi (E 4) 2).toInt ≤ 20 := iv_lt_r t12 hv9_6 i1 (by decide)
        refine lv_iload hx hb dX8_meanBeside_18 (lv_at hl 0 rfl) ?_
        refine lv_iload_n hx hb dX8_meanBeside_20 rfl (lv_at hl 4 rfl) ?_
        refine lv_icmp_eq (tgt := 69) hx hb dX8_meanBeside_21 (by decide) (fun c15 => ?_) (fun c15 => ?_)
        · --21 taken
          have t16 : v9_6.toInt = a0.toInt := ti_eq c15
          obtain ⟨y17, ey17⟩ : ∃ y : Int32, y = v9_6 + (1 : Int32) := ⟨_, rfl⟩
          obtain ⟨ty17, iy17⟩ := ti_add (e := 1) (f := 20) i13 ln_1 ey17 (by decide)
          have ty17 : y17.toInt = v9_6.toInt + 1 := ty17
          have iy17 : 1 ≤ y17.toInt ∧ y17.toInt ≤ 20 := iy17
          refine lv_iinc (v := y17) (lv' := [(6, .int y17), (5, .int v9_5), (4, .int v9_4), (0, .ref (ad 4)), (1, .int a0), (2, .int a1), (3, .int a2)]) hx hb dX8_meanBeside_69 hl (k := 0) rfl (by rw [ey17]; rfl) (by decide) rfl (fun ls hl => ?_)
          refine lv_goto (tgt := 9) hx hb dX8_meanBeside_72 (by decide) ?_
          exact ih9 y17 v9_5 v9_4 _ _ _ (iv_w iy17 (by decide)) hv9_5 hv9_4 (hx9_0.no (fun q9 => q9.1 (by rw [tn_, tn_]; omega)) rfl (by rw [tn_ y17, tn_ v9_6]; omega)) (hx9_1.no (fun q9 => q9.1 (by rw [tn_, tn_]; omega)) rfl (by rw [tn_ y17, tn_ v9_6]; omega)) (by omega) (by omega) (by omega) (by first | exact ms_su hx9_5 ty17 (by decide) | omega) hP hS (lv_sub hl [0, 1, 2, 3, 4, 5, 6] rfl)
        · --21 not
          have t18 : ¬ v9_6.toInt = a0.toInt := ti_ne c15
          refine lv_aload_n hx hb dX8_meanBeside_24 rfl (lv_at hl 3 rfl) ?_
          refine th_getL (ci := 9) (C := RX8) (T := TX8) (N := 10) (v := .ref (ad 1)) hx hb hts hinX8 hown hK hP hI 4 (mF 4 rfl) rfl rfl 0 (Nat.le_of_ble_eq_true rfl) (hts _ (vA_in _ _ (in_19 _ (zs16 (zs0))))) (fun _ h9 => h9) (hI.fr 4 (mF 4 rfl) rfl (Nat.le_of_ble_eq_true rfl) 1 rfl) dX8_meanBeside_25 ?_
          refine th_getL (ci := 1) (C := RX0) (T := TX0) (N := 11) (v := .ref (ad 9)) hx hb hts hinX0 hown hK hP hI 1 (mF 1 rfl) rfl rfl 5 (Nat.le_of_ble_eq_true rfl) (hts _ (vA_in _ _ (in_20 _ (zs4 (zs4 (zs1 (zs1 (zs0)))))))) (fun _ h9 => h9) (hI.fr 1 (mF 1 rfl) rfl (Nat.le_of_ble_eq_true rfl) 9 rfl) dX8_meanBeside_28 ?_
          refine lv_iload hx hb dX8_meanBeside_31 (lv_at hl 0 rfl) ?_
          refine th_rrL (va_runV (As := [.int v9_6]) (rest := []) ⟨hx, hb, hml, hown, hts⟩ (q_get2 l dC dI cT cf hC ad E H.size v9_6 hI (by omega)) (cwV 1 hts (gi_V (in_20 _ (zs4 (zs4 (zs4 (zs1 (zs0)))))) (in_4 _ (zs16 (zs16 (zs4 (zs1 (zs1 (zs0))))))) (in_4 _ (zs16 (zs16 (zs4 (zs1 (zs1 (zs1 (zs0)))))))) (in_3 _ (zs16 (zs1 (zs1 (zs0))))) (in_3 _ (zs16 (zs16 (zs4 (zs1 (zs1 (zs1 (zs0))))))))) rfl rfl rfl ⟨rfl, hz_yJx4a65c_get_915e3_1⟩ ⟨Nat.le_of_ble_eq_true rfl, Nat.le_of_ble_eq_true rfl⟩) ⟨HWL_bl, va_recv hK hP (ci := 0) (q0 := posL 9 (LC cf)) rfl (hI.ob 9 (mF 9 rfl) rfl), (HWL_wiR hP hK (WL_D hD) hS hEV)⟩ rfl rfl hl.1 rfl (lv_room (Nat.le_of_ble_eq_true rfl)) dX8_meanBeside_33 ⟨Nat.le_of_ble_eq_true rfl, Nat.le_of_ble_eq_true rfl⟩) hS hP (fun r19 H locs hw hP hS => ?_)
          obtain rfl := hw
          have lv20 : v9_6.toNatClampNeg < cf 2 := by rw [tn_]; omega
          refine va_castS (cC := dC 6) hx hb hown (hts _ (vA_in _ _ (in_20 _ (zs4 (zs4 (zs1 (zs1 (zs1 (zs0))))))))) (hK.1 6 _ rfl).2 (va_recv hK hP (ci := 6) (q0 := posL (64 * (v9_6.toNatClampNeg + 1) + 6) (LC cf)) rfl (hI.ob (64 * (v9_6.toNatClampNeg + 1) + 6) (mP 6 v9_6.toNatClampNeg (by decide) lv20 (kl_le hC 2 (by decide))) (shC_p 6 v9_6.toNatClampNeg (by decide)))) dX8_meanBeside_36 ?_
          refine lv_iload_n hx hb dX8_meanBeside_39 rfl (lv_at hl 5 rfl) ?_
          refine lv_iload_n hx hb dX8_meanBeside_40 rfl (lv_at hl 6 rfl) ?_
          refine th_riL (va_runV (As := [.int a1, .int a2]) (rest := []) ⟨hx, hb, hml, hown, hts⟩ (q_isRedressedIn l dC dI cT cf hC ad E H.size a1 a2 v9_6.toNatClampNeg hI (by omega) hh1) (cwV 2 hts (gi_V (in_20 _ (zs4 (zs4 (zs4 (zs1 (zs1 (zs0))))))) (in_20 _ (zs4 (zs4 (zs4 (zs1 (zs1 (zs1 (zs0)))))))) (in_20 _ (zs16 (zs0))) (in_6 _ (zs16 (zs1 (zs0)))) (in_20 _ (zs16 (zs1 (zs0))))) rfl rfl rfl ⟨rfl, hz_yX5_isRedressedIn_2⟩ ⟨Nat.le_of_ble_eq_true rfl, Nat.le_of_ble_eq_true rfl⟩) ⟨HWL_bl, va_recv hK hP (ci := 6) (q0 := posL (64 * (v9_6.toNatClampNeg + 1) + 6) (LC cf)) rfl (hI.ob (64 * (v9_6.toNatClampNeg + 1) + 6) (mP 6 v9_6.toNatClampNeg (by decide) lv20 (kl_le hC 2 (by decide))) (shC_p 6 v9_6.toNatClampNeg (by decide))), (HWL_wiR hP hK (WL_D hD) hS hEV)⟩ rfl rfl hl.1 rfl (lv_room (Nat.le_of_ble_eq_true rfl)) dX8_meanBeside_41 ⟨Nat.le_of_ble_eq_true rfl, Nat.le_of_ble_eq_true rfl⟩) hS hP (fun r21 H locs hw hP hS => ?_)
          rcases hw with hw | hw
          · -- isRedressedIn, case 0
            obtain ⟨rfl, f22⟩ := hw
            have k23 : redC E a1.toNatClampNeg a2.toInt v9_6.toNatClampNeg := f22
            refine lv_if_eq (tgt := 50) hx hb dX8_meanBeside_44 (by decide) (fun c24 => ?_) (fun c24 => ?_)
            · --44 taken
              exact absurd c24 (by decide)
            · --44 not
              refine lv_goto (tgt := 69) hx hb dX8_meanBeside_47 (by decide) ?_
              obtain ⟨y25, ey25⟩ : ∃ y : Int32, y = v9_6 + (1 : Int32) := ⟨_, rfl⟩
              obtain ⟨ty25, iy25⟩ := ti_add (e := 1) (f := 20) i13 ln_1 ey25 (by decide)
              have ty25 : y25.toInt = v9_6.toInt + 1 := ty25
              have iy25 : 1 ≤ y25.toInt ∧ y25.toInt ≤ 20 := iy25
              refine lv_iinc (v := y25) (lv' := [(6, .int y25), (5, .int v9_5), (4, .int v9_4), (0, .ref (ad 4)), (1, .int a0), (2, .int a1), (3, .int a2)]) hx hb dX8_meanBeside_69 hl (k := 0) rfl (by rw [ey25]; rfl) (by decide) rfl (fun ls hl => ?_)
              refine lv_goto (tgt := 9) hx hb dX8_meanBeside_72 (by decide) ?_
              exact ih9 y25 v9_5 v9_4 _ _ _ (iv_w iy25 (by decide)) hv9_5 hv9_4 (hx9_0.no (fun q9 => q9.2 k23) rfl (by rw [tn_ y25, tn_ v9_6]; omega)) (hx9_1.no (fun q9 => q9.2 k23) rfl (by rw [tn_ y25, tn_ v9_6]; omega)) (by omega) (by omega) (by omega) (by first | exact ms_su hx9_5 ty25 (by decide) | omega) hP hS (lv_sub hl [0, 1, 2, 3, 4, 5, 6] rfl)
          · -- isRedressedIn, case 1
            obtain ⟨rfl, f26⟩ := hw
            have k27 : ¬ redC E a1.toNatClampNeg a2.toInt v9_6.toNatClampNeg := f26
            refine lv_if_eq (tgt := 50) hx hb dX8_meanBeside_44 (by decide) (fun c28 => ?_) (fun c28 => ?_)
            · --44 taken
              have i29 : 0 ≤ v9_4.toInt ∧ v9_4.toInt ≤ 190000 := by omega
              have i30 : 0 ≤ v9_5.toInt ∧ v9_5.toInt ≤ 19 := by omega
              refine lv_iload hx hb dX8_meanBeside_50 (lv_at hl 2 rfl) ?_
              refine lv_aload_n hx hb dX8_meanBeside_52 rfl (lv_at hl 3 rfl) ?_
              refine th_getL (ci := 9) (C := RX8) (T := TX8) (N := 10) (v := .ref (ad 31)) hx hb hts hinX8 hown hK hP hI 4 (mF 4 rfl) rfl rfl 3 (Nat.le_of_ble_eq_true rfl) (hts _ (vA_in _ _ (in_19 _ (zs4 (zs4 (zs0)))))) (fun _ h9 => h9) (hI.fr 4 (mF 4 rfl) rfl (Nat.le_of_ble_eq_true rfl) 31 rfl) dX8_meanBeside_53 ?_
              refine lv_iload hx hb dX8_meanBeside_56 (lv_at hl 0 rfl) ?_
              refine lv_iload_n hx hb dX8_meanBeside_58 rfl (lv_at hl 5 rfl) ?_
              refine th_pi (va_runSN (As := [.int v9_6, .int a1]) (rest := [.ref (ad 31), .int v9_4]) ⟨hx, hb, hml, hown, hts⟩ (q_ccell l v9_6 a1 i13 hh1) ⟨va_cnB 2 hts (gi_0 (in_10 _ (zs16 (zs4 (zs0))))) rfl rfl rfl (hEV.1.1 _ (List.mem_of_getElem? (i := 10) rfl)) (hts _ (vA_in _ _ (in_4 _ (zs16 (zs4 (zs1 (zs1 (zs1 (zs0))))))))) hz_yX12_cell_2 ⟨Nat.le_of_ble_eq_true rfl, Nat.le_of_ble_eq_true rfl⟩, (hts _ (vA_in _ _ (in_13 _ (zs1 (zs0))))), trivial⟩ ⟨fun _ _ _ _ q => q, fun _ _ _ => ⟨rfl, trivial⟩⟩ rfl rfl hl.1 rfl (lv_room (Nat.le_of_ble_eq_true rfl)) dX8_meanBeside_59 ⟨Nat.le_of_ble_eq_true rfl, Nat.le_of_ble_eq_true rfl⟩) hS (fun r31 H1 locs1 hw hk1 hS => ?_)
              have hP := ub_keep hP hk1
              generalize H1 = H at hP hS ⊢
              generalize locs1 = locs at hS ⊢
              obtain ⟨f32, f33⟩ := hw
              have n35 : vp_in r31 320 := (iv_in (n := 320) f32 (by decide))
              refine th_ialdL hx hb hK hP hI 31 (mF 31 rfl) rfl rfl n35 dX8_meanBeside_62 (fun y34 ey34 => ?_)
              have iy34 : 0 ≤ y34.toInt ∧ y34.toInt ≤ 10000 := hI.el 31 (mF 31 rfl) rfl n35 (fun _ => rfl) ey34
              have ey34 := ey34.trans (hKp.ei 31 _ rfl)
              refine lv_iadd hx hb dX8_meanBeside_63 ?_
              refine lv_topi (fun y36 ey36 => ?_)
              obtain ⟨ty36, iy36⟩ := ti_add (e := 0) (f := 200000) i29 iy34 ey36 (by decide)
              have ty36 : y36.toInt = v9_4.toInt + y34.toInt := ty36
              have iy36 : 0 ≤ y36.toInt ∧ y36.toInt ≤ 200000 := iy36
              refine lv_istore (lv' := [(4, .int y36), (6, .int v9_6), (5, .int v9_5), (0, .ref (ad 4)), (1, .int a0), (2, .int a1), (3, .int a2)]) hx hb dX8_meanBeside_64 hl (by decide) rfl (fun ls hl => ?_)
              obtain ⟨y37, ey37⟩ : ∃ y : Int32, y = v9_5 + (1 : Int32) := ⟨_, rfl⟩
              obtain ⟨ty37, iy37⟩ := ti_add (e := 1) (f := 20) i30 ln_1 ey37 (by decide)
              have ty37 : y37.toInt = v9_5.toInt + 1 := ty37
              have iy37 : 1 ≤ y37.toInt ∧ y37.toInt ≤ 20 := iy37
              refine lv_iinc (v := y37) (lv' := [(5, .int y37), (4, .int y36), (6, .int v9_6), (0, .ref (ad 4)), (1, .int a0), (2, .int a1), (3, .int a2)]) hx hb dX8_meanBeside_66 hl (k := 2) rfl (by rw [ey37]; rfl) (by decide) rfl (fun ls hl => ?_)
              obtain ⟨y38, ey38⟩ : ∃ y : Int32, y = v9_6 + (1 : Int32) := ⟨_, rfl⟩
              obtain ⟨ty38, iy38⟩ := ti_add (e := 1) (f := 20) i13 ln_1 ey38 (by decide)
              have ty38 : y38.toInt = v9_6.toInt + 1 := ty38
              have iy38 : 1 ≤ y38.toInt ∧ y38.toInt ≤ 20 := iy38
              refine lv_iinc (v := y38) (lv' := [(6, .int y38), (5, .int y37), (4, .int y36), (0, .ref (ad 4)), (1, .int a0), (2, .int a1), (3, .int a2)]) hx hb dX8_meanBeside_69 hl (k := 2) rfl (by rw [ey38]; rfl) (by decide) rfl (fun ls hl => ?_)
              refine lv_goto (tgt := 9) hx hb dX8_meanBeside_72 (by decide) ?_
              exact ih9 y38 y37 y36 _ _ _ (iv_w iy38 (by decide)) (iv_w iy37 (by decide)) (iv_w iy36 (by decide)) (hx9_0.one (show ¬ v9_6.toNatClampNeg = a0.toNatClampNeg ∧ ¬ redC E a1.toNatClampNeg a2.toInt v9_6.toNatClampNeg from ⟨(fun q9 => by rw [tn_, tn_] at q9; omega), k27⟩) (show y34.toInt = (xi (E 31) (16 * v9_6.toNatClampNeg + a1.toNatClampNeg)).toInt by rw [ey34, show r31.toNatClampNeg = 16 * v9_6.toNatClampNeg + a1.toNatClampNeg by rw [tn_ r31, tn_ v9_6, tn_ a1]; omega]) ty36 (by rw [tn_ y38, tn_ v9_6]; omega)) (hx9_1.one (show ¬ v9_6.toNatClampNeg = a0.toNatClampNeg ∧ ¬ redC E a1.toNatClampNeg a2.toInt v9_6.toNatClampNeg from ⟨(fun q9 => by rw [tn_, tn_] at q9; omega), k27⟩) ty37 (by rw [tn_ y38, tn_ v9_6]; omega)) (by omega) (by omega) (by omega) (by first | exact ms_su hx9_5 ty38 (by decide) | omega) hP hS (lv_sub hl [0, 1, 2, 3, 4, 5, 6] rfl)
            · --44 not
              exact absurd c28 (by decide)
  exact hL9 (21) (0 : Int32) (0 : Int32) (0 : Int32) _ _ _ (iv_w ln_0 (by decide)) (iv_w ln_0 (by decide)) (iv_w ln_0 (by decide)) (show SmR _ _ 0 0 from rfl) (show CnR _ 0 0 from rfl) (by have z9 := ln_0; omega) (by have z9 := ln_0; omega) (by have z9 := ln_0; omega) (by have h9 := ln_0; first | exact ms_bu h9.1 (by decide) | omega) hP hS (lv_sub hl [0, 1, 2, 3, 4, 5, 6] rfl)
def v_pointsInX : List Cond := .code yX8_pointsIn cX8_pointsIn 5 (some .int) :: vA
abbrev rm_pointsInX : Room := { frames := 6, cells := 0, slots := 0, locals := 240 }
def w_pointsInX : Nat → Nat → Bool := wl [19, 20, 26, 27, 28, 29, 30, 31] [(3, 6), (3, 7), (3, 8), (4, 2)]
set_option maxHeartbeats 4000000 in
set_option maxRecDepth 100000 in
theorem q_pointsInX (l : Launch) (dC : Nat → ClassId) (dI : Nat → Nat → Nat) (cT : Nat → ClassId) (cf : Nat → Nat) (hC : CF cf) (ad : Nat → Nat) (E : Nat → va_E) (sz : Nat) (a0 : Int32) (a1 : Int32) (a2 : Int32) (hI0 : IXL cT (shC cf) (spC cf) (LC cf) ad E) (hh0 : 0 ≤ a0.toInt ∧ a0.toInt ≤ 19) (hh1 : a0.toInt < ((cf 2 : Nat) : Int)) (hh2 : 0 ≤ a1.toInt ∧ a1.toInt ≤ 15) (hh3 : RulAll cf E) : Met l yX8_pointsIn v_pointsInX rm_pointsInX (va_Pc [.ref (ad 4), .int a0, .int a1, .int a2] (HWL dC dI (TYC cT) cf ad E sz)) (va_Qi (S := Nat → va_E) (fun r u => IXL cT (shC cf) (spC cf) (LC cf) ad u ∧ Kp w_pointsInX E u ∧ ((PtC cf E a0 a2 a1.toNatClampNeg r.toInt))) (HBL dC dI (LC cf) ad) (va_A (WL (LC cf) ad E) sz)) 0 0 (va_A (WL (LC cf) ad E) sz) := by
  obtain ⟨⟨hc0, hc1, hc2, hc3, hc4, hc5⟩, hcr⟩ := id hC
  refine Met.ofW (cc := cX8_pointsIn) (maxL := 5) (ret := (some .int)) (by decide) rfl ?_
  intro p e s m args below meth c s₁ B hml hv
  obtain ⟨hargs, hsz, hP, hK, hD0, hEV⟩ := hv
  subst hsz
  have hx := B.exec
  have hb := B.bytes
  have hr := B.returns
  have hts := atoms_spec (ws := v_pointsInX) B.pre
  have hown : s.vm.findClass RX8 = some m.cls := findClass_of_methodNamed B.named
  have hlocks := B.notSynchronized
  have hinX0 : ∀ w ∈ u_ws RX0 TX0 11, w ∈ v_pointsInX := fun w h => vA_in _ w (in_X0 w h)
  have hinX8 : ∀ w ∈ u_ws RX8 TX8 10, w ∈ v_pointsInX := fun w h => vA_in _ w (in_X8 w h)
  generalize hAe : va_A (WL (LC cf) ad E) s.heap.size = A at hEV ⊢
  have hA : ∀ q : Nat, s.heap.size ≤ q → A q := fun q h => by rw [← hAe]; exact Or.inr h
  have hD : va_D A (WL (LC cf) ad E) := by rw [← hAe]; exact hD0.self
  have hS : va_S A s.heap s.heap [] := va_S.rf
  have hI := hI0
  have hKp : Kp w_pointsInX E E := Kp.rf
  have hl := lv_entry ([.ref (ad 4), .int a0, .int a1, .int a2]) (n := 5) (Nat.le_of_ble_eq_true rfl)
  obtain ⟨Q, hQ⟩ : ∃ Q, Q = MQ below (va_Qi (S := Nat → va_E) (fun r u => IXL cT (shC cf) (spC cf) (LC cf) ad u ∧ Kp w_pointsInX E u ∧ ((PtC cf E a0 a2 a1.toNatClampNeg r.toInt))) (HBL dC dI (LC cf) ad) (A)) args s 0 0 (A) := ⟨_, rfl⟩
  rw [← hQ, show entryFrame m args 5 = _ from (congrArg (fun z => entryFrame m z 5) hargs).trans (lg_entry_eq _ _ _)]
  generalize (lg_sl ([.ref (ad 4), .int a0, .int a1, .int a2]) ++ List.replicate (5 - (lg_sl ([.ref (ad 4), .int a0, .int a1, .int a2])).length) Slot.unset).toArray = ls at hl ⊢
  have hl : lv_has ls 5 [(0, .ref (ad 4)), (1, .int a0), (2, .int a1), (3, .int a2)] := hl
  have z0z : (0 : Int32).toInt = 0 := rfl
  refine lv_aload_n hx hb dX8_pointsIn_0 rfl (lv_at hl 0 rfl) ?_
  refine th_getL (ci := 9) (C := RX8) (T := TX8) (N := 10) (v := .ref (ad 1)) hx hb hts hinX8 hown hK hP hI 4 (mF 4 rfl) rfl rfl 0 (Nat.le_of_ble_eq_true rfl) (hts _ (vA_in _ _ (in_19 _ (zs16 (zs0))))) (fun _ h9 => h9) (hI.fr 4 (mF 4 rfl) rfl (Nat.le_of_ble_eq_true rfl) 1 rfl) dX8_pointsIn_1 ?_
  refine th_getL (ci := 1) (C := RX0) (T := TX0) (N := 11) (v := .ref (ad 9)) hx hb hts hinX0 hown hK hP hI 1 (mF 1 rfl) rfl rfl 5 (Nat.le_of_ble_eq_true rfl) (hts _ (vA_in _ _ (in_20 _ (zs4 (zs4 (zs1 (zs1 (zs0)))))))) (fun _ h9 => h9) (hI.fr 1 (mF 1 rfl) rfl (Nat.le_of_ble_eq_true rfl) 9 rfl) dX8_pointsIn_4 ?_
  refine lv_iload_n hx hb dX8_pointsIn_7 rfl (lv_at hl 1 rfl) ?_
  refine th_rrL (va_runV (As := [.int a0]) (rest := []) ⟨hx, hb, hml, hown, hts⟩ (q_get2 l dC dI cT cf hC ad E s.heap.size a0 hI (by omega)) (cwV 1 hts (gi_V (in_20 _ (zs4 (zs4 (zs4 (zs1 (zs0)))))) (in_4 _ (zs16 (zs16 (zs4 (zs1 (zs1 (zs0))))))) (in_4 _ (zs16 (zs16 (zs4 (zs1 (zs1 (zs1 (zs0)))))))) (in_3 _ (zs16 (zs1 (zs1 (zs0))))) (in_3 _ (zs16 (zs16 (zs4 (zs1 (zs1 (zs1 (zs0))))))))) rfl rfl rfl ⟨rfl, hz_yJx4a65c_get_915e3_1⟩ ⟨Nat.le_of_ble_eq_true rfl, Nat.le_of_ble_eq_true rfl⟩) ⟨HWL_bl, va_recv hK hP (ci := 0) (q0 := posL 9 (LC cf)) rfl (hI.ob 9 (mF 9 rfl) rfl), (HWL_wi hP hK (WL_D hD) hS hA hEV)⟩ rfl rfl hl.1 rfl (lv_room (Nat.le_of_ble_eq_true rfl)) dX8_pointsIn_8 ⟨Nat.le_of_ble_eq_true rfl, Nat.le_of_ble_eq_true rfl⟩) hS hP (fun r1 H locs hw hP hS => ?_)
  obtain rfl := hw
  have lv2 : a0.toNatClampNeg < cf 2 := by rw [tn_]; omega
  refine va_castS (cC := dC 6) hx hb hown (hts _ (vA_in _ _ (in_20 _ (zs4 (zs4 (zs1 (zs1 (zs1 (zs0))))))))) (hK.1 6 _ rfl).2 (va_recv hK hP (ci := 6) (q0 := posL (64 * (a0.toNatClampNeg + 1) + 6) (LC cf)) rfl (hI.ob (64 * (a0.toNatClampNeg + 1) + 6) (mP 6 a0.toNatClampNeg (by decide) lv2 (kl_le hC 2 (by decide))) (shC_p 6 a0.toNatClampNeg (by decide)))) dX8_pointsIn_11 ?_
  refine lv_iload_n hx hb dX8_pointsIn_14 rfl (lv_at hl 2 rfl) ?_
  refine lv_iload_n hx hb dX8_pointsIn_15 rfl (lv_at hl 3 rfl) ?_
  refine th_riL (va_runV (As := [.int a1, .int a2]) (rest := []) ⟨hx, hb, hml, hown, hts⟩ (q_isRedressedIn l dC dI cT cf hC ad E H.size a1 a2 a0.toNatClampNeg hI (by omega) hh2) (cwV 2 hts (gi_V (in_20 _ (zs4 (zs4 (zs4 (zs1 (zs1 (zs0))))))) (in_20 _ (zs4 (zs4 (zs4 (zs1 (zs1 (zs1 (zs0)))))))) (in_20 _ (zs16 (zs0))) (in_6 _ (zs16 (zs1 (zs0)))) (in_20 _ (zs16 (zs1 (zs0))))) rfl rfl rfl ⟨rfl, hz_yX5_isRedressedIn_2⟩ ⟨Nat.le_of_ble_eq_true rfl, Nat.le_of_ble_eq_true rfl⟩) ⟨HWL_bl, va_recv hK hP (ci := 6) (q0 := posL (64 * (a0.toNatClampNeg + 1) + 6) (LC cf)) rfl (hI.ob (64 * (a0.toNatClampNeg + 1) + 6) (mP 6 a0.toNatClampNeg (by decide) lv2 (kl_le hC 2 (by decide))) (shC_p 6 a0.toNatClampNeg (by decide))), (HWL_wi hP hK (WL_D hD) hS hA hEV)⟩ rfl rfl hl.1 rfl (lv_room (Nat.le_of_ble_eq_true rfl)) dX8_pointsIn_16 ⟨Nat.le_of_ble_eq_true rfl, Nat.le_of_ble_eq_true rfl⟩) hS hP (fun r3 H locs hw hP hS => ?_)
  rcases hw with hw | hw
  · -- isRedressedIn, case 0
    obtain ⟨rfl, f4⟩ := hw
    have k5 : redC E a1.toNatClampNeg a2.toInt a0.toNatClampNeg := f4
    refine lv_if_ne (tgt := 40) hx hb dX8_pointsIn_19 (by decide) (fun c6 => ?_) (fun c6 => ?_)
    · --19 taken
      refine lv_aload_n hx hb dX8_pointsIn_40 rfl (lv_at hl 0 rfl) ?_
      refine lv_aload_n hx hb dX8_pointsIn_41 rfl (lv_at hl 0 rfl) ?_
      refine th_getL (ci := 9) (C := RX8) (T := TX8) (N := 10) (v := .ref (ad 1)) hx hb hts hinX8 hown hK hP hI 4 (mF 4 rfl) rfl rfl 0 (Nat.le_of_ble_eq_true rfl) (hts _ (vA_in _ _ (in_19 _ (zs16 (zs0))))) (fun _ h9 => h9) (hI.fr 4 (mF 4 rfl) rfl (Nat.le_of_ble_eq_true rfl) 1 rfl) dX8_pointsIn_42 ?_
      refine lv_iload_n hx hb dX8_pointsIn_45 rfl (lv_at hl 3 rfl) ?_
      refine th_riL (va_runV (As := [.int a2]) (rest := [.ref (ad 4)]) ⟨hx, hb, hml, hown, hts⟩ (q_racesInX l dC dI cT cf hC ad E H.size a2 hI) (cwV 1 hts (gi_V (in_20 _ (zs16 (zs4 (zs4 (zs1 (zs1 (zs1 (zs0)))))))) (in_20 _ (zs16 (zs4 (zs4 (zs4 (zs0)))))) (in_20 _ (zs16 (zs4 (zs4 (zs4 (zs1 (zs0))))))) (in_5 _ (zs4 (zs1 (zs1 (zs0))))) (in_7 _ (zs16 (zs4 (zs4 (zs1 (zs1 (zs1 (zs0))))))))) rfl rfl rfl ⟨rfl, hz_yX0_racesIn_1⟩ ⟨Nat.le_of_ble_eq_true rfl, Nat.le_of_ble_eq_true rfl⟩) ⟨HWL_bl, va_recv hK hP (ci := 1) (q0 := posL 1 (LC cf)) rfl (hI.ob 1 (mF 1 rfl) rfl), (HWL_wi hP hK (WL_D hD) hS hA hEV)⟩ rfl rfl hl.1 rfl (lv_room (Nat.le_of_ble_eq_true rfl)) dX8_pointsIn_46 ⟨Nat.le_of_ble_eq_true rfl, Nat.le_of_ble_eq_true rfl⟩) hS hP (fun r7 H locs hw hP hS => ?_)
      obtain ⟨f8, f9, f10⟩ := hw
      refine th_putL (ci := 9) (C := RX8) (T := TX8) (N := 10) (v := .int r7) (ty := .int) hx hb hts hinX8 tyX8 tyX8_ok nmX8 hown hK hP (WL_D hD) hS hI 4 (mF 4 rfl) rfl rfl 2 (Nat.le_of_ble_eq_true rfl) (hts _ (vA_in _ _ (in_20 _ (zs4 (zs4 (zs4 (zs0))))))) (fun _ h9 => h9) rfl (by decide +kernel) rfl rfl (okI (lo := 0) (hi := ((cf 2 : Nat) : Int)) rfl (by omega)) dX8_pointsIn_49 (fun H locs E11 pw12 hI hP hS => ?_)
      have hKp := hKp.pw pw12 rfl
      refine lv_iconst (v := 0) hx hb dX8_pointsIn_52 (by decide) ?_
      refine lv_istore (lv' := [(4, .int 0), (0, .ref (ad 4)), (1, .int a0), (2, .int a1), (3, .int a2)]) hx hb dX8_pointsIn_53 hl (by decide) rfl (fun ls hl => ?_)
      have hL55 : ∀ d : Nat, ∀ (v55_4 : Int32) (E55_ : Nat → va_E) (H : Heap) (locs : List Loc) (ls : Array Slot), 0 ≤ v55_4.toInt ∧ v55_4.toInt ≤ 20 → (∀ o9 : Nat, o9 < v55_4.toNatClampNeg → PpC cf E (nI o9) a2 a1.toNatClampNeg (xi (E55_ 31) (16 * o9 + a1.toNatClampNeg)).toInt) → xi (E55_ 4) 2 = r7 → v55_4.toInt ≤ r7.toInt → 20 - v55_4.toInt < (d : Int) → IXL cT (shC cf) (spC cf) (LC cf) ad E55_ → Kp w_pointsInX E E55_ → xv (E55_ 4) 2 = .int r7 → va_P (dC, dI) vwCl (WL (LC cf) ad E55_) H → va_S A s.heap H locs → lv_has ls 5 [(4, .int v55_4), (0, .ref (ad 4)), (1, .int a0), (2, .int a1), (3, .int a2)] → W p l e (headSpec v_pointsInX rm_pointsInX).room s m args below meth c H locs 0 0 Q (F0 m 55 ls []) := by
        intro d
        induction d with
        | zero =>
          intro v55_4 E55_ H locs ls hv55_4 hx55_0 hx55_1 hx55_2 hx55_3 hI hKp hs55_4_2 hP hS hl
          exact absurd hx55_3 (by first | exact ms_zu hv55_4.2 | omega)
        | succ d ih55 =>
          intro v55_4 E55_ H locs ls hv55_4 hx55_0 hx55_1 hx55_2 hx55_3 hI hKp hs55_4_2 hP hS hl
          refine lv_iload hx hb dX8_pointsIn_55 (lv_at hl 0 rfl) ?_
          refine lv_aload_n hx hb dX8_pointsIn_57 rfl (lv_at hl 1 rfl) ?_
          refine th_getL (ci := 9) (C := RX8) (T := TX8) (N := 10) (v := .int r7) hx hb hts hinX8 hown hK hP hI 4 (mF 4 rfl) rfl rfl 2 (Nat.le_of_ble_eq_true rfl) (hts _ (vA_in _ _ (in_20 _ (zs4 (zs4 (zs4 (zs0))))))) (fun _ h9 => h9) hs55_4_2 dX8_pointsIn_58 ?_
          refine lv_icmp_ge (tgt := 99) hx hb dX8_pointsIn_61 (by decide) (fun c13 => ?_) (fun c13 => ?_)
          · --61 taken
            have t14 : r7.toInt ≤ v55_4.toInt := ti_le c13
            refine lv_aload_n hx hb dX8_pointsIn_99 rfl (lv_at hl 1 rfl) ?_
            refine lv_iload_n hx hb dX8_pointsIn_100 rfl (lv_at hl 2 rfl) ?_
            refine lv_iload_n hx hb dX8_pointsIn_101 rfl (lv_at hl 3 rfl) ?_
            refine lv_iload_n hx hb dX8_pointsIn_102 rfl (lv_at hl 4 rfl) ?_
            refine th_riL (va_runV (As := [.int a0, .int a1, .int a2]) (rest := []) ⟨hx, hb, hml, hown, hts⟩ (q_meanBesideX l dC dI cT cf hC ad E55_ H.size a0 a1 a2 hI hh0 hh2) (cwV 3 hts (gi_V (in_20 _ (zs16 (zs4 (zs4 (zs4 (zs1 (zs1 (zs0)))))))) (in_20 _ (zs16 (zs4 (zs4 (zs4 (zs1 (zs1 (zs1 (zs0))))))))) (in_20 _ (zs16 (zs16 (zs0)))) (in_18 _ (zs16 (zs16 (zs0)))) (in_20 _ (zs16 (zs16 (zs1 (zs0)))))) rfl rfl rfl ⟨rfl, hz_yX8_meanBeside_3⟩ ⟨Nat.le_of_ble_eq_true rfl, Nat.le_of_ble_eq_true rfl⟩) ⟨HWL_bl, va_recv hK hP (ci := 9) (q0 := posL 4 (LC cf)) rfl (hI.ob 4 (mF 4 rfl) rfl), (HWL_wi hP hK (WL_D hD) hS hA hEV)⟩ rfl rfl hl.1 rfl (lv_room (Nat.le_of_ble_eq_true rfl)) dX8_pointsIn_103 ⟨Nat.le_of_ble_eq_true rfl, Nat.le_of_ble_eq_true rfl⟩) hS hP (fun r15 H locs hw hP hS => ?_)
            have f16 := hw
            try rw [(show xi (E55_ 4) 2 = r7 from vi_e hs55_4_2)] at f16
            rw [hQ]
            exact W.iret (v := r15) hx hb hr (fun t ht hW => ⟨⟨r15, E55_, rfl, ⟨hI, hKp, (MnB.pt (u := E55_) (n := r7.toNatClampNeg) (c := r7.toInt) (K64.of hKp (fun o9 ho9 j9 => wl_p rfl rfl ho9)) (by omega) k5 (by have h9 := f16; (try rw [show xi (E55_ 4) 2 = r7 from hx55_1] at h9); exact h9) f10 (by rw [tn_]) (fun o9 h9 => hx55_0 o9 (by rw [tn_] at h9 ⊢; omega)))⟩, by show va_P (dC, dI) vwCl (WL (LC cf) ad E55_) t.heap; rw [ht]; exact hP⟩, hS.F ht⟩) hS.2.2 dX8_pointsIn_106
          · --61 not
            have t17 : v55_4.toInt < r7.toInt := ti_nle c13
            have i18 : 0 ≤ v55_4.toInt ∧ v55_4.toInt ≤ 19 := iv_lt_l t17 hv55_4 f8 (by decide)
            have i19 : 1 ≤ r7.toInt ∧ r7.toInt ≤ 20 := iv_lt_r t17 hv55_4 f8 (by decide)
            refine lv_aload_n hx hb dX8_pointsIn_64 rfl (lv_at hl 1 rfl) ?_
            refine th_getL (ci := 9) (C := RX8) (T := TX8) (N := 10) (v := .ref (ad 3)) hx hb hts hinX8 hown hK hP hI 4 (mF 4 rfl) rfl rfl 1 (Nat.le_of_ble_eq_true rfl) (hts _ (vA_in _ _ (in_19 _ (zs16 (zs1 (zs0)))))) (fun _ h9 => h9) (hI.fr 4 (mF 4 rfl) rfl (Nat.le_of_ble_eq_true rfl) 3 rfl) dX8_pointsIn_65 ?_
            refine lv_iload hx hb dX8_pointsIn_68 (lv_at hl 0 rfl) ?_
            refine lv_iload_n hx hb dX8_pointsIn_70 rfl (lv_at hl 4 rfl) ?_
            refine th_vL (va_runV (As := [.int v55_4, .int a2]) (rest := []) ⟨hx, hb, hml, hown, hts⟩ (q_sheetX l dC dI cT cf hC ad E55_ H.size v55_4 a2 hI i18 (by omega) (by first | exact hh3 | exact (fun i9 hi9 => (hh3 i9 hi9).cg (kp_rul hKp (fun o9 ho9 j9 => wl_p rfl rfl ho9) i9)))) (cwV 2 hts (gi_V (in_20 _ (zs16 (zs1 (zs1 (zs1 (zs0)))))) (in_11 _ (zs16 (zs16 (zs1 (zs1 (zs1 (zs0))))))) (in_11 _ (zs16 (zs16 (zs4 (zs0))))) (in_11 _ (zs16 (zs16 (zs4 (zs1 (zs0)))))) (in_11 _ (zs16 (zs16 (zs4 (zs1 (zs1 (zs0)))))))) rfl rfl rfl ⟨rfl, hz_yX9_read_2⟩ ⟨Nat.le_of_ble_eq_true rfl, Nat.le_of_ble_eq_true rfl⟩) ⟨HWL_bl, va_recv hK hP (ci := 10) (q0 := posL 3 (LC cf)) rfl (hI.ob 3 (mF 3 rfl) rfl), (HWL_wi hP hK (WL_D hD) hS hA hEV)⟩ rfl rfl hl.1 rfl (lv_room (Nat.le_of_ble_eq_true rfl)) dX8_pointsIn_71 ⟨Nat.le_of_ble_eq_true rfl, Nat.le_of_ble_eq_true rfl⟩) (WL_D hD) hS hA (fun E21 H locs hw hP hS => ?_)
            obtain ⟨hI, kq22, hw⟩ := hw
            have hKb := hKp
            have hKp := hKp.tr kq22 (wl_sub rfl rfl)
            obtain ⟨y23, ey23⟩ : ∃ y, xi (E21 3) 6 = y := ⟨_, rfl⟩
            have fy23 : xv (E21 3) 6 = .int y23 := (hI.fi 3 (mF 3 rfl) rfl (Nat.le_of_ble_eq_true rfl) rfl).trans (congrArg Value.int ey23)
            have i24 : -1 ≤ y23.toInt ∧ y23.toInt ≤ 15 := by rw [← ey23]; exact hI.iv 3 (mF 3 rfl) rfl (Nat.le_of_ble_eq_true rfl) rfl
            obtain ⟨y25, ey25⟩ : ∃ y, xi (E21 3) 7 = y := ⟨_, rfl⟩
            have fy25 : xv (E21 3) 7 = .int y25 := (hI.fi 3 (mF 3 rfl) rfl (Nat.le_of_ble_eq_true rfl) rfl).trans (congrArg Value.int ey25)
            have i26 : 0 ≤ y25.toInt ∧ y25.toInt ≤ 16 := by rw [← ey25]; exact hI.iv 3 (mF 3 rfl) rfl (Nat.le_of_ble_eq_true rfl) rfl
            obtain ⟨y27, ey27⟩ : ∃ y, xi (E21 3) 8 = y := ⟨_, rfl⟩
            have fy27 : xv (E21 3) 8 = .int y27 := (hI.fi 3 (mF 3 rfl) rfl (Nat.le_of_ble_eq_true rfl) rfl).trans (congrArg Value.int ey27)
            have i28 : 0 ≤ y27.toInt ∧ y27.toInt ≤ 16 := by rw [← ey27]; exact hI.iv 3 (mF 3 rfl) rfl (Nat.le_of_ble_eq_true rfl) rfl
            have f29 := hw
            have k30 : ShR cf E E21 v55_4 a2 := ShR.k (K64.of hKb (fun o9 ho9 j9 => wl_p rfl rfl ho9)) f29
            refine lv_aload_n hx hb dX8_pointsIn_74 rfl (lv_at hl 1 rfl) ?_
            refine th_getL (ci := 9) (C := RX8) (T := TX8) (N := 10) (v := .ref (ad 31)) hx hb hts hinX8 hown hK hP hI 4 (mF 4 rfl) rfl rfl 3 (Nat.le_of_ble_eq_true rfl) (hts _ (vA_in _ _ (in_19 _ (zs4 (zs4 (zs0)))))) (fun _ h9 => h9) (hI.fr 4 (mF 4 rfl) rfl (Nat.le_of_ble_eq_true rfl) 31 rfl) dX8_pointsIn_75 ?_
            refine lv_iload hx hb dX8_pointsIn_78 (lv_at hl 0 rfl) ?_
            refine lv_iload_n hx hb dX8_pointsIn_80 rfl (lv_at hl 3 rfl) ?_
            refine th_pi (va_runSN (As := [.int v55_4, .int a1]) (rest := [.ref (ad 31)]) ⟨hx, hb, hml, hown, hts⟩ (q_ccell l v55_4 a1 i18 hh2) ⟨va_cnB 2 hts (gi_0 (in_10 _ (zs16 (zs4 (zs0))))) rfl rfl rfl (hEV.1.1 _ (List.mem_of_getElem? (i := 10) rfl)) (hts _ (vA_in _ _ (in_4 _ (zs16 (zs4 (zs1 (zs1 (zs1 (zs0))))))))) hz_yX12_cell_2 ⟨Nat.le_of_ble_eq_true rfl, Nat.le_of_ble_eq_true rfl⟩, (hts _ (vA_in _ _ (in_13 _ (zs1 (zs0))))), trivial⟩ ⟨fun _ _ _ _ q => q, fun _ _ _ => ⟨rfl, trivial⟩⟩ rfl rfl hl.1 rfl (lv_room (Nat.le_of_ble_eq_true rfl)) dX8_pointsIn_81 ⟨Nat.le_of_ble_eq_true rfl, Nat.le_of_ble_eq_true rfl⟩) hS (fun r31 H1 locs1 hw hk1 hS => ?_)
            have hP := ub_keep hP hk1
            generalize H1 = H at hP hS ⊢
            generalize locs1 = locs at hS ⊢
            obtain ⟨f32, f33⟩ := hw
            refine lv_aload_n hx hb dX8_pointsIn_84 rfl (lv_at hl 1 rfl) ?_
            refine th_getL (ci := 9) (C := RX8) (T := TX8) (N := 10) (v := .ref (ad 3)) hx hb hts hinX8 hown hK hP hI 4 (mF 4 rfl) rfl rfl 1 (Nat.le_of_ble_eq_true rfl) (hts _ (vA_in _ _ (in_19 _ (zs16 (zs1 (zs0)))))) (fun _ h9 => h9) (hI.fr 4 (mF 4 rfl) rfl (Nat.le_of_ble_eq_true rfl) 3 rfl) dX8_pointsIn_85 ?_
            refine lv_iload_n hx hb dX8_pointsIn_88 rfl (lv_at hl 3 rfl) ?_
            refine th_iL (va_runV (As := [.int a1]) (rest := [.int r31, .ref (ad 31)]) ⟨hx, hb, hml, hown, hts⟩ (q_plainPointsX l dC dI cT cf hC ad E21 H.size a1 hI hh2 (by exact lawC_lt hC f29.2.1) (by first | exact hh3 | exact (fun i9 hi9 => (hh3 i9 hi9).cg (kp_rul hKp (fun o9 ho9 j9 => wl_p rfl rfl ho9) i9)))) (cwV 1 hts (gi_V (in_20 _ (zs16 (zs4 (zs0)))) (in_20 _ (zs16 (zs4 (zs1 (zs0))))) (in_20 _ (zs16 (zs4 (zs1 (zs1 (zs0)))))) (in_11 _ (zs16 (zs16 (zs4 (zs1 (zs0)))))) (in_20 _ (zs16 (zs4 (zs1 (zs1 (zs1 (zs0)))))))) rfl rfl rfl ⟨rfl, hz_yX9_plainPointsOf_1⟩ ⟨Nat.le_of_ble_eq_true rfl, Nat.le_of_ble_eq_true rfl⟩) ⟨HWL_bl, va_recv hK hP (ci := 10) (q0 := posL 3 (LC cf)) rfl (hI.ob 3 (mF 3 rfl) rfl), (HWL_wi hP hK (WL_D hD) hS hA hEV)⟩ rfl rfl hl.1 rfl (lv_room (Nat.le_of_ble_eq_true rfl)) dX8_pointsIn_89 ⟨Nat.le_of_ble_eq_true rfl, Nat.le_of_ble_eq_true rfl⟩) (WL_D hD) hS hA (fun r34 E35 H locs hw hP hS => ?_)
            obtain ⟨hI, kq36, hw⟩ := hw
            have hKb := hKp
            have hKp := hKp.tr kq36 (wl_sub rfl rfl)
            obtain ⟨f37, f38⟩ := hw
            have k40 : PpC cf E (nI v55_4.toNatClampNeg) a2 a1.toNatClampNeg r34.toInt := by rw [nI_tn (show 0 ≤ v55_4.toInt by omega)]; refine PpC.of k30 (by rw [tn_]; omega) (f38.trans ?_); rw [wV_cg (E := E) (fun i9 t9 h9 g9 j9 => kp_rul hKb (fun o9 ho9 j9 => wl_p rfl rfl ho9) i9 t9 h9 g9 j9)]
            have n41 : vp_in r31 320 := (iv_in (n := 320) f32 (by decide))
            refine th_iastL hx hb hK hP (WL_D hD) hS hI 31 (mF 31 rfl) rfl rfl n41 (okI rfl f37) dX8_pointsIn_92 (fun H locs E42 pw43 hI hP hS => ?_)
            have hKp := hKp.pw pw43 rfl
            obtain ⟨y44, ey44⟩ : ∃ y : Int32, y = v55_4 + (1 : Int32) := ⟨_, rfl⟩
            obtain ⟨ty44, iy44⟩ := ti_add (e := 1) (f := 20) i18 ln_1 ey44 (by decide)
            have ty44 : y44.toInt = v55_4.toInt + 1 := ty44
            have iy44 : 1 ≤ y44.toInt ∧ y44.toInt ≤ 20 := iy44
            refine lv_iinc (v := y44) (lv' := [(4, .int y44), (0, .ref (ad 4)), (1, .int a0), (2, .int a1), (3, .int a2)]) hx hb dX8_pointsIn_93 hl (k := 0) rfl (by rw [ey44]; rfl) (by decide) rfl (fun ls hl => ?_)
            refine lv_goto (tgt := 55) hx hb dX8_pointsIn_96 (by decide) ?_
            exact ih55 y44 E42 _ _ _ (iv_w iy44 (by decide)) (row_c (P := (fun o9 p9 => PpC cf E (nI o9) a2 a1.toNatClampNeg p9)) (row_cc (P := (fun o9 p9 => PpC cf E (nI o9) a2 a1.toNatClampNeg p9)) (row_cc (P := (fun o9 p9 => PpC cf E (nI o9) a2 a1.toNatClampNeg p9)) hx55_0 (fun j9 => kq22.ei 31 j9 rfl)) (fun j9 => kq36.ei 31 j9 rfl)) pw43 (by rw [show ((a1.toNatClampNeg : Nat) : Int) = a1.toInt by rw [tn_]; omega]; omega) (by rw [tn_]; omega) k40 (by omega) (by omega)) (by rw [show xi (E42 4) 2 = xi (E55_ 4) 2 from (congrArg vi (pw43.2 4 2 (fun q9 => absurd q9.1 (by decide)))).trans ((kq36.ei 4 2 rfl).trans (kq22.ei 4 2 rfl))]; exact hx55_1) (by omega) (by first | exact ms_su hx55_3 ty44 (by decide) | omega) hI hKp ((pw43.2 4 2 (fun q9 => absurd q9.1 (Nat.ne_of_beq_eq_false rfl))).trans ((kq36 4 2 rfl).trans ((kq22 4 2 rfl).trans hs55_4_2))) hP hS (lv_sub hl [0, 1, 2, 3, 4] rfl)
      exact hL55 (21) (0 : Int32) E11 _ _ _ (iv_w ln_0 (by decide)) (fun o9 h9 => absurd h9 (Nat.not_lt_zero o9)) (vi_e pw12.1) (by omega) (by have h9 := ln_0; first | exact ms_bu h9.1 (by decide) | omega) hI hKp pw12.1 hP hS (lv_sub hl [0, 1, 2, 3, 4] rfl)
    · --19 not
      exact absurd c6 (by decide)
  · -- isRedressedIn, case 1
    obtain ⟨rfl, f45⟩ := hw
    have k46 : ¬ redC E a1.toNatClampNeg a2.toInt a0.toNatClampNeg := f45
    refine lv_if_ne (tgt := 40) hx hb dX8_pointsIn_19 (by decide) (fun c47 => ?_) (fun c47 => ?_)
    · --19 taken
      exact absurd c47 (by decide)
    · --19 not
      refine lv_aload_n hx hb dX8_pointsIn_22 rfl (lv_at hl 0 rfl) ?_
      refine th_getL (ci := 9) (C := RX8) (T := TX8) (N := 10) (v := .ref (ad 3)) hx hb hts hinX8 hown hK hP hI 4 (mF 4 rfl) rfl rfl 1 (Nat.le_of_ble_eq_true rfl) (hts _ (vA_in _ _ (in_19 _ (zs16 (zs1 (zs0)))))) (fun _ h9 => h9) (hI.fr 4 (mF 4 rfl) rfl (Nat.le_of_ble_eq_true rfl) 3 rfl) dX8_pointsIn_23 ?_
      refine lv_iload_n hx hb dX8_pointsIn_26 rfl (lv_at hl 1 rfl) ?_
      refine lv_iload_n hx hb dX8_pointsIn_27 rfl (lv_at hl 3 rfl) ?_
      refine th_vL (va_runV (As := [.int a0, .int a2]) (rest := []) ⟨hx, hb, hml, hown, hts⟩ (q_sheetX l dC dI cT cf hC ad E H.size a0 a2 hI hh0 (by omega) (by first | exact hh3 | exact (fun i9 hi9 => (hh3 i9 hi9).cg (kp_rul hKp (fun o9 ho9 j9 => wl_p rfl rfl ho9) i9)))) (cwV 2 hts (gi_V (in_20 _ (zs16 (zs1 (zs1 (zs1 (zs0)))))) (in_11 _ (zs16 (zs16 (zs1 (zs1 (zs1 (zs0))))))) (in_11 _ (zs16 (zs16 (zs4 (zs0))))) (in_11 _ (zs16 (zs16 (zs4 (zs1 (zs0)))))) (in_11 _ (zs16 (zs16 (zs4 (zs1 (zs1 (zs0)))))))) rfl rfl rfl ⟨rfl, hz_yX9_read_2⟩ ⟨Nat.le_of_ble_eq_true rfl, Nat.le_of_ble_eq_true rfl⟩) ⟨HWL_bl, va_recv hK hP (ci := 10) (q0 := posL 3 (LC cf)) rfl (hI.ob 3 (mF 3 rfl) rfl), (HWL_wi hP hK (WL_D hD) hS hA hEV)⟩ rfl rfl hl.1 rfl (lv_room (Nat.le_of_ble_eq_true rfl)) dX8_pointsIn_28 ⟨Nat.le_of_ble_eq_true rfl, Nat.le_of_ble_eq_true rfl⟩) (WL_D hD) hS hA (fun E49 H locs hw hP hS => ?_)
      obtain ⟨hI, kq50, hw⟩ := hw
      have hKb := hKp
      have hKp := hKp.tr kq50 (wl_sub rfl rfl)
      obtain ⟨y51, ey51⟩ : ∃ y, xi (E49 3) 6 = y := ⟨_, rfl⟩
      have fy51 : xv (E49 3) 6 = .int y51 := (hI.fi 3 (mF 3 rfl) rfl (Nat.le_of_ble_eq_true rfl) rfl).trans (congrArg Value.int ey51)
      have i52 : -1 ≤ y51.toInt ∧ y51.toInt ≤ 15 := by rw [← ey51]; exact hI.iv 3 (mF 3 rfl) rfl (Nat.le_of_ble_eq_true rfl) rfl
      obtain ⟨y53, ey53⟩ : ∃ y, xi (E49 3) 7 = y := ⟨_, rfl⟩
      have fy53 : xv (E49 3) 7 = .int y53 := (hI.fi 3 (mF 3 rfl) rfl (Nat.le_of_ble_eq_true rfl) rfl).trans (congrArg Value.int ey53)
      have i54 : 0 ≤ y53.toInt ∧ y53.toInt ≤ 16 := by rw [← ey53]; exact hI.iv 3 (mF 3 rfl) rfl (Nat.le_of_ble_eq_true rfl) rfl
      obtain ⟨y55, ey55⟩ : ∃ y, xi (E49 3) 8 = y := ⟨_, rfl⟩
      have fy55 : xv (E49 3) 8 = .int y55 := (hI.fi 3 (mF 3 rfl) rfl (Nat.le_of_ble_eq_true rfl) rfl).trans (congrArg Value.int ey55)
      have i56 : 0 ≤ y55.toInt ∧ y55.toInt ≤ 16 := by rw [← ey55]; exact hI.iv 3 (mF 3 rfl) rfl (Nat.le_of_ble_eq_true rfl) rfl
      have f57 := hw
      refine lv_aload_n hx hb dX8_pointsIn_31 rfl (lv_at hl 0 rfl) ?_
      refine th_getL (ci := 9) (C := RX8) (T := TX8) (N := 10) (v := .ref (ad 3)) hx hb hts hinX8 hown hK hP hI 4 (mF 4 rfl) rfl rfl 1 (Nat.le_of_ble_eq_true rfl) (hts _ (vA_in _ _ (in_19 _ (zs16 (zs1 (zs0)))))) (fun _ h9 => h9) (hI.fr 4 (mF 4 rfl) rfl (Nat.le_of_ble_eq_true rfl) 3 rfl) dX8_pointsIn_32 ?_
      refine lv_iload_n hx hb dX8_pointsIn_35 rfl (lv_at hl 2 rfl) ?_
      refine th_iL (va_runV (As := [.int a1]) (rest := []) ⟨hx, hb, hml, hown, hts⟩ (q_plainPointsX l dC dI cT cf hC ad E49 H.size a1 hI hh2 (by exact lawC_lt hC f57.2.1) (by first | exact hh3 | exact (fun i9 hi9 => (hh3 i9 hi9).cg (kp_rul hKp (fun o9 ho9 j9 => wl_p rfl rfl ho9) i9)))) (cwV 1 hts (gi_V (in_20 _ (zs16 (zs4 (zs0)))) (in_20 _ (zs16 (zs4 (zs1 (zs0))))) (in_20 _ (zs16 (zs4 (zs1 (zs1 (zs0)))))) (in_11 _ (zs16 (zs16 (zs4 (zs1 (zs0)))))) (in_20 _ (zs16 (zs4 (zs1 (zs1 (zs1 (zs0)))))))) rfl rfl rfl ⟨rfl, hz_yX9_plainPointsOf_1⟩ ⟨Nat.le_of_ble_eq_true rfl, Nat.le_of_ble_eq_true rfl⟩) ⟨HWL_bl, va_recv hK hP (ci := 10) (q0 := posL 3 (LC cf)) rfl (hI.ob 3 (mF 3 rfl) rfl), (HWL_wi hP hK (WL_D hD) hS hA hEV)⟩ rfl rfl hl.1 rfl (lv_room (Nat.le_of_ble_eq_true rfl)) dX8_pointsIn_36 ⟨Nat.le_of_ble_eq_true rfl, Nat.le_of_ble_eq_true rfl⟩) (WL_D hD) hS hA (fun r58 E59 H locs hw hP hS => ?_)
      obtain ⟨hI, kq60, hw⟩ := hw
      have hKb := hKp
      have hKp := hKp.tr kq60 (wl_sub rfl rfl)
      obtain ⟨f61, f62⟩ := hw
      have k63 : PpC cf E a0 a2 a1.toNatClampNeg r58.toInt := by refine PpC.of f57 (by rw [tn_]; omega) (f62.trans ?_); rw [wV_cg (E := E) (fun i9 t9 h9 g9 j9 => kp_rul hKb (fun o9 ho9 j9 => wl_p rfl rfl ho9) i9 t9 h9 g9 j9)]
      rw [hQ]
      exact W.iret (v := r58) hx hb hr (fun t ht hW => ⟨⟨r58, E59, rfl, ⟨hI, hKp, ⟨fun _ => k63, fun z9 => absurd z9 k46⟩⟩, by show va_P (dC, dI) vwCl (WL (LC cf) ad E59) t.heap; rw [ht]; exact hP⟩, hS.F ht⟩) hS.2.2 dX8_pointsIn_39
def v_u_pointsX : List Cond := .code yX12_points cX12_points 4 (some .int) :: vA
abbrev rm_u_pointsX : Room := { frames := 7, cells := 0, slots := 0, locals := 280 }
def w_u_pointsX : Nat → Nat → Bool := wl [19, 20, 26, 27, 28, 29, 30, 31] [(3, 6), (3, 7), (3, 8), (4, 2)]
set_option maxHeartbeats 4000000 in
set_option maxRecDepth 100000 in
theorem q_u_pointsX (l : Launch) (dC : Nat → ClassId) (dI : Nat → Nat → Nat) (cT : Nat → ClassId) (cf : Nat → Nat) (hC : CF cf) (ad : Nat → Nat) (E : Nat → va_E) (sz : Nat) (a0 : Int32) (a1 : Int32) (a2 : Int32) (hI0 : IXL cT (shC cf) (spC cf) (LC cf) ad E) (hh0 : RulAll cf E) : Met l yX12_points v_u_pointsX rm_u_pointsX (va_Pc [.ref (ad 0), .int a0, .int a1, .int a2] (HWL dC dI (TYC cT) cf ad E sz)) (va_Qi (S := Nat → va_E) (fun r u => IXL cT (shC cf) (spC cf) (LC cf) ad u ∧ Kp w_u_pointsX E u ∧ (((((((0 ≤ a2.toInt ∧ a2.toInt ≤ (xi (E 1) 0).toInt) ∧ (0 ≤ a0.toInt ∧ a0.toInt < ((cf 2 : Nat) : Int)) ∧ (xi (E (64 * (a0.toNatClampNeg + 1) + 6)) 0).toInt ≤ a2.toInt) ∧ (0 ≤ a1.toInt ∧ a1.toInt < (xi (E 1) 1).toInt)) → (PtC cf E a0 a2 a1.toNatClampNeg r.toInt)) ∧ (¬ (((0 ≤ a2.toInt ∧ a2.toInt ≤ (xi (E 1) 0).toInt) ∧ (0 ≤ a0.toInt ∧ a0.toInt < ((cf 2 : Nat) : Int)) ∧ (xi (E (64 * (a0.toNatClampNeg + 1) + 6)) 0).toInt ≤ a2.toInt) ∧ (0 ≤ a1.toInt ∧ a1.toInt < (xi (E 1) 1).toInt)) → (r.toInt = -1)))))) (HBL dC dI (LC cf) ad) (va_A (WL (LC cf) ad E) sz)) 0 0 (va_A (WL (LC cf) ad E) sz) := by
  obtain ⟨⟨hc0, hc1, hc2, hc3, hc4, hc5⟩, hcr⟩ := id hC
  refine Met.ofW (cc := cX12_points) (maxL := 4) (ret := (some .int)) (by decide) rfl ?_
  intro p e s m args below meth c s₁ B hml hv
  obtain ⟨hargs, hsz, hP, hK, hD0, hEV⟩ := hv
  subst hsz
  have hx := B.exec
  have hb := B.bytes
  have hr := B.returns
  have hts := atoms_spec (ws := v_u_pointsX) B.pre
  have hown : s.vm.findClass RX12 = some m.cls := findClass_of_methodNamed B.named
  have hlocks := B.notSynchronized
  have hinX12 : ∀ w ∈ u_ws RX12 TX12 6, w ∈ v_u_pointsX := fun w h => vA_in _ w (in_X12 w h)
  generalize hAe : va_A (WL (LC cf) ad E) s.heap.size = A at hEV ⊢
  have hA : ∀ q : Nat, s.heap.size ≤ q → A q := fun q h => by rw [← hAe]; exact Or.inr h
  have hD : va_D A (WL (LC cf) ad E) := by rw [← hAe]; exact hD0.self
  have hS : va_S A s.heap s.heap [] := va_S.rf
  have hI := hI0
  have hKp : Kp w_u_pointsX E E := Kp.rf
  have hl := lv_entry ([.ref (ad 0), .int a0, .int a1, .int a2]) (n := 4) (Nat.le_of_ble_eq_true rfl)
  obtain ⟨Q, hQ⟩ : ∃ Q, Q = MQ below (va_Qi (S := Nat → va_E) (fun r u => IXL cT (shC cf) (spC cf) (LC cf) ad u ∧ Kp w_u_pointsX E u ∧ (((((((0 ≤ a2.toInt ∧ a2.toInt ≤ (xi (E 1) 0).toInt) ∧ (0 ≤ a0.toInt ∧ a0.toInt < ((cf 2 : Nat) : Int)) ∧ (xi (E (64 * (a0.toNatClampNeg + 1) + 6)) 0).toInt ≤ a2.toInt) ∧ (0 ≤ a1.toInt ∧ a1.toInt < (xi (E 1) 1).toInt)) → (PtC cf E a0 a2 a1.toNatClampNeg r.toInt)) ∧ (¬ (((0 ≤ a2.toInt ∧ a2.toInt ≤ (xi (E 1) 0).toInt) ∧ (0 ≤ a0.toInt ∧ a0.toInt < ((cf 2 : Nat) : Int)) ∧ (xi (E (64 * (a0.toNatClampNeg + 1) + 6)) 0).toInt ≤ a2.toInt) ∧ (0 ≤ a1.toInt ∧ a1.toInt < (xi (E 1) 1).toInt)) → (r.toInt = -1)))))) (HBL dC dI (LC cf) ad) (A)) args s 0 0 (A) := ⟨_, rfl⟩
  rw [← hQ, show entryFrame m args 4 = _ from (congrArg (fun z => entryFrame m z 4) hargs).trans (lg_entry_eq _ _ _)]
  generalize (lg_sl ([.ref (ad 0), .int a0, .int a1, .int a2]) ++ List.replicate (4 - (lg_sl ([.ref (ad 0), .int a0, .int a1, .int a2])).length) Slot.unset).toArray = ls at hl ⊢
  have hl : lv_has ls 4 [(0, .ref (ad 0)), (1, .int a0), (2, .int a1), (3, .int a2)] := hl
  refine lv_aload_n hx hb dX12_points_0 rfl (lv_at hl 0 rfl) ?_
  refine th_getL (ci := 13) (C := RX12) (T := TX12) (N := 6) (v := .ref (ad 1)) hx hb hts hinX12 hown hK hP hI 0 (mF 0 rfl) rfl rfl 0 (Nat.le_of_ble_eq_true rfl) (hts _ (vA_in _ _ (in_10 _ (zs16 (zs1 (zs0)))))) (fun _ h9 => h9) (hI.fr 0 (mF 0 rfl) rfl (Nat.le_of_ble_eq_true rfl) 1 rfl) dX12_points_1 ?_
  refine lv_iload_n hx hb dX12_points_4 rfl (lv_at hl 1 rfl) ?_
  refine lv_iload_n hx hb dX12_points_5 rfl (lv_at hl 3 rfl) ?_
  refine th_riL (va_runV (As := [.int a0, .int a2]) (rest := []) ⟨hx, hb, hml, hown, hts⟩ (q_isCountedC l dC dI cT cf hC ad E s.heap.size a0 a2 hI) (cwV 2 hts (gi_V (in_13 _ (zs16 (zs16 (zs4 (zs1 (zs1 (zs0))))))) (in_13 _ (zs16 (zs16 (zs4 (zs1 (zs1 (zs1 (zs0)))))))) (in_14 _ zs0) (in_5 _ (zs4 (zs1 (zs1 (zs0))))) (in_5 _ (zs16 (zs16 (zs4 (zs1 (zs1 (zs1 (zs0))))))))) rfl rfl rfl ⟨rfl, hz_yX0_isCounted_2⟩ ⟨Nat.le_of_ble_eq_true rfl, Nat.le_of_ble_eq_true rfl⟩) ⟨HWL_bl, va_recv hK hP (ci := 1) (q0 := posL 1 (LC cf)) rfl (hI.ob 1 (mF 1 rfl) rfl), (HWL_wi hP hK (WL_D hD) hS hA hEV)⟩ rfl rfl hl.1 rfl (lv_room (Nat.le_of_ble_eq_true rfl)) dX12_points_6 ⟨Nat.le_of_ble_eq_true rfl, Nat.le_of_ble_eq_true rfl⟩) hS hP (fun r1 H locs hw hP hS => ?_)
  rcases hw with hw | hw
  · -- isCountedC, case 0
    obtain ⟨rfl, f2, f3, f4⟩ := hw
    have i5 : 0 ≤ (xi (E 1) 0).toInt ∧ (xi (E 1) 0).toInt ≤ 400 := hI0.iv 1 (mF 1 rfl) rfl (Nat.le_of_ble_eq_true rfl) rfl
    refine lv_if_eq (tgt := 23) hx hb dX12_points_9 (by decide) (fun c6 => ?_) (fun c6 => ?_)
    · --9 taken
      exact absurd c6 (by decide)
    · --9 not
      refine lv_aload_n hx hb dX12_points_12 rfl (lv_at hl 0 rfl) ?_
      refine th_getL (ci := 13) (C := RX12) (T := TX12) (N := 6) (v := .ref (ad 1)) hx hb hts hinX12 hown hK hP hI 0 (mF 0 rfl) rfl rfl 0 (Nat.le_of_ble_eq_true rfl) (hts _ (vA_in _ _ (in_10 _ (zs16 (zs1 (zs0)))))) (fun _ h9 => h9) (hI.fr 0 (mF 0 rfl) rfl (Nat.le_of_ble_eq_true rfl) 1 rfl) dX12_points_13 ?_
      refine lv_iload_n hx hb dX12_points_16 rfl (lv_at hl 2 rfl) ?_
      refine th_riL (va_runV (As := [.int a1]) (rest := []) ⟨hx, hb, hml, hown, hts⟩ (q_isBoatC l dC dI cT cf hC ad E H.size a1 hI) (cwV 1 hts (gi_V (in_10 _ (zs16 (zs4 (zs4 (zs1 (zs1 (zs1 (zs0)))))))) (in_6 _ (zs4 (zs4 (zs4 (zs0))))) (in_6 _ (zs4 (zs4 (zs4 (zs1 (zs0)))))) (in_5 _ (zs4 (zs1 (zs1 (zs0))))) (in_5 _ (zs16 (zs16 (zs4 (zs1 (zs1 (zs0)))))))) rfl rfl rfl ⟨rfl, hz_yX0_isBoat_1⟩ ⟨Nat.le_of_ble_eq_true rfl, Nat.le_of_ble_eq_true rfl⟩) ⟨HWL_bl, va_recv hK hP (ci := 1) (q0 := posL 1 (LC cf)) rfl (hI.ob 1 (mF 1 rfl) rfl), (HWL_wi hP hK (WL_D hD) hS hA hEV)⟩ rfl rfl hl.1 rfl (lv_room (Nat.le_of_ble_eq_true rfl)) dX12_points_17 ⟨Nat.le_of_ble_eq_true rfl, Nat.le_of_ble_eq_true rfl⟩) hS hP (fun r7 H locs hw hP hS => ?_)
      rcases hw with hw | hw
      · -- isBoatC, case 0
        obtain ⟨rfl, f8, f9⟩ := hw
        have i10 : 0 ≤ (xi (E 1) 1).toInt ∧ (xi (E 1) 1).toInt ≤ 16 := hI0.iv 1 (mF 1 rfl) rfl (Nat.le_of_ble_eq_true rfl) rfl
        refine lv_if_ne (tgt := 25) hx hb dX12_points_20 (by decide) (fun c11 => ?_) (fun c11 => ?_)
        · --20 taken
          refine lv_aload_n hx hb dX12_points_25 rfl (lv_at hl 0 rfl) ?_
          refine th_getL (ci := 13) (C := RX12) (T := TX12) (N := 6) (v := .ref (ad 4)) hx hb hts hinX12 hown hK hP hI 0 (mF 0 rfl) rfl rfl 3 (Nat.le_of_ble_eq_true rfl) (hts _ (vA_in _ _ (in_18 _ (zs16 (zs16 (zs1 (zs0))))))) (fun _ h9 => h9) (hI.fr 0 (mF 0 rfl) rfl (Nat.le_of_ble_eq_true rfl) 4 rfl) dX12_points_26 ?_
          refine lv_iload_n hx hb dX12_points_29 rfl (lv_at hl 1 rfl) ?_
          refine lv_iload_n hx hb dX12_points_30 rfl (lv_at hl 2 rfl) ?_
          refine lv_iload_n hx hb dX12_points_31 rfl (lv_at hl 3 rfl) ?_
          refine th_iL (va_runV (As := [.int a0, .int a1, .int a2]) (rest := []) ⟨hx, hb, hml, hown, hts⟩ (q_pointsInX l dC dI cT cf hC ad E H.size a0 a1 a2 hI f3 (by omega) f9 (by exact hh0)) (cwV 3 hts (gi_V (in_20 _ (zs4 (zs1 (zs1 (zs0))))) (in_20 _ (zs4 (zs1 (zs1 (zs1 (zs0)))))) (in_20 _ (zs4 (zs4 (zs0)))) (in_18 _ (zs16 (zs16 (zs0)))) (in_20 _ (zs4 (zs4 (zs1 (zs0)))))) rfl rfl rfl ⟨rfl, hz_yX8_pointsIn_3⟩ ⟨Nat.le_of_ble_eq_true rfl, Nat.le_of_ble_eq_true rfl⟩) ⟨HWL_bl, va_recv hK hP (ci := 9) (q0 := posL 4 (LC cf)) rfl (hI.ob 4 (mF 4 rfl) rfl), (HWL_wi hP hK (WL_D hD) hS hA hEV)⟩ rfl rfl hl.1 rfl (lv_room (Nat.le_of_ble_eq_true rfl)) dX12_points_32 ⟨Nat.le_of_ble_eq_true rfl, Nat.le_of_ble_eq_true rfl⟩) (WL_D hD) hS hA (fun r12 E13 H locs hw hP hS => ?_)
          obtain ⟨hI, kq14, hw⟩ := hw
          have hKb := hKp
          have hKp := hKp.tr kq14 (wl_sub rfl rfl)
          have f15 := hw
          rw [hQ]
          exact W.iret (v := r12) hx hb hr (fun t ht hW => ⟨⟨r12, E13, rfl, ⟨hI, hKp, ⟨fun _ => f15, fun g9 => by exfalso; omega⟩⟩, by show va_P (dC, dI) vwCl (WL (LC cf) ad E13) t.heap; rw [ht]; exact hP⟩, hS.F ht⟩) hS.2.2 dX12_points_35
        · --20 not
          exact absurd c11 (by decide)
      · -- isBoatC, case 1
        obtain ⟨rfl, f16⟩ := hw
        have i17 : 0 ≤ (xi (E 1) 1).toInt ∧ (xi (E 1) 1).toInt ≤ 16 := hI0.iv 1 (mF 1 rfl) rfl (Nat.le_of_ble_eq_true rfl) rfl
        refine lv_if_ne (tgt := 25) hx hb dX12_points_20 (by decide) (fun c18 => ?_) (fun c18 => ?_)
        · --20 taken
          exact absurd c18 (by decide)
        · --20 not
          refine lv_iconst (v := -1) hx hb dX12_points_23 (by decide) ?_
          rw [hQ]
          exact W.iret (v := (-1)) hx hb hr (fun t ht hW => ⟨⟨(-1), E, rfl, ⟨hI, hKp, ⟨fun g9 => by exfalso; omega, fun _ => rfl⟩⟩, by show va_P (dC, dI) vwCl (WL (LC cf) ad E) t.heap; rw [ht]; exact hP⟩, hS.F ht⟩) hS.2.2 dX12_points_24
  · -- isCountedC, case 1
    obtain ⟨rfl, f19⟩ := hw
    have i20 : 0 ≤ (xi (E 1) 0).toInt ∧ (xi (E 1) 0).toInt ≤ 400 := hI0.iv 1 (mF 1 rfl) rfl (Nat.le_of_ble_eq_true rfl) rfl
    refine lv_if_eq (tgt := 23) hx hb dX12_points_9 (by decide) (fun c21 => ?_) (fun c21 => ?_)
    · --9 taken
      refine lv_iconst (v := -1) hx hb dX12_points_23 (by decide) ?_
      rw [hQ]
      exact W.iret (v := (-1)) hx hb hr (fun t ht hW => ⟨⟨(-1), E, rfl, ⟨hI, hKp, ⟨fun g9 => by exfalso; omega, fun _ => rfl⟩⟩, by show va_P (dC, dI) vwCl (WL (LC cf) ad E) t.heap; rw [ht]; exact hP⟩, hS.F ht⟩) hS.2.2 dX12_points_24
    · --9 not
      exact absurd c21 (by decide)
