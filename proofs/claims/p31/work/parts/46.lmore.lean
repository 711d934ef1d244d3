set_option maxRecDepth 100000 in
theorem zh_dX0_certificateOn_0_0 : zc cX0_certificateOn 0 [2, 54, 4, 3, 54, 5, 3, 54, 6, 21, 6, 42, 180, 0, 12, 182] = true := by decide +kernel
set_option maxRecDepth 100000 in
theorem zh_dX0_certificateOn_15_16 : zc cX0_certificateOn 16 [0, 56, 162, 0, 71, 42, 180, 0, 12, 21, 6, 182, 0, 69, 192, 0] = true := by decide +kernel
set_option maxRecDepth 100000 in
theorem zh_dX0_certificateOn_30_32 : zc cX0_certificateOn 32 [94, 58, 7, 25, 7, 180, 0, 96, 27, 160, 0, 42, 25, 7, 180, 0] = true := by decide +kernel
set_option maxRecDepth 100000 in
theorem zh_dX0_certificateOn_46_48 : zc cX0_certificateOn 48 [99, 29, 163, 0, 33, 25, 7, 180, 0, 100, 28, 163, 0, 24, 25, 7] = true := by decide +kernel
set_option maxRecDepth 100000 in
theorem zh_dX0_certificateOn_64_64 : zc cX0_certificateOn 64 [180, 0, 100, 21, 5, 161, 0, 14, 21, 6, 54, 4, 25, 7, 180, 0] = true := by decide +kernel
set_option maxRecDepth 100000 in
theorem zh_dX0_certificateOn_78_80 : zc cX0_certificateOn 80 [100, 54, 5, 132, 6, 1, 167, 255, 179, 21, 4, 172] = true := by decide +kernel
set_option maxRecDepth 100000 in
theorem zh_dX12_measured_0_0 : zc cX12_measured 0 [42, 180, 0, 10, 27, 182, 0, 66, 153, 0, 21, 28, 184, 0, 70, 153] = true := by decide +kernel
set_option maxRecDepth 100000 in
theorem zh_dX12_measured_15_16 : zc cX12_measured 16 [0, 14, 42, 180, 0, 10, 29, 182, 0, 92, 154, 0, 5, 2, 172, 42] = true := by decide +kernel
set_option maxRecDepth 100000 in
theorem zh_dX12_measured_32_32 : zc cX12_measured 32 [180, 0, 10, 27, 28, 29, 182, 0, 95, 172] = true := by decide +kernel
set_option maxRecDepth 100000 in
theorem zh_dX13_measured_0_0 : zc cX13_measured 0 [42, 3, 181, 0, 228, 42, 27, 182, 0, 245, 153, 0, 28, 28, 184, 0] = true := by decide +kernel
set_option maxRecDepth 100000 in
theorem zh_dX13_measured_14_16 : zc cX13_measured 16 [249, 153, 0, 21, 42, 29, 182, 0, 252, 153, 0, 13, 42, 27, 28, 29] = true := by decide +kernel
set_option maxRecDepth 100000 in
theorem zh_dX13_measured_32_32 : zc cX13_measured 32 [182, 0, 255, 167, 0, 4, 2, 172] = true := by decide +kernel
theorem dX0_certificateOn_0 : decode cX0_certificateOn 0 = .ok (.iconst (-1), 1) := zo_2 (zi_at zh_dX0_certificateOn_0_0 0 rfl)
theorem dX0_certificateOn_1 : decode cX0_certificateOn 1 = .ok (.istore 4, 2) := zo_54 (zi_at zh_dX0_certificateOn_0_0 1 rfl) (zi_at zh_dX0_certificateOn_0_0 2 rfl)
theorem dX0_certificateOn_3 : decode cX0_certificateOn 3 = .ok (.iconst 0, 1) := zo_3 (zi_at zh_dX0_certificateOn_0_0 3 rfl)
theorem dX0_certificateOn_4 : decode cX0_certificateOn 4 = .ok (.istore 5, 2) := zo_54 (zi_at zh_dX0_certificateOn_0_0 4 rfl) (zi_at zh_dX0_certificateOn_0_0 5 rfl)
theorem dX0_certificateOn_6 : decode cX0_certificateOn 6 = .ok (.iconst 0, 1) := zo_3 (zi_at zh_dX0_certificateOn_0_0 6 rfl)
theorem dX0_certificateOn_7 : decode cX0_certificateOn 7 = .ok (.istore 6, 2) := zo_54 (zi_at zh_dX0_certificateOn_0_0 7 rfl) (zi_at zh_dX0_certificateOn_0_0 8 rfl)
theorem dX0_certificateOn_9 : decode cX0_certificateOn 9 = .ok (.iload 6, 2) := zo_21 (zi_at zh_dX0_certificateOn_0_0 9 rfl) (zi_at zh_dX0_certificateOn_0_0 10 rfl)
theorem dX0_certificateOn_11 : decode cX0_certificateOn 11 = .ok (.aload_n 0, 1) := zo_42 (zi_at zh_dX0_certificateOn_0_0 11 rfl)
theorem dX0_certificateOn_12 : decode cX0_certificateOn 12 = .ok (.getfield 12, 3) := zo_180 (zi_at zh_dX0_certificateOn_0_0 12 rfl) (zi_at zh_dX0_certificateOn_0_0 13 rfl) (zi_at zh_dX0_certificateOn_0_0 14 rfl) rfl
theorem dX0_certificateOn_15 : decode cX0_certificateOn 15 = .ok (.invokevirtual 56, 3) := zo_182 (zi_at zh_dX0_certificateOn_0_0 15 rfl) (zi_at zh_dX0_certificateOn_15_16 0 rfl) (zi_at zh_dX0_certificateOn_15_16 1 rfl) rfl
theorem dX0_certificateOn_18 : decode cX0_certificateOn 18 = .ok (.if_icmp .ge 71, 3) := zo_162 (zi_at zh_dX0_certificateOn_15_16 2 rfl) (zi_at zh_dX0_certificateOn_15_16 3 rfl) (zi_at zh_dX0_certificateOn_15_16 4 rfl) rfl
theorem dX0_certificateOn_21 : decode cX0_certificateOn 21 = .ok (.aload_n 0, 1) := zo_42 (zi_at zh_dX0_certificateOn_15_16 5 rfl)
theorem dX0_certificateOn_22 : decode cX0_certificateOn 22 = .ok (.getfield 12, 3) := zo_180 (zi_at zh_dX0_certificateOn_15_16 6 rfl) (zi_at zh_dX0_certificateOn_15_16 7 rfl) (zi_at zh_dX0_certificateOn_15_16 8 rfl) rfl
theorem dX0_certificateOn_25 : decode cX0_certificateOn 25 = .ok (.iload 6, 2) := zo_21 (zi_at zh_dX0_certificateOn_15_16 9 rfl) (zi_at zh_dX0_certificateOn_15_16 10 rfl)
theorem dX0_certificateOn_27 : decode cX0_certificateOn 27 = .ok (.invokevirtual 69, 3) := zo_182 (zi_at zh_dX0_certificateOn_15_16 11 rfl) (zi_at zh_dX0_certificateOn_15_16 12 rfl) (zi_at zh_dX0_certificateOn_15_16 13 rfl) rfl
theorem dX0_certificateOn_30 : decode cX0_certificateOn 30 = .ok (.checkcast 94, 3) := zo_192 (zi_at zh_dX0_certificateOn_15_16 14 rfl) (zi_at zh_dX0_certificateOn_15_16 15 rfl) (zi_at zh_dX0_certificateOn_30_32 0 rfl) rfl
theorem dX0_certificateOn_33 : decode cX0_certificateOn 33 = .ok (.astore 7, 2) := zo_58 (zi_at zh_dX0_certificateOn_30_32 1 rfl) (zi_at zh_dX0_certificateOn_30_32 2 rfl)
theorem dX0_certificateOn_35 : decode cX0_certificateOn 35 = .ok (.aload 7, 2) := zo_25 (zi_at zh_dX0_certificateOn_30_32 3 rfl) (zi_at zh_dX0_certificateOn_30_32 4 rfl)
theorem dX0_certificateOn_37 : decode cX0_certificateOn 37 = .ok (.getfield 96, 3) := zo_180 (zi_at zh_dX0_certificateOn_30_32 5 rfl) (zi_at zh_dX0_certificateOn_30_32 6 rfl) (zi_at zh_dX0_certificateOn_30_32 7 rfl) rfl
theorem dX0_certificateOn_40 : decode cX0_certificateOn 40 = .ok (.iload_n 1, 1) := zo_27 (zi_at zh_dX0_certificateOn_30_32 8 rfl)
theorem dX0_certificateOn_41 : decode cX0_certificateOn 41 = .ok (.if_icmp .ne 42, 3) := zo_160 (zi_at zh_dX0_certificateOn_30_32 9 rfl) (zi_at zh_dX0_certificateOn_30_32 10 rfl) (zi_at zh_dX0_certificateOn_30_32 11 rfl) rfl
theorem dX0_certificateOn_44 : decode cX0_certificateOn 44 = .ok (.aload 7, 2) := zo_25 (zi_at zh_dX0_certificateOn_30_32 12 rfl) (zi_at zh_dX0_certificateOn_30_32 13 rfl)
theorem dX0_certificateOn_46 : decode cX0_certificateOn 46 = .ok (.getfield 99, 3) := zo_180 (zi_at zh_dX0_certificateOn_30_32 14 rfl) (zi_at zh_dX0_certificateOn_30_32 15 rfl) (zi_at zh_dX0_certificateOn_46_48 0 rfl) rfl
theorem dX0_certificateOn_49 : decode cX0_certificateOn 49 = .ok (.iload_n 3, 1) := zo_29 (zi_at zh_dX0_certificateOn_46_48 1 rfl)
theorem dX0_certificateOn_50 : decode cX0_certificateOn 50 = .ok (.if_icmp .gt 33, 3) := zo_163 (zi_at zh_dX0_certificateOn_46_48 2 rfl) (zi_at zh_dX0_certificateOn_46_48 3 rfl) (zi_at zh_dX0_certificateOn_46_48 4 rfl) rfl
theorem dX0_certificateOn_53 : decode cX0_certificateOn 53 = .ok (.aload 7, 2) := zo_25 (zi_at zh_dX0_certificateOn_46_48 5 rfl) (zi_at zh_dX0_certificateOn_46_48 6 rfl)
theorem dX0_certificateOn_55 : decode cX0_certificateOn 55 = .ok (.getfield 100, 3) := zo_180 (zi_at zh_dX0_certificateOn_46_48 7 rfl) (zi_at zh_dX0_certificateOn_46_48 8 rfl) (zi_at zh_dX0_certificateOn_46_48 9 rfl) rfl
theorem dX0_certificateOn_58 : decode cX0_certificateOn 58 = .ok (.iload_n 2, 1) := zo_28 (zi_at zh_dX0_certificateOn_46_48 10 rfl)
theorem dX0_certificateOn_59 : decode cX0_certificateOn 59 = .ok (.if_icmp .gt 24, 3) := zo_163 (zi_at zh_dX0_certificateOn_46_48 11 rfl) (zi_at zh_dX0_certificateOn_46_48 12 rfl) (zi_at zh_dX0_certificateOn_46_48 13 rfl) rfl
theorem dX0_certificateOn_62 : decode cX0_certificateOn 62 = .ok (.aload 7, 2) := zo_25 (zi_at zh_dX0_certificateOn_46_48 14 rfl) (zi_at zh_dX0_certificateOn_46_48 15 rfl)
theorem dX0_certificateOn_64 : decode cX0_certificateOn 64 = .ok (.getfield 100, 3) := zo_180 (zi_at zh_dX0_certificateOn_64_64 0 rfl) (zi_at zh_dX0_certificateOn_64_64 1 rfl) (zi_at zh_dX0_certificateOn_64_64 2 rfl) rfl
theorem dX0_certificateOn_67 : decode cX0_certificateOn 67 = .ok (.iload 5, 2) := zo_21 (zi_at zh_dX0_certificateOn_64_64 3 rfl) (zi_at zh_dX0_certificateOn_64_64 4 rfl)
theorem dX0_certificateOn_69 : decode cX0_certificateOn 69 = .ok (.if_icmp .lt 14, 3) := zo_161 (zi_at zh_dX0_certificateOn_64_64 5 rfl) (zi_at zh_dX0_certificateOn_64_64 6 rfl) (zi_at zh_dX0_certificateOn_64_64 7 rfl) rfl
theorem dX0_certificateOn_72 : decode cX0_certificateOn 72 = .ok (.iload 6, 2) := zo_21 (zi_at zh_dX0_certificateOn_64_64 8 rfl) (zi_at zh_dX0_certificateOn_64_64 9 rfl)
theorem dX0_certificateOn_74 : decode cX0_certificateOn 74 = .ok (.istore 4, 2) := zo_54 (zi_at zh_dX0_certificateOn_64_64 10 rfl) (zi_at zh_dX0_certificateOn_64_64 11 rfl)
theorem dX0_certificateOn_76 : decode cX0_certificateOn 76 = .ok (.aload 7, 2) := zo_25 (zi_at zh_dX0_certificateOn_64_64 12 rfl) (zi_at zh_dX0_certificateOn_64_64 13 rfl)
theorem dX0_certificateOn_78 : decode cX0_certificateOn 78 = .ok (.getfield 100, 3) := zo_180 (zi_at zh_dX0_certificateOn_64_64 14 rfl) (zi_at zh_dX0_certificateOn_64_64 15 rfl) (zi_at zh_dX0_certificateOn_78_80 0 rfl) rfl
theorem dX0_certificateOn_81 : decode cX0_certificateOn 81 = .ok (.istore 5, 2) := zo_54 (zi_at zh_dX0_certificateOn_78_80 1 rfl) (zi_at zh_dX0_certificateOn_78_80 2 rfl)
theorem dX0_certificateOn_83 : decode cX0_certificateOn 83 = .ok (.iinc 6 1, 3) := zo_132 (zi_at zh_dX0_certificateOn_78_80 3 rfl) (zi_at zh_dX0_certificateOn_78_80 4 rfl) (zi_at zh_dX0_certificateOn_78_80 5 rfl) rfl
theorem dX0_certificateOn_86 : decode cX0_certificateOn 86 = .ok (.goto (-77), 3) := zo_167 (zi_at zh_dX0_certificateOn_78_80 6 rfl) (zi_at zh_dX0_certificateOn_78_80 7 rfl) (zi_at zh_dX0_certificateOn_78_80 8 rfl) rfl
theorem dX0_certificateOn_89 : decode cX0_certificateOn 89 = .ok (.iload 4, 2) := zo_21 (zi_at zh_dX0_certificateOn_78_80 9 rfl) (zi_at zh_dX0_certificateOn_78_80 10 rfl)
theorem dX0_certificateOn_91 : decode cX0_certificateOn 91 = .ok (.ireturn, 1) := zo_172 (zi_at zh_dX0_certificateOn_78_80 11 rfl)
theorem dX12_measured_0 : decode cX12_measured 0 = .ok (.aload_n 0, 1) := zo_42 (zi_at zh_dX12_measured_0_0 0 rfl)
theorem dX12_measured_1 : decode cX12_measured 1 = .ok (.getfield 10, 3) := zo_180 (zi_at zh_dX12_measured_0_0 1 rfl) (zi_at zh_dX12_measured_0_0 2 rfl) (zi_at zh_dX12_measured_0_0 3 rfl) rfl
theorem dX12_measured_4 : decode cX12_measured 4 = .ok (.iload_n 1, 1) := zo_27 (zi_at zh_dX12_measured_0_0 4 rfl)
theorem dX12_measured_5 : decode cX12_measured 5 = .ok (.invokevirtual 66, 3) := zo_182 (zi_at zh_dX12_measured_0_0 5 rfl) (zi_at zh_dX12_measured_0_0 6 rfl) (zi_at zh_dX12_measured_0_0 7 rfl) rfl
theorem dX12_measured_8 : decode cX12_measured 8 = .ok (.ifCond .eq 21, 3) := zo_153 (zi_at zh_dX12_measured_0_0 8 rfl) (zi_at zh_dX12_measured_0_0 9 rfl) (zi_at zh_dX12_measured_0_0 10 rfl) rfl
theorem dX12_measured_11 : decode cX12_measured 11 = .ok (.iload_n 2, 1) := zo_28 (zi_at zh_dX12_measured_0_0 11 rfl)
theorem dX12_measured_12 : decode cX12_measured 12 = .ok (.invokestatic 70, 3) := zo_184 (zi_at zh_dX12_measured_0_0 12 rfl) (zi_at zh_dX12_measured_0_0 13 rfl) (zi_at zh_dX12_measured_0_0 14 rfl) rfl
theorem dX12_measured_15 : decode cX12_measured 15 = .ok (.ifCond .eq 14, 3) := zo_153 (zi_at zh_dX12_measured_0_0 15 rfl) (zi_at zh_dX12_measured_15_16 0 rfl) (zi_at zh_dX12_measured_15_16 1 rfl) rfl
theorem dX12_measured_18 : decode cX12_measured 18 = .ok (.aload_n 0, 1) := zo_42 (zi_at zh_dX12_measured_15_16 2 rfl)
theorem dX12_measured_19 : decode cX12_measured 19 = .ok (.getfield 10, 3) := zo_180 (zi_at zh_dX12_measured_15_16 3 rfl) (zi_at zh_dX12_measured_15_16 4 rfl) (zi_at zh_dX12_measured_15_16 5 rfl) rfl
theorem dX12_measured_22 : decode cX12_measured 22 = .ok (.iload_n 3, 1) := zo_29 (zi_at zh_dX12_measured_15_16 6 rfl)
theorem dX12_measured_23 : decode cX12_measured 23 = .ok (.invokevirtual 92, 3) := zo_182 (zi_at zh_dX12_measured_15_16 7 rfl) (zi_at zh_dX12_measured_15_16 8 rfl) (zi_at zh_dX12_measured_15_16 9 rfl) rfl
theorem dX12_measured_26 : decode cX12_measured 26 = .ok (.ifCond .ne 5, 3) := zo_154 (zi_at zh_dX12_measured_15_16 10 rfl) (zi_at zh_dX12_measured_15_16 11 rfl) (zi_at zh_dX12_measured_15_16 12 rfl) rfl
theorem dX12_measured_29 : decode cX12_measured 29 = .ok (.iconst (-1), 1) := zo_2 (zi_at zh_dX12_measured_15_16 13 rfl)
theorem dX12_measured_30 : decode cX12_measured 30 = .ok (.ireturn, 1) := zo_172 (zi_at zh_dX12_measured_15_16 14 rfl)
theorem dX12_measured_31 : decode cX12_measured 31 = .ok (.aload_n 0, 1) := zo_42 (zi_at zh_dX12_measured_15_16 15 rfl)
theorem dX12_measured_32 : decode cX12_measured 32 = .ok (.getfield 10, 3) := zo_180 (zi_at zh_dX12_measured_32_32 0 rfl) (zi_at zh_dX12_measured_32_32 1 rfl) (zi_at zh_dX12_measured_32_32 2 rfl) rfl
theorem dX12_measured_35 : decode cX12_measured 35 = .ok (.iload_n 1, 1) := zo_27 (zi_at zh_dX12_measured_32_32 3 rfl)
theorem dX12_measured_36 : decode cX12_measured 36 = .ok (.iload_n 2, 1) := zo_28 (zi_at zh_dX12_measured_32_32 4 rfl)
theorem dX12_measured_37 : decode cX12_measured 37 = .ok (.iload_n 3, 1) := zo_29 (zi_at zh_dX12_measured_32_32 5 rfl)
theorem dX12_measured_38 : decode cX12_measured 38 = .ok (.invokevirtual 95, 3) := zo_182 (zi_at zh_dX12_measured_32_32 6 rfl) (zi_at zh_dX12_measured_32_32 7 rfl) (zi_at zh_dX12_measured_32_32 8 rfl) rfl
theorem dX12_measured_41 : decode cX12_measured 41 = .ok (.ireturn, 1) := zo_172 (zi_at zh_dX12_measured_32_32 9 rfl)
theorem dX13_measured_0 : decode cX13_measured 0 = .ok (.aload_n 0, 1) := zo_42 (zi_at zh_dX13_measured_0_0 0 rfl)
theorem dX13_measured_1 : decode cX13_measured 1 = .ok (.iconst 0, 1) := zo_3 (zi_at zh_dX13_measured_0_0 1 rfl)
theorem dX13_measured_2 : decode cX13_measured 2 = .ok (.putfield 228, 3) := zo_181 (zi_at zh_dX13_measured_0_0 2 rfl) (zi_at zh_dX13_measured_0_0 3 rfl) (zi_at zh_dX13_measured_0_0 4 rfl) rfl
theorem dX13_measured_5 : decode cX13_measured 5 = .ok (.aload_n 0, 1) := zo_42 (zi_at zh_dX13_measured_0_0 5 rfl)
theorem dX13_measured_6 : decode cX13_measured 6 = .ok (.iload_n 1, 1) := zo_27 (zi_at zh_dX13_measured_0_0 6 rfl)
theorem dX13_measured_7 : decode cX13_measured 7 = .ok (.invokevirtual 245, 3) := zo_182 (zi_at zh_dX13_measured_0_0 7 rfl) (zi_at zh_dX13_measured_0_0 8 rfl) (zi_at zh_dX13_measured_0_0 9 rfl) rfl
theorem dX13_measured_10 : decode cX13_measured 10 = .ok (.ifCond .eq 28, 3) := zo_153 (zi_at zh_dX13_measured_0_0 10 rfl) (zi_at zh_dX13_measured_0_0 11 rfl) (zi_at zh_dX13_measured_0_0 12 rfl) rfl
theorem dX13_measured_13 : decode cX13_measured 13 = .ok (.iload_n 2, 1) := zo_28 (zi_at zh_dX13_measured_0_0 13 rfl)
theorem dX13_measured_14 : decode cX13_measured 14 = .ok (.invokestatic 249, 3) := zo_184 (zi_at zh_dX13_measured_0_0 14 rfl) (zi_at zh_dX13_measured_0_0 15 rfl) (zi_at zh_dX13_measured_14_16 0 rfl) rfl
theorem dX13_measured_17 : decode cX13_measured 17 = .ok (.ifCond .eq 21, 3) := zo_153 (zi_at zh_dX13_measured_14_16 1 rfl) (zi_at zh_dX13_measured_14_16 2 rfl) (zi_at zh_dX13_measured_14_16 3 rfl) rfl
theorem dX13_measured_20 : decode cX13_measured 20 = .ok (.aload_n 0, 1) := zo_42 (zi_at zh_dX13_measured_14_16 4 rfl)
theorem dX13_measured_21 : decode cX13_measured 21 = .ok (.iload_n 3, 1) := zo_29 (zi_at zh_dX13_measured_14_16 5 rfl)
theorem dX13_measured_22 : decode cX13_measured 22 = .ok (.invokevirtual 252, 3) := zo_182 (zi_at zh_dX13_measured_14_16 6 rfl) (zi_at zh_dX13_measured_14_16 7 rfl) (zi_at zh_dX13_measured_14_16 8 rfl) rfl
theorem dX13_measured_25 : decode cX13_measured 25 = .ok (.ifCond .eq 13, 3) := zo_153 (zi_at zh_dX13_measured_14_16 9 rfl) (zi_at zh_dX13_measured_14_16 10 rfl) (zi_at zh_dX13_measured_14_16 11 rfl) rfl
theorem dX13_measured_28 : decode cX13_measured 28 = .ok (.aload_n 0, 1) := zo_42 (zi_at zh_dX13_measured_14_16 12 rfl)
theorem dX13_measured_29 : decode cX13_measured 29 = .ok (.iload_n 1, 1) := zo_27 (zi_at zh_dX13_measured_14_16 13 rfl)
theorem dX13_measured_30 : decode cX13_measured 30 = .ok (.iload_n 2, 1) := zo_28 (zi_at zh_dX13_measured_14_16 14 rfl)
theorem dX13_measured_31 : decode cX13_measured 31 = .ok (.iload_n 3, 1) := zo_29 (zi_at zh_dX13_measured_14_16 15 rfl)
theorem dX13_measured_32 : decode cX13_measured 32 = .ok (.invokevirtual 255, 3) := zo_182 (zi_at zh_dX13_measured_32_32 0 rfl) (zi_at zh_dX13_measured_32_32 1 rfl) (zi_at zh_dX13_measured_32_32 2 rfl) rfl
theorem dX13_measured_35 : decode cX13_measured 35 = .ok (.goto 4, 3) := zo_167 (zi_at zh_dX13_measured_32_32 3 rfl) (zi_at zh_dX13_measured_32_32 4 rfl) (zi_at zh_dX13_measured_32_32 5 rfl) rfl
theorem dX13_measured_38 : decode cX13_measured 38 = .ok (.iconst (-1), 1) := zo_2 (zi_at zh_dX13_measured_32_32 6 rfl)
theorem dX13_measured_39 : decode cX13_measured 39 = .ok (.ireturn, 1) := zo_172 (zi_at zh_dX13_measured_32_32 7 rfl)
theorem hz_yX0_certificateOn_3 : yX0_certificateOn.cls ≠ "java/lang/invoke/MethodHandle" ∧ yX0_certificateOn.cls ≠ "java/lang/invoke/VarHandle" ∧ (parseMethodDescriptor yX0_certificateOn.desc).map (fun d => d.parameters.length) = some 3 := by decide +kernel
theorem hz_yX13_certOn_3 : yX13_certOn.cls ≠ "java/lang/invoke/MethodHandle" ∧ yX13_certOn.cls ≠ "java/lang/invoke/VarHandle" ∧ (parseMethodDescriptor yX13_certOn.desc).map (fun d => d.parameters.length) = some 3 := by decide +kernel


def v_certificateOnX : List Cond := .code yX0_certificateOn cX0_certificateOn 8 (some .int) :: vA
abbrev rm_certificateOnX : Room := { frames := 3, cells := 0, slots := 0, locals := 120 }
set_option maxHeartbeats 4000000 in
set_option maxRecDepth 100000 in
theorem q_certificateOnX (l : Launch) (dC : Nat → ClassId) (dI : Nat → Nat → Nat) (cT : Nat → ClassId) (cf : Nat → Nat) (hC : CF cf) (ad : Nat → Nat) (E : Nat → va_E) (sz : Nat) (a0 : Int32) (a1 : Int32) (a2 : Int32) (hI0 : IXL cT (shC cf) (spC cf) (LC cf) ad E)  : Met l yX0_certificateOn v_certificateOnX rm_certificateOnX (va_Pc [.ref (ad 1), .int a0, .int a1, .int a2] (HWL dC dI (TYC cT) cf ad E sz)) (va_Qi (S := Unit) (fun r _ => (-1 ≤ r.toInt ∧ r.toInt ≤ 79) ∧ ((r.toInt = -1 ∨ r.toInt < ((cf 0 : Nat) : Int))) ∧ (r.toInt = (cO (fun k9 => xi (E (64 * (k9 + 1) + 0)) 0) (fun k9 => xi (E (64 * (k9 + 1) + 0)) 1) (fun k9 => xi (E (64 * (k9 + 1) + 0)) 2) a0 a1 a2 (cf 0)).toInt)) (fun _ _ => True) (fun _ => False)) 0 0 (fun _ => False) := by
  obtain ⟨⟨hc0, hc1, hc2, hc3, hc4, hc5⟩, hcr⟩ := id hC
  refine Met.ofW (cc := cX0_certificateOn) (maxL := 8) (ret := (some .int)) (by decide) rfl ?_
  intro p e s m args below meth c s₁ B hml hv
  obtain ⟨hargs, hsz, hP, hK, hD0, hEV⟩ := hv
  subst hsz
  have hx := B.exec
  have hb := B.bytes
  have hr := B.returns
  have hts := atoms_spec (ws := v_certificateOnX) B.pre
  have hown : s.vm.findClass RX0 = some m.cls := findClass_of_methodNamed B.named
  have hlocks := B.notSynchronized
  have hinX0 : ∀ w ∈ u_ws RX0 TX0 11, w ∈ v_certificateOnX := fun w h => vA_in _ w (in_X0 w h)
  have hinX1 : ∀ w ∈ u_ws RX1 TX1 6, w ∈ v_certificateOnX := fun w h => vA_in _ w (in_X1 w h)
  have hS : va_S (fun _ : Nat => False) s.heap s.heap [] := va_S.rf
  have hD := hD0
  have hI := hI0
  have hKp : Kp (wl [] []) E E := Kp.rf
  have hl := lv_entry ([.ref (ad 1), .int a0, .int a1, .int a2]) (n := 8) (Nat.le_of_ble_eq_true rfl)
  obtain ⟨Q, hQ⟩ : ∃ Q, Q = MQ below (va_Qi (S := Unit) (fun r _ => (-1 ≤ r.toInt ∧ r.toInt ≤ 79) ∧ ((r.toInt = -1 ∨ r.toInt < ((cf 0 : Nat) : Int))) ∧ (r.toInt = (cO (fun k9 => xi (E (64 * (k9 + 1) + 0)) 0) (fun k9 => xi (E (64 * (k9 + 1) + 0)) 1) (fun k9 => xi (E (64 * (k9 + 1) + 0)) 2) a0 a1 a2 (cf 0)).toInt)) (fun _ _ => True) (fun _ => False)) args s 0 0 (fun _ => False) := ⟨_, rfl⟩
  rw [← hQ, show entryFrame m args 8 = _ from (congrArg (fun z => entryFrame m z 8) hargs).trans (lg_entry_eq _ _ _)]
  generalize (lg_sl ([.ref (ad 1), .int a0, .int a1, .int a2]) ++ List.replicate (8 - (lg_sl ([.ref (ad 1), .int a0, .int a1, .int a2])).length) Slot.unset).toArray = ls at hl ⊢
  have hl : lv_has ls 8 [(0, .ref (ad 1)), (1, .int a0), (2, .int a1), (3, .int a2)] := hl
  refine lv_iconst (v := -1) hx hb dX0_certificateOn_0 (by decide) ?_
  refine lv_istore (lv' := [(4, .int (-1)), (0, .ref (ad 1)), (1, .int a0), (2, .int a1), (3, .int a2)]) hx hb dX0_certificateOn_1 hl (by decide) rfl (fun ls hl => ?_)
  refine lv_iconst (v := 0) hx hb dX0_certificateOn_3 (by decide) ?_
  refine lv_istore (lv' := [(5, .int 0), (4, .int (-1)), (0, .ref (ad 1)), (1, .int a0), (2, .int a1), (3, .int a2)]) hx hb dX0_certificateOn_4 hl (by decide) rfl (fun ls hl => ?_)
  refine lv_iconst (v := 0) hx hb dX0_certificateOn_6 (by decide) ?_
  refine lv_istore (lv' := [(6, .int 0), (5, .int 0), (4, .int (-1)), (0, .ref (ad 1)), (1, .int a0), (2, .int a1), (3, .int a2)]) hx hb dX0_certificateOn_7 hl (by decide) rfl (fun ls hl => ?_)
  have hL9 : ∀ d : Nat, ∀ (v9_6 : Int32) (v9_5 : Int32) (v9_4 : Int32) (H : Heap) (locs : List Loc) (ls : Array Slot), 0 ≤ v9_6.toInt ∧ v9_6.toInt ≤ 80 → 0 ≤ v9_5.toInt ∧ v9_5.toInt ≤ 400 → -1 ≤ v9_4.toInt ∧ v9_4.toInt ≤ 79 → v9_4 = cO (fun k9 => xi (E (64 * (k9 + 1) + 0)) 0) (fun k9 => xi (E (64 * (k9 + 1) + 0)) 1) (fun k9 => xi (E (64 * (k9 + 1) + 0)) 2) a0 a1 a2 v9_6.toNatClampNeg → ((v9_4.toInt = -1 ∧ v9_5.toInt = 0) ∨ (0 ≤ v9_4.toInt ∧ v9_4.toInt < v9_6.toInt ∧ v9_5 = (xi (E (64 * (v9_4.toNatClampNeg + 1) + 0)) 1))) → (v9_4.toInt = -1 ∨ v9_4.toInt < ((cf 0 : Nat) : Int)) → v9_6.toInt ≤ ((cf 0 : Nat) : Int) → 80 - v9_6.toInt < (d : Int) → va_P (dC, dI) vwCl (WL (LC cf) ad E) H → va_S (fun _ : Nat => False) s.heap H locs → lv_has ls 8 [(6, .int v9_6), (5, .int v9_5), (4, .int v9_4), (0, .ref (ad 1)), (1, .int a0), (2, .int a1), (3, .int a2)] → W p l e (headSpec v_certificateOnX rm_certificateOnX).room s m args below meth c H locs 0 0 Q (F0 m 9 ls []) := by
    intro d
    induction d with
    | zero =>
      intro v9_6 v9_5 v9_4 H locs ls hv9_6 hv9_5 hv9_4 hx9_0 hx9_1 hx9_2 hx9_3 hx9_4 hP hS hl
      exact absurd hx9_4 (by first | exact ms_zu hv9_6.2 | omega)
    | succ d ih9 =>
      intro v9_6 v9_5 v9_4 H locs ls hv9_6 hv9_5 hv9_4 hx9_0 hx9_1 hx9_2 hx9_3 hx9_4 hP hS hl
      refine lv_iload hx hb dX0_certificateOn_9 (lv_at hl 0 rfl) ?_
      refine lv_aload_n hx hb dX0_certificateOn_11 rfl (lv_at hl 3 rfl) ?_
      refine th_getL (ci := 1) (C := RX0) (T := TX0) (N := 11) (v := .ref (ad 7)) hx hb hts hinX0 hown hK hP hI 1 (mF 1 rfl) rfl rfl 3 (Nat.le_of_ble_eq_true rfl) (hts _ (vA_in _ _ (in_4 _ (zs16 (zs4 (zs4 (zs4 (zs1 (zs0))))))))) (fun _ h9 => h9) (hI.fr 1 (mF 1 rfl) rfl (Nat.le_of_ble_eq_true rfl) 7 rfl) dX0_certificateOn_12 ?_
      refine th_riL (va_runV (As := []) (rest := [.int v9_6]) ⟨hx, hb, hml, hown, hts⟩ (q_size0 l dC dI cT cf hC ad E H.size hI) (cwV 0 hts (gi_V (in_4 _ (zs16 (zs16 (zs1 (zs1 (zs0)))))) (in_4 _ (zs16 (zs16 (zs1 (zs1 (zs1 (zs0))))))) (in_4 _ (zs16 (zs16 (zs4 (zs0))))) (in_3 _ (zs16 (zs1 (zs1 (zs0))))) (in_4 _ (zs16 (zs1 (zs1 (zs1 (zs0))))))) rfl rfl rfl ⟨rfl, hz_yJx4a65c_size_8abf5_0⟩ ⟨Nat.le_of_ble_eq_true rfl, Nat.le_of_ble_eq_true rfl⟩) ⟨HWL_bl, va_recv hK hP (ci := 0) (q0 := posL 7 (LC cf)) rfl (hI.ob 7 (mF 7 rfl) rfl), (HWL_wiR hP hK (WL_D hD) hS hEV)⟩ rfl rfl hl.1 rfl (lv_room (Nat.le_of_ble_eq_true rfl)) dX0_certificateOn_15 ⟨Nat.le_of_ble_eq_true rfl, Nat.le_of_ble_eq_true rfl⟩) hS hP (fun r1 H locs hw hP hS => ?_)
      obtain ⟨f2, f3⟩ := hw
      refine lv_icmp_ge (tgt := 89) hx hb dX0_certificateOn_18 (by decide) (fun c4 => ?_) (fun c4 => ?_)
      · --18 taken
        have t5 : r1.toInt ≤ v9_6.toInt := ti_le c4
        refine lv_iload hx hb dX0_certificateOn_89 (lv_at hl 2 rfl) ?_
        rw [hQ]
        exact W.iret (v := v9_4) hx hb hr (fun t ht hW => ⟨⟨v9_4, (), rfl, ⟨hv9_4, by all_goals omega, by have h9 := congrArg Int32.toInt hx9_0; rw [show v9_6.toNatClampNeg = cf 0 by rw [tn_]; omega] at h9; exact h9⟩, trivial⟩, hS.F ht⟩) hS.2.2 dX0_certificateOn_91
      · --18 not
        have t6 : v9_6.toInt < r1.toInt := ti_nle c4
        have i7 : 0 ≤ v9_6.toInt ∧ v9_6.toInt ≤ 79 := iv_lt_l t6 hv9_6 f2 (by decide)
        have i8 : 1 ≤ r1.toInt ∧ r1.toInt ≤ 80 := iv_lt_r t6 hv9_6 f2 (by decide)
        refine lv_aload_n hx hb dX0_certificateOn_21 rfl (lv_at hl 3 rfl) ?_
        refine th_getL (ci := 1) (C := RX0) (T := TX0) (N := 11) (v := .ref (ad 7)) hx hb hts hinX0 hown hK hP hI 1 (mF 1 rfl) rfl rfl 3 (Nat.le_of_ble_eq_true rfl) (hts _ (vA_in _ _ (in_4 _ (zs16 (zs4 (zs4 (zs4 (zs1 (zs0))))))))) (fun _ h9 => h9) (hI.fr 1 (mF 1 rfl) rfl (Nat.le_of_ble_eq_true rfl) 7 rfl) dX0_certificateOn_22 ?_
        refine lv_iload hx hb dX0_certificateOn_25 (lv_at hl 0 rfl) ?_
        refine th_rrL (va_runV (As := [.int v9_6]) (rest := []) ⟨hx, hb, hml, hown, hts⟩ (q_get0 l dC dI cT cf hC ad E H.size v9_6 hI (by omega)) (cwV 1 hts (gi_V (in_4 _ (zs16 (zs16 (zs4 (zs1 (zs0)))))) (in_4 _ (zs16 (zs16 (zs4 (zs1 (zs1 (zs0))))))) (in_4 _ (zs16 (zs16 (zs4 (zs1 (zs1 (zs1 (zs0)))))))) (in_3 _ (zs16 (zs1 (zs1 (zs0))))) (in_3 _ (zs16 (zs16 (zs4 (zs1 (zs1 (zs1 (zs0))))))))) rfl rfl rfl ⟨rfl, hz_yJx4a65c_get_915e3_1⟩ ⟨Nat.le_of_ble_eq_true rfl, Nat.le_of_ble_eq_true rfl⟩) ⟨HWL_bl, va_recv hK hP (ci := 0) (q0 := posL 7 (LC cf)) rfl (hI.ob 7 (mF 7 rfl) rfl), (HWL_wiR hP hK (WL_D hD) hS hEV)⟩ rfl rfl hl.1 rfl (lv_room (Nat.le_of_ble_eq_true rfl)) dX0_certificateOn_27 ⟨Nat.le_of_ble_eq_true rfl, Nat.le_of_ble_eq_true rfl⟩) hS hP (fun r9 H locs hw hP hS => ?_)
        obtain rfl := hw
        have lv10 : v9_6.toNatClampNeg < cf 0 := by rw [tn_]; omega
        refine va_castS (cC := dC 2) hx hb hown (hts _ (vA_in _ _ (in_4 _ (zs16 (zs4 (zs4 (zs4 (zs1 (zs1 (zs0)))))))))) (hK.1 2 _ rfl).2 (va_recv hK hP (ci := 2) (q0 := posL (64 * (v9_6.toNatClampNeg + 1) + 0) (LC cf)) rfl (hI.ob (64 * (v9_6.toNatClampNeg + 1) + 0) (mP 0 v9_6.toNatClampNeg (by decide) lv10 (kl_le hC 0 (by decide))) (shC_p 0 v9_6.toNatClampNeg (by decide)))) dX0_certificateOn_30 ?_
        refine lv_astore (lv' := [(7, .ref (ad (64 * (v9_6.toNatClampNeg + 1) + 0))), (6, .int v9_6), (5, .int v9_5), (4, .int v9_4), (0, .ref (ad 1)), (1, .int a0), (2, .int a1), (3, .int a2)]) hx hb dX0_certificateOn_33 hl (by decide) rfl (fun ls hl => ?_)
        refine lv_aload hx hb dX0_certificateOn_35 (lv_at hl 0 rfl) ?_
        have i11 : 0 ≤ (xi (E (64 * (v9_6.toNatClampNeg + 1) + 0)) 0).toInt ∧ (xi (E (64 * (v9_6.toNatClampNeg + 1) + 0)) 0).toInt ≤ 15 := hI0.iv (64 * (v9_6.toNatClampNeg + 1) + 0) (mP 0 v9_6.toNatClampNeg (by decide) lv10 (kl_le hC 0 (by decide))) (shC_p 0 v9_6.toNatClampNeg (by decide)) (Nat.le_of_ble_eq_true rfl) (spC_p 0 v9_6.toNatClampNeg (by decide) 0)
        refine th_getL (ci := 2) (C := RX1) (T := TX1) (N := 6) (v := .int (xi (E (64 * (v9_6.toNatClampNeg + 1) + 0)) 0)) hx hb hts hinX1 hown hK hP hI (64 * (v9_6.toNatClampNeg + 1) + 0) (mP 0 v9_6.toNatClampNeg (by decide) lv10 (kl_le hC 0 (by decide))) (shC_p 0 v9_6.toNatClampNeg (by decide)) rfl 0 (Nat.le_of_ble_eq_true rfl) (hts _ (vA_in _ _ (in_4 _ (zs16 (zs4 (zs4 (zs4 (zs1 (zs1 (zs1 (zs0))))))))))) (fun _ h9 => h9) (th_v0L hKp hI0 (64 * (v9_6.toNatClampNeg + 1) + 0) (mP 0 v9_6.toNatClampNeg (by decide) lv10 (kl_le hC 0 (by decide))) (shC_p 0 v9_6.toNatClampNeg (by decide)) (Nat.le_of_ble_eq_true rfl) (spC_p 0 v9_6.toNatClampNeg (by decide) 0) (wl_p rfl rfl (by omega))) dX0_certificateOn_37 ?_
        refine lv_iload_n hx hb dX0_certificateOn_40 rfl (lv_at hl 5 rfl) ?_
        refine lv_icmp_ne (tgt := 83) hx hb dX0_certificateOn_41 (by decide) (fun c12 => ?_) (fun c12 => ?_)
        · --41 taken
          have t13 : ¬ (xi (E (64 * (v9_6.toNatClampNeg + 1) + 0)) 0).toInt = a0.toInt := ti_ne c12
          obtain ⟨y14, ey14⟩ : ∃ y : Int32, y = v9_6 + (1 : Int32) := ⟨_, rfl⟩
          obtain ⟨ty14, iy14⟩ := ti_add (e := 1) (f := 80) i7 ln_1 ey14 (by decide)
          have ty14 : y14.toInt = v9_6.toInt + 1 := ty14
          have iy14 : 1 ≤ y14.toInt ∧ y14.toInt ≤ 80 := iy14
          refine lv_iinc (v := y14) (lv' := [(6, .int y14), (7, .ref (ad (64 * (v9_6.toNatClampNeg + 1) + 0))), (5, .int v9_5), (4, .int v9_4), (0, .ref (ad 1)), (1, .int a0), (2, .int a1), (3, .int a2)]) hx hb dX0_certificateOn_83 hl (k := 1) rfl (by rw [ey14]; rfl) (by decide) rfl (fun ls hl => ?_)
          refine lv_goto (tgt := 9) hx hb dX0_certificateOn_86 (by decide) ?_
          exact ih9 y14 v9_5 v9_4 _ _ _ (iv_w iy14 (by decide)) hv9_5 hv9_4 (cO_skip (gB := (fun k9 => xi (E (64 * (k9 + 1) + 0)) 0)) (gF := (fun k9 => xi (E (64 * (k9 + 1) + 0)) 1)) (gT := (fun k9 => xi (E (64 * (k9 + 1) + 0)) 2)) hx9_0 ty14 hv9_6 (by decide) (fun hh => by have z1 := ln_m1; have p5 : (v9_4.toInt = -1 ∧ v9_5.toInt = 0) ∨ (0 ≤ v9_4.toInt ∧ v9_5.toInt = (xi (E (64 * (v9_4.toNatClampNeg + 1) + 0)) 1).toInt) := hx9_1.imp id (fun h => ⟨h.1, congrArg Int32.toInt h.2.2⟩); have p1 : (xi (E (64 * (v9_6.toNatClampNeg + 1) + 0)) 0).toInt = a0.toInt := congrArg Int32.toInt hh.1; have p2 : (xi (E (64 * (v9_6.toNatClampNeg + 1) + 0)) 2).toInt ≤ a2.toInt := ti_le hh.2.1; have p3 : (xi (E (64 * (v9_6.toNatClampNeg + 1) + 0)) 1).toInt ≤ a1.toInt := ti_le hh.2.2.1; have p4 : v9_4.toInt = (-1 : Int32).toInt ∨ (xi (E (64 * (v9_4.toNatClampNeg + 1) + 0)) 1).toInt ≤ (xi (E (64 * (v9_6.toNatClampNeg + 1) + 0)) 1).toInt := hh.2.2.2.imp (congrArg Int32.toInt) ti_le; omega)) (hx9_1.imp id (fun h => ⟨h.1, by omega, h.2.2⟩)) (by have h9 := hv9_4; omega) (by have h9 := iy14; omega) (by first | exact ms_su hx9_4 ty14 (by decide) | omega) hP hS (lv_sub hl [0, 2, 3, 4, 5, 6, 7] rfl)
        · --41 not
          have t15 : (xi (E (64 * (v9_6.toNatClampNeg + 1) + 0)) 0).toInt = a0.toInt := ti_eq c12
          have i16 : 0 ≤ a0.toInt ∧ a0.toInt ≤ 15 := iv_eqi t15.symm (iv_all _) i11 (by decide)
          refine lv_aload hx hb dX0_certificateOn_44 (lv_at hl 0 rfl) ?_
          have i17 : 0 ≤ (xi (E (64 * (v9_6.toNatClampNeg + 1) + 0)) 2).toInt ∧ (xi (E (64 * (v9_6.toNatClampNeg + 1) + 0)) 2).toInt ≤ 400 := hI0.iv (64 * (v9_6.toNatClampNeg + 1) + 0) (mP 0 v9_6.toNatClampNeg (by decide) lv10 (kl_le hC 0 (by decide))) (shC_p 0 v9_6.toNatClampNeg (by decide)) (Nat.le_of_ble_eq_true rfl) (spC_p 0 v9_6.toNatClampNeg (by decide) 2)
          refine th_getL (ci := 2) (C := RX1) (T := TX1) (N := 6) (v := .int (xi (E (64 * (v9_6.toNatClampNeg + 1) + 0)) 2)) hx hb hts hinX1 hown hK hP hI (64 * (v9_6.toNatClampNeg + 1) + 0) (mP 0 v9_6.toNatClampNeg (by decide) lv10 (kl_le hC 0 (by decide))) (shC_p 0 v9_6.toNatClampNeg (by decide)) rfl 2 (Nat.le_of_ble_eq_true rfl) (hts _ (vA_in _ _ (in_4 _ (zs16 (zs16 (zs0)))))) (fun _ h9 => h9) (th_v0L hKp hI0 (64 * (v9_6.toNatClampNeg + 1) + 0) (mP 0 v9_6.toNatClampNeg (by decide) lv10 (kl_le hC 0 (by decide))) (shC_p 0 v9_6.toNatClampNeg (by decide)) (Nat.le_of_ble_eq_true rfl) (spC_p 0 v9_6.toNatClampNeg (by decide) 2) (wl_p rfl rfl (by omega))) dX0_certificateOn_46 ?_
          refine lv_iload_n hx hb dX0_certificateOn_49 rfl (lv_at hl 7 rfl) ?_
          refine lv_icmp_gt (tgt := 83) hx hb dX0_certificateOn_50 (by decide) (fun c18 => ?_) (fun c18 => ?_)
          · --50 taken
            have t19 : a2.toInt < (xi (E (64 * (v9_6.toNatClampNeg + 1) + 0)) 2).toInt := ti_lt c18
            have i20 : -2147483648 ≤ a2.toInt ∧ a2.toInt ≤ 399 := iv_lt_l t19 (iv_all _) i17 (by decide)
            obtain ⟨y21, ey21⟩ : ∃ y : Int32, y = v9_6 + (1 : Int32) := ⟨_, rfl⟩
            obtain ⟨ty21, iy21⟩ := ti_add (e := 1) (f := 80) i7 ln_1 ey21 (by decide)
            have ty21 : y21.toInt = v9_6.toInt + 1 := ty21
            have iy21 : 1 ≤ y21.toInt ∧ y21.toInt ≤ 80 := iy21
            refine lv_iinc (v := y21) (lv' := [(6, .int y21), (7, .ref (ad (64 * (v9_6.toNatClampNeg + 1) + 0))), (5, .int v9_5), (4, .int v9_4), (0, .ref (ad 1)), (1, .int a0), (2, .int a1), (3, .int a2)]) hx hb dX0_certificateOn_83 hl (k := 1) rfl (by rw [ey21]; rfl) (by decide) rfl (fun ls hl => ?_)
            refine lv_goto (tgt := 9) hx hb dX0_certificateOn_86 (by decide) ?_
            exact ih9 y21 v9_5 v9_4 _ _ _ (iv_w iy21 (by decide)) hv9_5 hv9_4 (cO_skip (gB := (fun k9 => xi (E (64 * (k9 + 1) + 0)) 0)) (gF := (fun k9 => xi (E (64 * (k9 + 1) + 0)) 1)) (gT := (fun k9 => xi (E (64 * (k9 + 1) + 0)) 2)) hx9_0 ty21 hv9_6 (by decide) (fun hh => by have z1 := ln_m1; have p5 : (v9_4.toInt = -1 ∧ v9_5.toInt = 0) ∨ (0 ≤ v9_4.toInt ∧ v9_5.toInt = (xi (E (64 * (v9_4.toNatClampNeg + 1) + 0)) 1).toInt) := hx9_1.imp id (fun h => ⟨h.1, congrArg Int32.toInt h.2.2⟩); have p1 : (xi (E (64 * (v9_6.toNatClampNeg + 1) + 0)) 0).toInt = a0.toInt := congrArg Int32.toInt hh.1; have p2 : (xi (E (64 * (v9_6.toNatClampNeg + 1) + 0)) 2).toInt ≤ a2.toInt := ti_le hh.2.1; have p3 : (xi (E (64 * (v9_6.toNatClampNeg + 1) + 0)) 1).toInt ≤ a1.toInt := ti_le hh.2.2.1; have p4 : v9_4.toInt = (-1 : Int32).toInt ∨ (xi (E (64 * (v9_4.toNatClampNeg + 1) + 0)) 1).toInt ≤ (xi (E (64 * (v9_6.toNatClampNeg + 1) + 0)) 1).toInt := hh.2.2.2.imp (congrArg Int32.toInt) ti_le; omega)) (hx9_1.imp id (fun h => ⟨h.1, by omega, h.2.2⟩)) (by have h9 := hv9_4; omega) (by have h9 := iy21; omega) (by first | exact ms_su hx9_4 ty21 (by decide) | omega) hP hS (lv_sub hl [0, 2, 3, 4, 5, 6, 7] rfl)
          · --50 not
            have t22 : (xi (E (64 * (v9_6.toNatClampNeg + 1) + 0)) 2).toInt ≤ a2.toInt := ti_nlt c18
            have i23 : 0 ≤ a2.toInt ∧ a2.toInt ≤ 2147483647 := iv_le_r t22 i17 (iv_all _) (by decide)
            refine lv_aload hx hb dX0_certificateOn_53 (lv_at hl 0 rfl) ?_
            have i24 : 0 ≤ (xi (E (64 * (v9_6.toNatClampNeg + 1) + 0)) 1).toInt ∧ (xi (E (64 * (v9_6.toNatClampNeg + 1) + 0)) 1).toInt ≤ 400 := hI0.iv (64 * (v9_6.toNatClampNeg + 1) + 0) (mP 0 v9_6.toNatClampNeg (by decide) lv10 (kl_le hC 0 (by decide))) (shC_p 0 v9_6.toNatClampNeg (by decide)) (Nat.le_of_ble_eq_true rfl) (spC_p 0 v9_6.toNatClampNeg (by decide) 1)
            refine th_getL (ci := 2) (C := RX1) (T := TX1) (N := 6) (v := .int (xi (E (64 * (v9_6.toNatClampNeg + 1) + 0)) 1)) hx hb hts hinX1 hown hK hP hI (64 * (v9_6.toNatClampNeg + 1) + 0) (mP 0 v9_6.toNatClampNeg (by decide) lv10 (kl_le hC 0 (by decide))) (shC_p 0 v9_6.toNatClampNeg (by decide)) rfl 1 (Nat.le_of_ble_eq_true rfl) (hts _ (vA_in _ _ (in_4 _ (zs16 (zs16 (zs1 (zs0))))))) (fun _ h9 => h9) (th_v0L hKp hI0 (64 * (v9_6.toNatClampNeg + 1) + 0) (mP 0 v9_6.toNatClampNeg (by decide) lv10 (kl_le hC 0 (by decide))) (shC_p 0 v9_6.toNatClampNeg (by decide)) (Nat.le_of_ble_eq_true rfl) (spC_p 0 v9_6.toNatClampNeg (by decide) 1) (wl_p rfl rfl (by omega))) dX0_certificateOn_55 ?_
            refine lv_iload_n hx hb dX0_certificateOn_58 rfl (lv_at hl 6 rfl) ?_
            refine lv_icmp_gt (tgt := 83) hx hb dX0_certificateOn_59 (by decide) (fun c25 => ?_) (fun c25 => ?_)
            · --59 taken
              have t26 : a1.toInt < (xi (E (64 * (v9_6.toNatClampNeg + 1) + 0)) 1).toInt := ti_lt c25
              have i27 : -2147483648 ≤ a1.toInt ∧ a1.toInt ≤ 399 := iv_lt_l t26 (iv_all _) i24 (by decide)
              obtain ⟨y28, ey28⟩ : ∃ y : Int32, y = v9_6 + (1 : Int32) := ⟨_, rfl⟩
              obtain ⟨ty28, iy28⟩ := ti_add (e := 1) (f := 80) i7 ln_1 ey28 (by decide)
              have ty28 : y28.toInt = v9_6.toInt + 1 := ty28
              have iy28 : 1 ≤ y28.toInt ∧ y28.toInt ≤ 80 := iy28
              refine lv_iinc (v := y28) (lv' := [(6, .int y28), (7, .ref (ad (64 * (v9_6.toNatClampNeg + 1) + 0))), (5, .int v9_5), (4, .int v9_4), (0, .ref (ad 1)), (1, .int a0), (2, .int a1), (3, .int a2)]) hx hb dX0_certificateOn_83 hl (k := 1) rfl (by rw [ey28]; rfl) (by decide) rfl (fun ls hl => ?_)
              refine lv_goto (tgt := 9) hx hb dX0_certificateOn_86 (by decide) ?_
              exact ih9 y28 v9_5 v9_4 _ _ _ (iv_w iy28 (by decide)) hv9_5 hv9_4 (cO_skip (gB := (fun k9 => xi (E (64 * (k9 + 1) + 0)) 0)) (gF := (fun k9 => xi (E (64 * (k9 + 1) + 0)) 1)) (gT := (fun k9 => xi (E (64 * (k9 + 1) + 0)) 2)) hx9_0 ty28 hv9_6 (by decide) (fun hh => by have z1 := ln_m1; have p5 : (v9_4.toInt = -1 ∧ v9_5.toInt = 0) ∨ (0 ≤ v9_4.toInt ∧ v9_5.toInt = (xi (E (64 * (v9_4.toNatClampNeg + 1) + 0)) 1).toInt) := hx9_1.imp id (fun h => ⟨h.1, congrArg Int32.toInt h.2.2⟩); have p1 : (xi (E (64 * (v9_6.toNatClampNeg + 1) + 0)) 0).toInt = a0.toInt := congrArg Int32.toInt hh.1; have p2 : (xi (E (64 * (v9_6.toNatClampNeg + 1) + 0)) 2).toInt ≤ a2.toInt := ti_le hh.2.1; have p3 : (xi (E (64 * (v9_6.toNatClampNeg + 1) + 0)) 1).toInt ≤ a1.toInt := ti_le hh.2.2.1; have p4 : v9_4.toInt = (-1 : Int32).toInt ∨ (xi (E (64 * (v9_4.toNatClampNeg + 1) + 0)) 1).toInt ≤ (xi (E (64 * (v9_6.toNatClampNeg + 1) + 0)) 1).toInt := hh.2.2.2.imp (congrArg Int32.toInt) ti_le; omega)) (hx9_1.imp id (fun h => ⟨h.1, by omega, h.2.2⟩)) (by have h9 := hv9_4; omega) (by have h9 := iy28; omega) (by first | exact ms_su hx9_4 ty28 (by decide) | omega) hP hS (lv_sub hl [0, 2, 3, 4, 5, 6, 7] rfl)
            · --59 not
              have t29 : (xi (E (64 * (v9_6.toNatClampNeg + 1) + 0)) 1).toInt ≤ a1.toInt := ti_nlt c25
              have i30 : 0 ≤ a1.toInt ∧ a1.toInt ≤ 2147483647 := iv_le_r t29 i24 (iv_all _) (by decide)
              refine lv_aload hx hb dX0_certificateOn_62 (lv_at hl 0 rfl) ?_
              refine th_getL (ci := 2) (C := RX1) (T := TX1) (N := 6) (v := .int (xi (E (64 * (v9_6.toNatClampNeg + 1) + 0)) 1)) hx hb hts hinX1 hown hK hP hI (64 * (v9_6.toNatClampNeg + 1) + 0) (mP 0 v9_6.toNatClampNeg (by decide) lv10 (kl_le hC 0 (by decide))) (shC_p 0 v9_6.toNatClampNeg (by decide)) rfl 1 (Nat.le_of_ble_eq_true rfl) (hts _ (vA_in _ _ (in_4 _ (zs16 (zs16 (zs1 (zs0))))))) (fun _ h9 => h9) (th_v0L hKp hI0 (64 * (v9_6.toNatClampNeg + 1) + 0) (mP 0 v9_6.toNatClampNeg (by decide) lv10 (kl_le hC 0 (by decide))) (shC_p 0 v9_6.toNatClampNeg (by decide)) (Nat.le_of_ble_eq_true rfl) (spC_p 0 v9_6.toNatClampNeg (by decide) 1) (wl_p rfl rfl (by omega))) dX0_certificateOn_64 ?_
              refine lv_iload hx hb dX0_certificateOn_67 (lv_at hl 2 rfl) ?_
              refine lv_icmp_lt (tgt := 83) hx hb dX0_certificateOn_69 (by decide) (fun c31 => ?_) (fun c31 => ?_)
              · --69 taken
                have t32 : (xi (E (64 * (v9_6.toNatClampNeg + 1) + 0)) 1).toInt < v9_5.toInt := ti_lt c31
                have i33 : 0 ≤ (xi (E (64 * (v9_6.toNatClampNeg + 1) + 0)) 1).toInt ∧ (xi (E (64 * (v9_6.toNatClampNeg + 1) + 0)) 1).toInt ≤ 399 := iv_lt_l t32 i24 hv9_5 (by decide)
                have i34 : 1 ≤ v9_5.toInt ∧ v9_5.toInt ≤ 400 := iv_lt_r t32 i24 hv9_5 (by decide)
                obtain ⟨y35, ey35⟩ : ∃ y : Int32, y = v9_6 + (1 : Int32) := ⟨_, rfl⟩
                obtain ⟨ty35, iy35⟩ := ti_add (e := 1) (f := 80) i7 ln_1 ey35 (by decide)
                have ty35 : y35.toInt = v9_6.toInt + 1 := ty35
                have iy35 : 1 ≤ y35.toInt ∧ y35.toInt ≤ 80 := iy35
                refine lv_iinc (v := y35) (lv' := [(6, .int y35), (7, .ref (ad (64 * (v9_6.toNatClampNeg + 1) + 0))), (5, .int v9_5), (4, .int v9_4), (0, .ref (ad 1)), (1, .int a0), (2, .int a1), (3, .int a2)]) hx hb dX0_certificateOn_83 hl (k := 1) rfl (by rw [ey35]; rfl) (by decide) rfl (fun ls hl => ?_)
                refine lv_goto (tgt := 9) hx hb dX0_certificateOn_86 (by decide) ?_
                exact ih9 y35 v9_5 v9_4 _ _ _ (iv_w iy35 (by decide)) (iv_w i34 (by decide)) hv9_4 (cO_skip (gB := (fun k9 => xi (E (64 * (k9 + 1) + 0)) 0)) (gF := (fun k9 => xi (E (64 * (k9 + 1) + 0)) 1)) (gT := (fun k9 => xi (E (64 * (k9 + 1) + 0)) 2)) hx9_0 ty35 hv9_6 (by decide) (fun hh => by have z1 := ln_m1; have p5 : (v9_4.toInt = -1 ∧ v9_5.toInt = 0) ∨ (0 ≤ v9_4.toInt ∧ v9_5.toInt = (xi (E (64 * (v9_4.toNatClampNeg + 1) + 0)) 1).toInt) := hx9_1.imp id (fun h => ⟨h.1, congrArg Int32.toInt h.2.2⟩); have p1 : (xi (E (64 * (v9_6.toNatClampNeg + 1) + 0)) 0).toInt = a0.toInt := congrArg Int32.toInt hh.1; have p2 : (xi (E (64 * (v9_6.toNatClampNeg + 1) + 0)) 2).toInt ≤ a2.toInt := ti_le hh.2.1; have p3 : (xi (E (64 * (v9_6.toNatClampNeg + 1) + 0)) 1).toInt ≤ a1.toInt := ti_le hh.2.2.1; have p4 : v9_4.toInt = (-1 : Int32).toInt ∨ (xi (E (64 * (v9_4.toNatClampNeg + 1) + 0)) 1).toInt ≤ (xi (E (64 * (v9_6.toNatClampNeg + 1) + 0)) 1).toInt := hh.2.2.2.imp (congrArg Int32.toInt) ti_le; omega)) (hx9_1.imp id (fun h => ⟨h.1, by omega, h.2.2⟩)) (by have h9 := hv9_4; omega) (by have h9 := iy35; omega) (by first | exact ms_su hx9_4 ty35 (by decide) | omega) hP hS (lv_sub hl [0, 2, 3, 4, 5, 6, 7] rfl)
              · --69 not
                have t36 : v9_5.toInt ≤ (xi (E (64 * (v9_6.toNatClampNeg + 1) + 0)) 1).toInt := ti_nlt c31
                refine lv_iload hx hb dX0_certificateOn_72 (lv_at hl 1 rfl) ?_
                refine lv_istore (lv' := [(4, .int v9_6), (7, .ref (ad (64 * (v9_6.toNatClampNeg + 1) + 0))), (6, .int v9_6), (5, .int v9_5), (0, .ref (ad 1)), (1, .int a0), (2, .int a1), (3, .int a2)]) hx hb dX0_certificateOn_74 hl (by decide) rfl (fun ls hl => ?_)
                refine lv_aload hx hb dX0_certificateOn_76 (lv_at hl 1 rfl) ?_
                refine th_getL (ci := 2) (C := RX1) (T := TX1) (N := 6) (v := .int (xi (E (64 * (v9_6.toNatClampNeg + 1) + 0)) 1)) hx hb hts hinX1 hown hK hP hI (64 * (v9_6.toNatClampNeg + 1) + 0) (mP 0 v9_6.toNatClampNeg (by decide) lv10 (kl_le hC 0 (by decide))) (shC_p 0 v9_6.toNatClampNeg (by decide)) rfl 1 (Nat.le_of_ble_eq_true rfl) (hts _ (vA_in _ _ (in_4 _ (zs16 (zs16 (zs1 (zs0))))))) (fun _ h9 => h9) (th_v0L hKp hI0 (64 * (v9_6.toNatClampNeg + 1) + 0) (mP 0 v9_6.toNatClampNeg (by decide) lv10 (kl_le hC 0 (by decide))) (shC_p 0 v9_6.toNatClampNeg (by decide)) (Nat.le_of_ble_eq_true rfl) (spC_p 0 v9_6.toNatClampNeg (by decide) 1) (wl_p rfl rfl (by omega))) dX0_certificateOn_78 ?_
                refine lv_istore (lv' := [(5, .int (xi (E (64 * (v9_6.toNatClampNeg + 1) + 0)) 1)), (4, .int v9_6), (7, .ref (ad (64 * (v9_6.toNatClampNeg + 1) + 0))), (6, .int v9_6), (0, .ref (ad 1)), (1, .int a0), (2, .int a1), (3, .int a2)]) hx hb dX0_certificateOn_81 hl (by decide) rfl (fun ls hl => ?_)
                obtain ⟨y37, ey37⟩ : ∃ y : Int32, y = v9_6 + (1 : Int32) := ⟨_, rfl⟩
                obtain ⟨ty37, iy37⟩ := ti_add (e := 1) (f := 80) i7 ln_1 ey37 (by decide)
                have ty37 : y37.toInt = v9_6.toInt + 1 := ty37
                have iy37 : 1 ≤ y37.toInt ∧ y37.toInt ≤ 80 := iy37
                refine lv_iinc (v := y37) (lv' := [(6, .int y37), (5, .int (xi (E (64 * (v9_6.toNatClampNeg + 1) + 0)) 1)), (4, .int v9_6), (7, .ref (ad (64 * (v9_6.toNatClampNeg + 1) + 0))), (0, .ref (ad 1)), (1, .int a0), (2, .int a1), (3, .int a2)]) hx hb dX0_certificateOn_83 hl (k := 3) rfl (by rw [ey37]; rfl) (by decide) rfl (fun ls hl => ?_)
                refine lv_goto (tgt := 9) hx hb dX0_certificateOn_86 (by decide) ?_
                exact ih9 y37 (xi (E (64 * (v9_6.toNatClampNeg + 1) + 0)) 1) v9_6 _ _ _ (iv_w iy37 (by decide)) i24 (iv_w i7 (by decide)) (cO_take (gB := (fun k9 => xi (E (64 * (k9 + 1) + 0)) 0)) (gF := (fun k9 => xi (E (64 * (k9 + 1) + 0)) 1)) (gT := (fun k9 => xi (E (64 * (k9 + 1) + 0)) 2)) hx9_0 ty37 hv9_6 (by decide) ⟨tr_eq (show (xi (E (64 * (v9_6.toNatClampNeg + 1) + 0)) 0).toInt = a0.toInt by omega), tr_le (show (xi (E (64 * (v9_6.toNatClampNeg + 1) + 0)) 2).toInt ≤ a2.toInt by omega), tr_le (show (xi (E (64 * (v9_6.toNatClampNeg + 1) + 0)) 1).toInt ≤ a1.toInt by omega), hx9_1.elim (fun h => Or.inl (tr_eq (by have z1 := ln_m1; omega))) (fun h => Or.inr (tr_le (show (xi (E (64 * (v9_4.toNatClampNeg + 1) + 0)) 1).toInt ≤ (xi (E (64 * (v9_6.toNatClampNeg + 1) + 0)) 1).toInt by have q9 := congrArg Int32.toInt h.2.2; omega)))⟩) (Or.inr ⟨by omega, by omega, rfl⟩) (by have h9 := i7; omega) (by have h9 := iy37; omega) (by first | exact ms_su hx9_4 ty37 (by decide) | omega) hP hS (lv_sub hl [0, 1, 2, 4, 5, 6, 7] rfl)
  exact hL9 (81) (0 : Int32) (0 : Int32) (-1 : Int32) _ _ _ (iv_w ln_0 (by decide)) (iv_w ln_0 (by decide)) (iv_w ln_m1 (by decide)) rfl (Or.inl ⟨rfl, rfl⟩) (by have h9 := ln_m1; omega) (by have h9 := ln_0; omega) (by have h9 := ln_0; first | exact ms_bu h9.1 (by decide) | omega) hP hS (lv_sub hl [0, 1, 2, 3, 4, 5, 6] rfl)
def v_u_measuredX : List Cond := .code yX12_measured cX12_measured 4 (some .int) :: vA
abbrev rm_u_measuredX : Room := { frames := 4, cells := 0, slots := 0, locals := 160 }
def w_u_measuredX : Nat → Nat → Bool := wl [] []
set_option maxHeartbeats 4000000 in
set_option maxRecDepth 100000 in
theorem q_u_measuredX (l : Launch) (dC : Nat → ClassId) (dI : Nat → Nat → Nat) (cT : Nat → ClassId) (cf : Nat → Nat) (hC : CF cf) (ad : Nat → Nat) (E : Nat → va_E) (sz : Nat) (a0 : Int32) (a1 : Int32) (a2 : Int32) (hI0 : IXL cT (shC cf) (spC cf) (LC cf) ad E)  : Met l yX12_measured v_u_measuredX rm_u_measuredX (va_Pc [.ref (ad 0), .int a0, .int a1, .int a2] (HWL dC dI (TYC cT) cf ad E sz)) (va_Qi (S := Nat → va_E) (fun r u => IXL cT (shC cf) (spC cf) (LC cf) ad u ∧ Kp w_u_measuredX E u ∧ ((((((0 ≤ a0.toInt ∧ a0.toInt < (xi (E 1) 1).toInt) ∧ (0 ≤ a1.toInt ∧ a1.toInt ≤ 400) ∧ (0 ≤ a2.toInt ∧ a2.toInt ≤ (xi (E 1) 0).toInt)) → (r.toInt = (cO (fun k9 => xi (E (64 * (k9 + 1) + 0)) 0) (fun k9 => xi (E (64 * (k9 + 1) + 0)) 1) (fun k9 => xi (E (64 * (k9 + 1) + 0)) 2) a0 a1 a2 (cf 0)).toInt)) ∧ (¬ ((0 ≤ a0.toInt ∧ a0.toInt < (xi (E 1) 1).toInt) ∧ (0 ≤ a1.toInt ∧ a1.toInt ≤ 400) ∧ (0 ≤ a2.toInt ∧ a2.toInt ≤ (xi (E 1) 0).toInt)) → (r.toInt = -1)))))) (HBL dC dI (LC cf) ad) (va_A (WL (LC cf) ad E) sz)) 0 0 (va_A (WL (LC cf) ad E) sz) := by
  obtain ⟨⟨hc0, hc1, hc2, hc3, hc4, hc5⟩, hcr⟩ := id hC
  refine Met.ofW (cc := cX12_measured) (maxL := 4) (ret := (some .int)) (by decide) rfl ?_
  intro p e s m args below meth c s₁ B hml hv
  obtain ⟨hargs, hsz, hP, hK, hD0, hEV⟩ := hv
  subst hsz
  have hx := B.exec
  have hb := B.bytes
  have hr := B.returns
  have hts := atoms_spec (ws := v_u_measuredX) B.pre
  have hown : s.vm.findClass RX12 = some m.cls := findClass_of_methodNamed B.named
  have hlocks := B.notSynchronized
  have hinX12 : ∀ w ∈ u_ws RX12 TX12 6, w ∈ v_u_measuredX := fun w h => vA_in _ w (in_X12 w h)
  generalize hAe : va_A (WL (LC cf) ad E) s.heap.size = A at hEV ⊢
  have hA : ∀ q : Nat, s.heap.size ≤ q → A q := fun q h => by rw [← hAe]; exact Or.inr h
  have hD : va_D A (WL (LC cf) ad E) := by rw [← hAe]; exact hD0.self
  have hS : va_S A s.heap s.heap [] := va_S.rf
  have hI := hI0
  have hKp : Kp w_u_measuredX E E := Kp.rf
  have hl := lv_entry ([.ref (ad 0), .int a0, .int a1, .int a2]) (n := 4) (Nat.le_of_ble_eq_true rfl)
  obtain ⟨Q, hQ⟩ : ∃ Q, Q = MQ below (va_Qi (S := Nat → va_E) (fun r u => IXL cT (shC cf) (spC cf) (LC cf) ad u ∧ Kp w_u_measuredX E u ∧ ((((((0 ≤ a0.toInt ∧ a0.toInt < (xi (E 1) 1).toInt) ∧ (0 ≤ a1.toInt ∧ a1.toInt ≤ 400) ∧ (0 ≤ a2.toInt ∧ a2.toInt ≤ (xi (E 1) 0).toInt)) → (r.toInt = (cO (fun k9 => xi (E (64 * (k9 + 1) + 0)) 0) (fun k9 => xi (E (64 * (k9 + 1) + 0)) 1) (fun k9 => xi (E (64 * (k9 + 1) + 0)) 2) a0 a1 a2 (cf 0)).toInt)) ∧ (¬ ((0 ≤ a0.toInt ∧ a0.toInt < (xi (E 1) 1).toInt) ∧ (0 ≤ a1.toInt ∧ a1.toInt ≤ 400) ∧ (0 ≤ a2.toInt ∧ a2.toInt ≤ (xi (E 1) 0).toInt)) → (r.toInt = -1)))))) (HBL dC dI (LC cf) ad) (A)) args s 0 0 (A) := ⟨_, rfl⟩
  rw [← hQ, show entryFrame m args 4 = _ from (congrArg (fun z => entryFrame m z 4) hargs).trans (lg_entry_eq _ _ _)]
  generalize (lg_sl ([.ref (ad 0), .int a0, .int a1, .int a2]) ++ List.replicate (4 - (lg_sl ([.ref (ad 0), .int a0, .int a1, .int a2])).length) Slot.unset).toArray = ls at hl ⊢
  have hl : lv_has ls 4 [(0, .ref (ad 0)), (1, .int a0), (2, .int a1), (3, .int a2)] := hl
  refine lv_aload_n hx hb dX12_measured_0 rfl (lv_at hl 0 rfl) ?_
  refine th_getL (ci := 13) (C := RX12) (T := TX12) (N := 6) (v := .ref (ad 1)) hx hb hts hinX12 hown hK hP hI 0 (mF 0 rfl) rfl rfl 0 (Nat.le_of_ble_eq_true rfl) (hts _ (vA_in _ _ (in_10 _ (zs16 (zs1 (zs0)))))) (fun _ h9 => h9) (hI.fr 0 (mF 0 rfl) rfl (Nat.le_of_ble_eq_true rfl) 1 rfl) dX12_measured_1 ?_
  refine lv_iload_n hx hb dX12_measured_4 rfl (lv_at hl 1 rfl) ?_
  refine th_riL (va_runV (As := [.int a0]) (rest := []) ⟨hx, hb, hml, hown, hts⟩ (q_isBoatC l dC dI cT cf hC ad E s.heap.size a0 hI) (cwV 1 hts (gi_V (in_10 _ (zs16 (zs4 (zs4 (zs1 (zs1 (zs1 (zs0)))))))) (in_6 _ (zs4 (zs4 (zs4 (zs0))))) (in_6 _ (zs4 (zs4 (zs4 (zs1 (zs0)))))) (in_5 _ (zs4 (zs1 (zs1 (zs0))))) (in_5 _ (zs16 (zs16 (zs4 (zs1 (zs1 (zs0)))))))) rfl rfl rfl ⟨rfl, hz_yX0_isBoat_1⟩ ⟨Nat.le_of_ble_eq_true rfl, Nat.le_of_ble_eq_true rfl⟩) ⟨HWL_bl, va_recv hK hP (ci := 1) (q0 := posL 1 (LC cf)) rfl (hI.ob 1 (mF 1 rfl) rfl), (HWL_wi hP hK (WL_D hD) hS hA hEV)⟩ rfl rfl hl.1 rfl (lv_room (Nat.le_of_ble_eq_true rfl)) dX12_measured_5 ⟨Nat.le_of_ble_eq_true rfl, Nat.le_of_ble_eq_true rfl⟩) hS hP (fun r1 H locs hw hP hS => ?_)
  rcases hw with hw | hw
  · -- isBoatC, case 0
    obtain ⟨rfl, f2, f3⟩ := hw
    have i4 : 0 ≤ (xi (E 1) 1).toInt ∧ (xi (E 1) 1).toInt ≤ 16 := hI0.iv 1 (mF 1 rfl) rfl (Nat.le_of_ble_eq_true rfl) rfl
    refine lv_if_eq (tgt := 29) hx hb dX12_measured_8 (by decide) (fun c5 => ?_) (fun c5 => ?_)
    · --8 taken
      exact absurd c5 (by decide)
    · --8 not
      refine lv_iload_n hx hb dX12_measured_11 rfl (lv_at hl 2 rfl) ?_
      refine th_pi (va_runS (As := [.int a1]) (rest := []) ⟨hx, hb, hml, hown, hts⟩ (q_cisDay l a1) (va_cwS 1 hts (gi_S (in_10 _ (zs16 (zs4 (zs4 (zs4 (zs0)))))) (in_10 _ (zs16 (zs4 (zs4 (zs4 (zs1 (zs0))))))) (in_4 _ (zs16 (zs4 (zs1 (zs1 (zs1 (zs0))))))) (in_10 _ (zs16 (zs4 (zs4 (zs4 (zs1 (zs1 (zs0))))))))) rfl rfl rfl hz_yX12_isDay_1 ⟨Nat.le_of_ble_eq_true rfl, Nat.le_of_ble_eq_true rfl⟩) ⟨fun _ _ _ _ q => q, fun _ _ _ => ⟨rfl, trivial⟩⟩ rfl rfl hl.1 rfl (lv_room (Nat.le_of_ble_eq_true rfl)) dX12_measured_12 ⟨Nat.le_of_ble_eq_true rfl, Nat.le_of_ble_eq_true rfl⟩) hS (fun r6 H1 locs1 hw hk1 hS => ?_)
      have hP := ub_keep hP hk1
      generalize H1 = H at hP hS ⊢
      generalize locs1 = locs at hS ⊢
      rcases hw with hw | hw
      · -- cisDay, case 0
        obtain ⟨rfl, f7⟩ := hw
        have t8 : (0 : Int) ≤ a1.toInt := f7.1
        have t9 : a1.toInt ≤ 400 := f7.2
        have i10 : 0 ≤ a1.toInt ∧ a1.toInt ≤ 2147483647 := iv_le_r t8 (il_ 0) (iv_all _) (by decide)
        have i11 : 0 ≤ a1.toInt ∧ a1.toInt ≤ 400 := iv_le_l t9 i10 (il_ 400) (by decide)
        refine lv_if_eq (tgt := 29) hx hb dX12_measured_15 (by decide) (fun c12 => ?_) (fun c12 => ?_)
        · --15 taken
          exact absurd c12 (by decide)
        · --15 not
          refine lv_aload_n hx hb dX12_measured_18 rfl (lv_at hl 0 rfl) ?_
          refine th_getL (ci := 13) (C := RX12) (T := TX12) (N := 6) (v := .ref (ad 1)) hx hb hts hinX12 hown hK hP hI 0 (mF 0 rfl) rfl rfl 0 (Nat.le_of_ble_eq_true rfl) (hts _ (vA_in _ _ (in_10 _ (zs16 (zs1 (zs0)))))) (fun _ h9 => h9) (hI.fr 0 (mF 0 rfl) rfl (Nat.le_of_ble_eq_true rfl) 1 rfl) dX12_measured_19 ?_
          refine lv_iload_n hx hb dX12_measured_22 rfl (lv_at hl 3 rfl) ?_
          refine th_riL (va_runV (As := [.int a2]) (rest := []) ⟨hx, hb, hml, hown, hts⟩ (q_isKnownC l dC dI cT cf hC ad E H.size a2 hI) (cwV 1 hts (gi_V (in_18 _ (zs16 (zs4 (zs0)))) (in_6 _ (zs1 (zs1 (zs1 (zs0))))) (in_6 _ (zs4 (zs0))) (in_5 _ (zs4 (zs1 (zs1 (zs0))))) (in_6 _ (zs4 (zs1 (zs0))))) rfl rfl rfl ⟨rfl, hz_yX0_isKnown_1⟩ ⟨Nat.le_of_ble_eq_true rfl, Nat.le_of_ble_eq_true rfl⟩) ⟨HWL_bl, va_recv hK hP (ci := 1) (q0 := posL 1 (LC cf)) rfl (hI.ob 1 (mF 1 rfl) rfl), (HWL_wi hP hK (WL_D hD) hS hA hEV)⟩ rfl rfl hl.1 rfl (lv_room (Nat.le_of_ble_eq_true rfl)) dX12_measured_23 ⟨Nat.le_of_ble_eq_true rfl, Nat.le_of_ble_eq_true rfl⟩) hS hP (fun r13 H locs hw hP hS => ?_)
          rcases hw with hw | hw
          · -- isKnownC, case 0
            obtain ⟨rfl, f14, f15⟩ := hw
            have i16 : 0 ≤ (xi (E 1) 0).toInt ∧ (xi (E 1) 0).toInt ≤ 400 := hI0.iv 1 (mF 1 rfl) rfl (Nat.le_of_ble_eq_true rfl) rfl
            refine lv_if_ne (tgt := 31) hx hb dX12_measured_26 (by decide) (fun c17 => ?_) (fun c17 => ?_)
            · --26 taken
              refine lv_aload_n hx hb dX12_measured_31 rfl (lv_at hl 0 rfl) ?_
              refine th_getL (ci := 13) (C := RX12) (T := TX12) (N := 6) (v := .ref (ad 1)) hx hb hts hinX12 hown hK hP hI 0 (mF 0 rfl) rfl rfl 0 (Nat.le_of_ble_eq_true rfl) (hts _ (vA_in _ _ (in_10 _ (zs16 (zs1 (zs0)))))) (fun _ h9 => h9) (hI.fr 0 (mF 0 rfl) rfl (Nat.le_of_ble_eq_true rfl) 1 rfl) dX12_measured_32 ?_
              refine lv_iload_n hx hb dX12_measured_35 rfl (lv_at hl 1 rfl) ?_
              refine lv_iload_n hx hb dX12_measured_36 rfl (lv_at hl 2 rfl) ?_
              refine lv_iload_n hx hb dX12_measured_37 rfl (lv_at hl 3 rfl) ?_
              refine th_riL (va_runV (As := [.int a0, .int a1, .int a2]) (rest := []) ⟨hx, hb, hml, hown, hts⟩ (q_certificateOnX l dC dI cT cf hC ad E H.size a0 a1 a2 hI) (cwV 3 hts (gi_V (in_19 _ (zs16 (zs16 (zs4 (zs1 (zs0)))))) (in_6 _ (zs16 (zs16 (zs1 (zs1 (zs0)))))) (in_6 _ (zs16 (zs16 (zs1 (zs1 (zs1 (zs0))))))) (in_5 _ (zs4 (zs1 (zs1 (zs0))))) (in_4 _ (zs16 (zs4 (zs4 (zs4 (zs0))))))) rfl rfl rfl ⟨rfl, hz_yX0_certificateOn_3⟩ ⟨Nat.le_of_ble_eq_true rfl, Nat.le_of_ble_eq_true rfl⟩) ⟨HWL_bl, va_recv hK hP (ci := 1) (q0 := posL 1 (LC cf)) rfl (hI.ob 1 (mF 1 rfl) rfl), (HWL_wi hP hK (WL_D hD) hS hA hEV)⟩ rfl rfl hl.1 rfl (lv_room (Nat.le_of_ble_eq_true rfl)) dX12_measured_38 ⟨Nat.le_of_ble_eq_true rfl, Nat.le_of_ble_eq_true rfl⟩) hS hP (fun r18 H locs hw hP hS => ?_)
              obtain ⟨f19, f20, f21⟩ := hw
              rw [hQ]
              exact W.iret (v := r18) hx hb hr (fun t ht hW => ⟨⟨r18, E, rfl, ⟨hI, hKp, (by all_goals omega)⟩, by show va_P (dC, dI) vwCl (WL (LC cf) ad E) t.heap; rw [ht]; exact hP⟩, hS.F ht⟩) hS.2.2 dX12_measured_41
            · --26 not
              exact absurd c17 (by decide)
          · -- isKnownC, case 1
            obtain ⟨rfl, f22⟩ := hw
            have i23 : 0 ≤ (xi (E 1) 0).toInt ∧ (xi (E 1) 0).toInt ≤ 400 := hI0.iv 1 (mF 1 rfl) rfl (Nat.le_of_ble_eq_true rfl) rfl
            refine lv_if_ne (tgt := 31) hx hb dX12_measured_26 (by decide) (fun c24 => ?_) (fun c24 => ?_)
            · --26 taken
              exact absurd c24 (by decide)
            · --26 not
              refine lv_iconst (v := -1) hx hb dX12_measured_29 (by decide) ?_
              rw [hQ]
              exact W.iret (v := (-1)) hx hb hr (fun t ht hW => ⟨⟨(-1), E, rfl, ⟨hI, hKp, (by have h8 := ln_m1; all_goals omega)⟩, by show va_P (dC, dI) vwCl (WL (LC cf) ad E) t.heap; rw [ht]; exact hP⟩, hS.F ht⟩) hS.2.2 dX12_measured_30
      · -- cisDay, case 1
        obtain ⟨rfl, f25⟩ := hw
        have t26 : ¬ ((0 : Int) ≤ a1.toInt ∧ a1.toInt ≤ 400) := f25
        refine lv_if_eq (tgt := 29) hx hb dX12_measured_15 (by decide) (fun c27 => ?_) (fun c27 => ?_)
        · --15 taken
          refine lv_iconst (v := -1) hx hb dX12_measured_29 (by decide) ?_
          rw [hQ]
          exact W.iret (v := (-1)) hx hb hr (fun t ht hW => ⟨⟨(-1), E, rfl, ⟨hI, hKp, (by have h8 := ln_m1; all_goals omega)⟩, by show va_P (dC, dI) vwCl (WL (LC cf) ad E) t.heap; rw [ht]; exact hP⟩, hS.F ht⟩) hS.2.2 dX12_measured_30
        · --15 not
          exact absurd c27 (by decide)
  · -- isBoatC, case 1
    obtain ⟨rfl, f28⟩ := hw
    have i29 : 0 ≤ (xi (E 1) 1).toInt ∧ (xi (E 1) 1).toInt ≤ 16 := hI0.iv 1 (mF 1 rfl) rfl (Nat.le_of_ble_eq_true rfl) rfl
    refine lv_if_eq (tgt := 29) hx hb dX12_measured_8 (by decide) (fun c30 => ?_) (fun c30 => ?_)
    · --8 taken
      refine lv_iconst (v := -1) hx hb dX12_measured_29 (by decide) ?_
      rw [hQ]
      exact W.iret (v := (-1)) hx hb hr (fun t ht hW => ⟨⟨(-1), E, rfl, ⟨hI, hKp, (by have h8 := ln_m1; all_goals omega)⟩, by show va_P (dC, dI) vwCl (WL (LC cf) ad E) t.heap; rw [ht]; exact hP⟩, hS.F ht⟩) hS.2.2 dX12_measured_30
    · --8 not
      exact absurd c30 (by decide)
def v_measuredX : List Cond := .code yX13_measured cX13_measured 4 (some .int) :: vA
abbrev rm_measuredX : Room := { frames := 2, cells := 0, slots := 0, locals := 80 }
def w_measuredX : Nat → Nat → Bool := wl [] [(0, 0)]
set_option maxHeartbeats 4000000 in
set_option maxRecDepth 100000 in
theorem q_measuredX (l : Launch) (dC : Nat → ClassId) (dI : Nat → Nat → Nat) (cT : Nat → ClassId) (ad : Nat → Nat) (E : Nat → va_E) (sz : Nat) (a0 : Int32) (a1 : Int32) (a2 : Int32) (hI0 : IX cT shM spM 72 ad E)  : Met l yX13_measured v_measuredX rm_measuredX (va_Pc [.ref (ad 0), .int a0, .int a1, .int a2] (HW dC dI (TYM cT) 72 ad E sz)) (va_Qi (S := Nat → va_E) (fun r u => IX cT shM spM 72 ad u ∧ Kp w_measuredX E u ∧ ((((((0 ≤ a0.toInt ∧ a0.toInt < (xi (E 0) 8).toInt) ∧ (0 ≤ a1.toInt ∧ a1.toInt ≤ 400) ∧ (0 ≤ a2.toInt ∧ a2.toInt ≤ (xi (E 0) 1).toInt)) → (r.toInt = (cO (xi (E 1)) (xi (E 2)) (xi (E 6)) a0 a1 a2 (xi (E 0) 9).toNatClampNeg).toInt)) ∧ (¬ ((0 ≤ a0.toInt ∧ a0.toInt < (xi (E 0) 8).toInt) ∧ (0 ≤ a1.toInt ∧ a1.toInt ≤ 400) ∧ (0 ≤ a2.toInt ∧ a2.toInt ≤ (xi (E 0) 1).toInt)) → (r.toInt = -1)))))) (HB dC dI 72 ad) (va_A (WX 72 ad E) sz)) 0 0 (va_A (WX 72 ad E) sz) := by
  refine Met.ofW (cc := cX13_measured) (maxL := 4) (ret := (some .int)) (by decide) rfl ?_
  intro p e s m args below meth c s₁ B hml hv
  obtain ⟨hargs, hsz, hP, hK, hD0, hEV⟩ := hv
  subst hsz
  have hx := B.exec
  have hb := B.bytes
  have hr := B.returns
  have hts := atoms_spec (ws := v_measuredX) B.pre
  have hown : s.vm.findClass RX13 = some m.cls := findClass_of_methodNamed B.named
  have hlocks := B.notSynchronized
  have hinX13 : ∀ w ∈ u_ws RX13 TX13 97, w ∈ v_measuredX := fun w h => vA_in _ w (in_X13 w h)
  generalize hAe : va_A (WX 72 ad E) s.heap.size = A at hEV ⊢
  have hA : ∀ q : Nat, s.heap.size ≤ q → A q := fun q h => by rw [← hAe]; exact Or.inr h
  have hD : va_D A (WX 72 ad E) := by rw [← hAe]; exact hD0.self
  have hS : va_S A s.heap s.heap [] := va_S.rf
  have hI := hI0
  have hKp : Kp w_measuredX E E := Kp.rf
  have hl := lv_entry ([.ref (ad 0), .int a0, .int a1, .int a2]) (n := 4) (Nat.le_of_ble_eq_true rfl)
  obtain ⟨Q, hQ⟩ : ∃ Q, Q = MQ below (va_Qi (S := Nat → va_E) (fun r u => IX cT shM spM 72 ad u ∧ Kp w_measuredX E u ∧ ((((((0 ≤ a0.toInt ∧ a0.toInt < (xi (E 0) 8).toInt) ∧ (0 ≤ a1.toInt ∧ a1.toInt ≤ 400) ∧ (0 ≤ a2.toInt ∧ a2.toInt ≤ (xi (E 0) 1).toInt)) → (r.toInt = (cO (xi (E 1)) (xi (E 2)) (xi (E 6)) a0 a1 a2 (xi (E 0) 9).toNatClampNeg).toInt)) ∧ (¬ ((0 ≤ a0.toInt ∧ a0.toInt < (xi (E 0) 8).toInt) ∧ (0 ≤ a1.toInt ∧ a1.toInt ≤ 400) ∧ (0 ≤ a2.toInt ∧ a2.toInt ≤ (xi (E 0) 1).toInt)) → (r.toInt = -1)))))) (HB dC dI 72 ad) (A)) args s 0 0 (A) := ⟨_, rfl⟩
  rw [← hQ, show entryFrame m args 4 = _ from (congrArg (fun z => entryFrame m z 4) hargs).trans (lg_entry_eq _ _ _)]
  generalize (lg_sl ([.ref (ad 0), .int a0, .int a1, .int a2]) ++ List.replicate (4 - (lg_sl ([.ref (ad 0), .int a0, .int a1, .int a2])).length) Slot.unset).toArray = ls at hl ⊢
  have hl : lv_has ls 4 [(0, .ref (ad 0)), (1, .int a0), (2, .int a1), (3, .int a2)] := hl
  refine lv_aload_n hx hb dX13_measured_0 rfl (lv_at hl 0 rfl) ?_
  refine lv_iconst (v := 0) hx hb dX13_measured_1 (by decide) ?_
  refine th_put (ci := 14) (C := RX13) (T := TX13) (N := 97) (v := .int 0) (ty := .int) hx hb hts hinX13 tyX13 tyX13_ok nmX13 hown hK hP (WX_D hD) hS hI 0 (Nat.le_of_ble_eq_true rfl) rfl rfl 0 (Nat.le_of_ble_eq_true rfl) (hts _ (vA_in _ _ (in_24 _ (zs4 (zs4 (zs1 (zs1 (zs0)))))))) (fun _ h9 => h9) rfl (by decide +kernel) rfl rfl (okI rfl (iv_w ln_0 (by decide))) dX13_measured_2 (fun H locs E1 pw2 hI hP hS => ?_)
  have hKp := hKp.pw pw2 rfl
  refine lv_aload_n hx hb dX13_measured_5 rfl (lv_at hl 0 rfl) ?_
  refine lv_iload_n hx hb dX13_measured_6 rfl (lv_at hl 1 rfl) ?_
  refine th_ri (va_runV (As := [.int a0]) (rest := []) ⟨hx, hb, hml, hown, hts⟩ (q_isBoat l dC dI cT ad E1 H.size a0 hI) (cwV 1 hts (gi_V (in_24 _ (zs16 (zs1 (zs1 (zs0))))) (in_24 _ (zs16 (zs1 (zs1 (zs1 (zs0)))))) (in_24 _ (zs16 (zs4 (zs0)))) (in_24 _ (zs4 (zs4 (zs4 (zs1 (zs1 (zs1 (zs0)))))))) (in_24 _ (zs16 (zs4 (zs1 (zs0)))))) rfl rfl rfl ⟨rfl, hz_yX13_isBoat_1⟩ ⟨Nat.le_of_ble_eq_true rfl, Nat.le_of_ble_eq_true rfl⟩) ⟨HW_bl, va_recv hK hP (ci := 14) (q0 := 0) rfl (hI.ob 0 (Nat.le_of_ble_eq_true rfl) rfl), (HW_wi hP hK (WX_D hD) hS hA hEV)⟩ rfl rfl hl.1 rfl (lv_room (Nat.le_of_ble_eq_true rfl)) dX13_measured_7 ⟨Nat.le_of_ble_eq_true rfl, Nat.le_of_ble_eq_true rfl⟩) hS hP (fun r3 H locs hw hP hS => ?_)
  rcases hw with hw | hw
  · -- isBoat, case 0
    obtain ⟨rfl, f4, f5⟩ := hw
    have i6 : 0 ≤ (xi (E 0) 8).toInt ∧ (xi (E 0) 8).toInt ≤ 16 := (show 0 ≤ (xi (E 0) 8).toInt ∧ (xi (E 0) 8).toInt ≤ 16 from hI0.iv 0 (Nat.le_of_ble_eq_true rfl) rfl (Nat.le_of_ble_eq_true rfl) rfl)
    try rw [hKp.ei 0 8 rfl] at f4
    refine lv_if_eq (tgt := 38) hx hb dX13_measured_10 (by decide) (fun c7 => ?_) (fun c7 => ?_)
    · --10 taken
      exact absurd c7 (by decide)
    · --10 not
      refine lv_iload_n hx hb dX13_measured_13 rfl (lv_at hl 2 rfl) ?_
      refine th_pi (va_runS (As := [.int a1]) (rest := []) ⟨hx, hb, hml, hown, hts⟩ (q_isDay l a1) (va_cwS 1 hts (gi_S (in_27 _ (zs16 (zs1 (zs0)))) (in_27 _ (zs16 (zs1 (zs1 (zs0))))) (in_24 _ (zs4 (zs4 (zs4 (zs1 (zs1 (zs1 (zs0)))))))) (in_27 _ (zs16 (zs1 (zs1 (zs1 (zs0))))))) rfl rfl rfl hz_yX13_isDay_1 ⟨Nat.le_of_ble_eq_true rfl, Nat.le_of_ble_eq_true rfl⟩) ⟨fun _ _ _ _ q => q, fun _ _ _ => ⟨rfl, trivial⟩⟩ rfl rfl hl.1 rfl (lv_room (Nat.le_of_ble_eq_true rfl)) dX13_measured_14 ⟨Nat.le_of_ble_eq_true rfl, Nat.le_of_ble_eq_true rfl⟩) hS (fun r8 H1 locs1 hw hk1 hS => ?_)
      have hP := ub_keep hP hk1
      generalize H1 = H at hP hS ⊢
      generalize locs1 = locs at hS ⊢
      rcases hw with hw | hw
      · -- isDay, case 0
        obtain ⟨rfl, f9⟩ := hw
        have t10 : (0 : Int) ≤ a1.toInt := f9.1
        have t11 : a1.toInt ≤ 400 := f9.2
        have i12 : 0 ≤ a1.toInt ∧ a1.toInt ≤ 2147483647 := iv_le_r t10 (il_ 0) (iv_all _) (by decide)
        have i13 : 0 ≤ a1.toInt ∧ a1.toInt ≤ 400 := iv_le_l t11 i12 (il_ 400) (by decide)
        refine lv_if_eq (tgt := 38) hx hb dX13_measured_17 (by decide) (fun c14 => ?_) (fun c14 => ?_)
        · --17 taken
          exact absurd c14 (by decide)
        · --17 not
          refine lv_aload_n hx hb dX13_measured_20 rfl (lv_at hl 0 rfl) ?_
          refine lv_iload_n hx hb dX13_measured_21 rfl (lv_at hl 3 rfl) ?_
          refine th_ri (va_runV (As := [.int a2]) (rest := []) ⟨hx, hb, hml, hown, hts⟩ (q_isKnown l dC dI cT ad E1 H.size a2 hI) (cwV 1 hts (gi_V (in_24 _ (zs16 (zs4 (zs1 (zs1 (zs1 (zs0))))))) (in_24 _ (zs16 (zs4 (zs4 (zs0))))) (in_24 _ (zs16 (zs4 (zs4 (zs1 (zs0)))))) (in_24 _ (zs4 (zs4 (zs4 (zs1 (zs1 (zs1 (zs0)))))))) (in_24 _ (zs16 (zs4 (zs4 (zs1 (zs1 (zs0)))))))) rfl rfl rfl ⟨rfl, hz_yX13_isKnown_1⟩ ⟨Nat.le_of_ble_eq_true rfl, Nat.le_of_ble_eq_true rfl⟩) ⟨HW_bl, va_recv hK hP (ci := 14) (q0 := 0) rfl (hI.ob 0 (Nat.le_of_ble_eq_true rfl) rfl), (HW_wi hP hK (WX_D hD) hS hA hEV)⟩ rfl rfl hl.1 rfl (lv_room (Nat.le_of_ble_eq_true rfl)) dX13_measured_22 ⟨Nat.le_of_ble_eq_true rfl, Nat.le_of_ble_eq_true rfl⟩) hS hP (fun r15 H locs hw hP hS => ?_)
          rcases hw with hw | hw
          · -- isKnown, case 0
            obtain ⟨rfl, f16⟩ := hw
            have i17 : 0 ≤ (xi (E 0) 1).toInt ∧ (xi (E 0) 1).toInt ≤ 400 := (show 0 ≤ (xi (E 0) 1).toInt ∧ (xi (E 0) 1).toInt ≤ 400 from hI0.iv 0 (Nat.le_of_ble_eq_true rfl) rfl (Nat.le_of_ble_eq_true rfl) rfl)
            try rw [hKp.ei 0 1 rfl] at f16
            have t18 : (0 : Int) ≤ a2.toInt := f16.1
            have t19 : a2.toInt ≤ (xi (E 0) 1).toInt := f16.2
            have i20 : 0 ≤ a2.toInt ∧ a2.toInt ≤ 2147483647 := iv_le_r t18 (il_ 0) (iv_all _) (by decide)
            have i21 : 0 ≤ a2.toInt ∧ a2.toInt ≤ 400 := iv_le_l t19 i20 i17 (by decide)
            refine lv_if_eq (tgt := 38) hx hb dX13_measured_25 (by decide) (fun c22 => ?_) (fun c22 => ?_)
            · --25 taken
              exact absurd c22 (by decide)
            · --25 not
              refine lv_aload_n hx hb dX13_measured_28 rfl (lv_at hl 0 rfl) ?_
              refine lv_iload_n hx hb dX13_measured_29 rfl (lv_at hl 1 rfl) ?_
              refine lv_iload_n hx hb dX13_measured_30 rfl (lv_at hl 2 rfl) ?_
              refine lv_iload_n hx hb dX13_measured_31 rfl (lv_at hl 3 rfl) ?_
              refine th_ri (va_runV (As := [.int a0, .int a1, .int a2]) (rest := []) ⟨hx, hb, hml, hown, hts⟩ (q_certOn l dC dI cT ad E1 H.size a0 a1 a2 hI) (cwV 3 hts (gi_V (in_28 _ (zs16 (zs4 (zs4 (zs1 (zs1 (zs1 (zs0)))))))) (in_28 _ (zs16 (zs4 (zs4 (zs4 (zs0)))))) (in_28 _ (zs16 (zs4 (zs4 (zs4 (zs1 (zs0))))))) (in_24 _ (zs4 (zs4 (zs4 (zs1 (zs1 (zs1 (zs0)))))))) (in_27 _ (zs4 (zs4 (zs0))))) rfl rfl rfl ⟨rfl, hz_yX13_certOn_3⟩ ⟨Nat.le_of_ble_eq_true rfl, Nat.le_of_ble_eq_true rfl⟩) ⟨HW_bl, va_recv hK hP (ci := 14) (q0 := 0) rfl (hI.ob 0 (Nat.le_of_ble_eq_true rfl) rfl), (HW_wi hP hK (WX_D hD) hS hA hEV)⟩ rfl rfl hl.1 rfl (lv_room (Nat.le_of_ble_eq_true rfl)) dX13_measured_32 ⟨Nat.le_of_ble_eq_true rfl, Nat.le_of_ble_eq_true rfl⟩) hS hP (fun r23 H locs hw hP hS => ?_)
              obtain ⟨f24, f25⟩ := hw
              have i26 : 0 ≤ (xi (E 0) 9).toInt ∧ (xi (E 0) 9).toInt ≤ 80 := (show 0 ≤ (xi (E 0) 9).toInt ∧ (xi (E 0) 9).toInt ≤ 80 from hI0.iv 0 (Nat.le_of_ble_eq_true rfl) rfl (Nat.le_of_ble_eq_true rfl) rfl)
              try rw [hKp.ei 0 9 rfl] at f25
              try rw [hKp.ef 1 (fun _ => rfl)] at f25
              try rw [hKp.ef 2 (fun _ => rfl)] at f25
              try rw [hKp.ef 6 (fun _ => rfl)] at f25
              refine lv_goto (tgt := 39) hx hb dX13_measured_35 (by decide) ?_
              rw [hQ]
              exact W.iret (v := r23) hx hb hr (fun t ht hW => ⟨⟨r23, E1, rfl, ⟨hI, hKp, (by have h9 := congrArg Int32.toInt f25; all_goals omega)⟩, by show va_P (dC, dI) vwCl (WX 72 ad E1) t.heap; rw [ht]; exact hP⟩, hS.F ht⟩) hS.2.2 dX13_measured_39
          · -- isKnown, case 1
            obtain ⟨rfl, f27⟩ := hw
            have i28 : 0 ≤ (xi (E 0) 1).toInt ∧ (xi (E 0) 1).toInt ≤ 400 := (show 0 ≤ (xi (E 0) 1).toInt ∧ (xi (E 0) 1).toInt ≤ 400 from hI0.iv 0 (Nat.le_of_ble_eq_true rfl) rfl (Nat.le_of_ble_eq_true rfl) rfl)
            try rw [hKp.ei 0 1 rfl] at f27
            have t29 : ¬ ((0 : Int) ≤ a2.toInt ∧ a2.toInt ≤ (xi (E 0) 1).toInt) := f27
            refine lv_if_eq (tgt := 38) hx hb dX13_measured_25 (by decide) (fun c30 => ?_) (fun c30 => ?_)
            · --25 taken
              refine lv_iconst (v := -1) hx hb dX13_measured_38 (by decide) ?_
              rw [hQ]
              exact W.iret (v := (-1)) hx hb hr (fun t ht hW => ⟨⟨(-1), E1, rfl, ⟨hI, hKp, (by have h8 := ln_m1; all_goals omega)⟩, by show va_P (dC, dI) vwCl (WX 72 ad E1) t.heap; rw [ht]; exact hP⟩, hS.F ht⟩) hS.2.2 dX13_measured_39
            · --25 not
              exact absurd c30 (by decide)
      · -- isDay, case 1
        obtain ⟨rfl, f31⟩ := hw
        have t32 : ¬ ((0 : Int) ≤ a1.toInt ∧ a1.toInt ≤ 400) := f31
        refine lv_if_eq (tgt := 38) hx hb dX13_measured_17 (by decide) (fun c33 => ?_) (fun c33 => ?_)
        · --17 taken
          refine lv_iconst (v := -1) hx hb dX13_measured_38 (by decide) ?_
          rw [hQ]
          exact W.iret (v := (-1)) hx hb hr (fun t ht hW => ⟨⟨(-1), E1, rfl, ⟨hI, hKp, (by have h8 := ln_m1; all_goals omega)⟩, by show va_P (dC, dI) vwCl (WX 72 ad E1) t.heap; rw [ht]; exact hP⟩, hS.F ht⟩) hS.2.2 dX13_measured_39
        · --17 not
          exact absurd c33 (by decide)
  · -- isBoat, case 1
    obtain ⟨rfl, f34⟩ := hw
    have i35 : 0 ≤ (xi (E 0) 8).toInt ∧ (xi (E 0) 8).toInt ≤ 16 := (show 0 ≤ (xi (E 0) 8).toInt ∧ (xi (E 0) 8).toInt ≤ 16 from hI0.iv 0 (Nat.le_of_ble_eq_true rfl) rfl (Nat.le_of_ble_eq_true rfl) rfl)
    try rw [hKp.ei 0 8 rfl] at f34
    refine lv_if_eq (tgt := 38) hx hb dX13_measured_10 (by decide) (fun c36 => ?_) (fun c36 => ?_)
    · --10 taken
      refine lv_iconst (v := -1) hx hb dX13_measured_38 (by decide) ?_
      rw [hQ]
      exact W.iret (v := (-1)) hx hb hr (fun t ht hW => ⟨⟨(-1), E1, rfl, ⟨hI, hKp, (by have h8 := ln_m1; all_goals omega)⟩, by show va_P (dC, dI) vwCl (WX 72 ad E1) t.heap; rw [ht]; exact hP⟩, hS.F ht⟩) hS.2.2 dX13_measured_39
    · --10 not
      exact absurd c36 (by decide)
