set_option maxRecDepth 100000 in
theorem zh_dX13_codeOf_0_0 : zc cX13_codeOf 0 [42, 27, 28, 29, 182, 1, 140, 154, 0, 5, 5, 172, 42, 27, 28, 29] = true := by decide +kernel
set_option maxRecDepth 100000 in
theorem zh_dX13_codeOf_16_16 : zc cX13_codeOf 16 [182, 1, 151, 153, 0, 5, 8, 172, 42, 27, 28, 29, 182, 1, 154, 54] = true := by decide +kernel
set_option maxRecDepth 100000 in
theorem zh_dX13_codeOf_31_32 : zc cX13_codeOf 32 [4, 21, 4, 2, 160, 0, 7, 5, 167, 0, 10, 42, 180, 0, 89, 21] = true := by decide +kernel
set_option maxRecDepth 100000 in
theorem zh_dX13_codeOf_47_48 : zc cX13_codeOf 48 [4, 46, 172] = true := by decide +kernel
set_option maxRecDepth 100000 in
theorem zh_dX13_coded_0_0 : zc cX13_coded 0 [42, 27, 28, 29, 182, 1, 160, 153, 0, 13, 42, 27, 28, 29, 182, 1] = true := by decide +kernel
set_option maxRecDepth 100000 in
theorem zh_dX13_coded_14_16 : zc cX13_coded 16 [163, 167, 0, 4, 2, 172] = true := by decide +kernel
set_option maxRecDepth 100000 in
theorem zh_dX13_isOut_0_0 : zc cX13_isOut 0 [3, 54, 4, 21, 4, 42, 180, 1, 208, 162, 0, 129, 42, 180, 0, 150] = true := by decide +kernel
set_option maxRecDepth 100000 in
theorem zh_dX13_isOut_16_16 : zc cX13_isOut 16 [21, 4, 46, 27, 160, 0, 112, 42, 180, 0, 153, 21, 4, 46, 28, 159] = true := by decide +kernel
set_option maxRecDepth 100000 in
theorem zh_dX13_isOut_31_32 : zc cX13_isOut 32 [0, 17, 42, 180, 0, 156, 21, 4, 46, 28, 159, 0, 6, 167, 0, 87] = true := by decide +kernel
set_option maxRecDepth 100000 in
theorem zh_dX13_isOut_48_48 : zc cX13_isOut 48 [42, 180, 0, 153, 21, 4, 46, 28, 160, 0, 7, 4, 167, 0, 4, 5] = true := by decide +kernel
set_option maxRecDepth 100000 in
theorem zh_dX13_isOut_64_64 : zc cX13_isOut 64 [54, 5, 5, 21, 4, 104, 54, 6, 21, 6, 5, 21, 4, 104, 42, 180] = true := by decide +kernel
set_option maxRecDepth 100000 in
theorem zh_dX13_isOut_79_80 : zc cX13_isOut 80 [0, 174, 21, 4, 46, 96, 162, 0, 46, 42, 180, 0, 165, 21, 6, 46] = true := by decide +kernel
set_option maxRecDepth 100000 in
theorem zh_dX13_isOut_96_96 : zc cX13_isOut 96 [21, 5, 126, 153, 0, 27, 42, 180, 0, 168, 21, 6, 46, 29, 163, 0] = true := by decide +kernel
set_option maxRecDepth 100000 in
theorem zh_dX13_isOut_110_112 : zc cX13_isOut 112 [16, 42, 180, 0, 171, 21, 6, 46, 29, 164, 0, 5, 4, 172, 132, 6] = true := by decide +kernel
set_option maxRecDepth 100000 in
theorem zh_dX13_isOut_126_128 : zc cX13_isOut 128 [1, 167, 255, 199, 132, 4, 1, 167, 255, 124, 3, 172] = true := by decide +kernel
set_option maxRecDepth 100000 in
theorem zh_dX13_count_0_0 : zc cX13_count 0 [42, 3, 181, 0, 228, 27, 170, 0, 0, 0, 0, 168, 0, 0, 0, 0] = true := by decide +kernel
set_option maxRecDepth 100000 in
theorem zh_dX13_count_64_64 : zc cX13_count 64 [42, 180, 0, 232, 172, 42, 180, 0, 239, 172, 42, 180, 0, 242, 172, 42] = true := by decide +kernel
set_option maxRecDepth 100000 in
theorem zh_dX13_count_80_80 : zc cX13_count 80 [180, 1, 114, 172, 42, 180, 1, 134, 172, 42, 180, 1, 143, 172, 42, 180] = true := by decide +kernel
set_option maxRecDepth 100000 in
theorem zh_dX13_count_95_96 : zc cX13_count 96 [1, 204, 172, 42, 180, 1, 208, 172, 42, 180, 1, 3, 172, 42, 180, 1] = true := by decide +kernel
set_option maxRecDepth 100000 in
theorem zh_dX13_count_110_112 : zc cX13_count 112 [179, 172, 3, 61, 3, 62, 29, 42, 180, 1, 134, 162, 0, 49, 3, 54] = true := by decide +kernel
set_option maxRecDepth 100000 in
theorem zh_dX13_count_127_128 : zc cX13_count 128 [4, 21, 4, 42, 180, 0, 239, 162, 0, 31, 28, 42, 29, 21, 4, 42] = true := by decide +kernel
set_option maxRecDepth 100000 in
theorem zh_dX13_count_144_144 : zc cX13_count 144 [180, 0, 232, 182, 1, 151, 153, 0, 7, 4, 167, 0, 4, 3, 96, 61] = true := by decide +kernel
set_option maxRecDepth 100000 in
theorem zh_dX13_count_160_160 : zc cX13_count 160 [132, 4, 1, 167, 255, 222, 132, 3, 1, 167, 255, 205, 28, 172, 2, 172] = true := by decide +kernel
theorem dX13_codeOf_0 : decode cX13_codeOf 0 = .ok (.aload_n 0, 1) := zo_42 (zi_at zh_dX13_codeOf_0_0 0 rfl)
theorem dX13_codeOf_1 : decode cX13_codeOf 1 = .ok (.iload_n 1, 1) := zo_27 (zi_at zh_dX13_codeOf_0_0 1 rfl)
theorem dX13_codeOf_2 : decode cX13_codeOf 2 = .ok (.iload_n 2, 1) := zo_28 (zi_at zh_dX13_codeOf_0_0 2 rfl)
theorem dX13_codeOf_3 : decode cX13_codeOf 3 = .ok (.iload_n 3, 1) := zo_29 (zi_at zh_dX13_codeOf_0_0 3 rfl)
theorem dX13_codeOf_4 : decode cX13_codeOf 4 = .ok (.invokevirtual 396, 3) := zo_182 (zi_at zh_dX13_codeOf_0_0 4 rfl) (zi_at zh_dX13_codeOf_0_0 5 rfl) (zi_at zh_dX13_codeOf_0_0 6 rfl) rfl
theorem dX13_codeOf_7 : decode cX13_codeOf 7 = .ok (.ifCond .ne 5, 3) := zo_154 (zi_at zh_dX13_codeOf_0_0 7 rfl) (zi_at zh_dX13_codeOf_0_0 8 rfl) (zi_at zh_dX13_codeOf_0_0 9 rfl) rfl
theorem dX13_codeOf_10 : decode cX13_codeOf 10 = .ok (.iconst 2, 1) := zo_5 (zi_at zh_dX13_codeOf_0_0 10 rfl)
theorem dX13_codeOf_11 : decode cX13_codeOf 11 = .ok (.ireturn, 1) := zo_172 (zi_at zh_dX13_codeOf_0_0 11 rfl)
theorem dX13_codeOf_12 : decode cX13_codeOf 12 = .ok (.aload_n 0, 1) := zo_42 (zi_at zh_dX13_codeOf_0_0 12 rfl)
theorem dX13_codeOf_13 : decode cX13_codeOf 13 = .ok (.iload_n 1, 1) := zo_27 (zi_at zh_dX13_codeOf_0_0 13 rfl)
theorem dX13_codeOf_14 : decode cX13_codeOf 14 = .ok (.iload_n 2, 1) := zo_28 (zi_at zh_dX13_codeOf_0_0 14 rfl)
theorem dX13_codeOf_15 : decode cX13_codeOf 15 = .ok (.iload_n 3, 1) := zo_29 (zi_at zh_dX13_codeOf_0_0 15 rfl)
theorem dX13_codeOf_16 : decode cX13_codeOf 16 = .ok (.invokevirtual 407, 3) := zo_182 (zi_at zh_dX13_codeOf_16_16 0 rfl) (zi_at zh_dX13_codeOf_16_16 1 rfl) (zi_at zh_dX13_codeOf_16_16 2 rfl) rfl
theorem dX13_codeOf_19 : decode cX13_codeOf 19 = .ok (.ifCond .eq 5, 3) := zo_153 (zi_at zh_dX13_codeOf_16_16 3 rfl) (zi_at zh_dX13_codeOf_16_16 4 rfl) (zi_at zh_dX13_codeOf_16_16 5 rfl) rfl
theorem dX13_codeOf_22 : decode cX13_codeOf 22 = .ok (.iconst 5, 1) := zo_8 (zi_at zh_dX13_codeOf_16_16 6 rfl)
theorem dX13_codeOf_23 : decode cX13_codeOf 23 = .ok (.ireturn, 1) := zo_172 (zi_at zh_dX13_codeOf_16_16 7 rfl)
theorem dX13_codeOf_24 : decode cX13_codeOf 24 = .ok (.aload_n 0, 1) := zo_42 (zi_at zh_dX13_codeOf_16_16 8 rfl)
theorem dX13_codeOf_25 : decode cX13_codeOf 25 = .ok (.iload_n 1, 1) := zo_27 (zi_at zh_dX13_codeOf_16_16 9 rfl)
theorem dX13_codeOf_26 : decode cX13_codeOf 26 = .ok (.iload_n 2, 1) := zo_28 (zi_at zh_dX13_codeOf_16_16 10 rfl)
theorem dX13_codeOf_27 : decode cX13_codeOf 27 = .ok (.iload_n 3, 1) := zo_29 (zi_at zh_dX13_codeOf_16_16 11 rfl)
theorem dX13_codeOf_28 : decode cX13_codeOf 28 = .ok (.invokevirtual 410, 3) := zo_182 (zi_at zh_dX13_codeOf_16_16 12 rfl) (zi_at zh_dX13_codeOf_16_16 13 rfl) (zi_at zh_dX13_codeOf_16_16 14 rfl) rfl
theorem dX13_codeOf_31 : decode cX13_codeOf 31 = .ok (.istore 4, 2) := zo_54 (zi_at zh_dX13_codeOf_16_16 15 rfl) (zi_at zh_dX13_codeOf_31_32 0 rfl)
theorem dX13_codeOf_33 : decode cX13_codeOf 33 = .ok (.iload 4, 2) := zo_21 (zi_at zh_dX13_codeOf_31_32 1 rfl) (zi_at zh_dX13_codeOf_31_32 2 rfl)
theorem dX13_codeOf_35 : decode cX13_codeOf 35 = .ok (.iconst (-1), 1) := zo_2 (zi_at zh_dX13_codeOf_31_32 3 rfl)
theorem dX13_codeOf_36 : decode cX13_codeOf 36 = .ok (.if_icmp .ne 7, 3) := zo_160 (zi_at zh_dX13_codeOf_31_32 4 rfl) (zi_at zh_dX13_codeOf_31_32 5 rfl) (zi_at zh_dX13_codeOf_31_32 6 rfl) rfl
theorem dX13_codeOf_39 : decode cX13_codeOf 39 = .ok (.iconst 2, 1) := zo_5 (zi_at zh_dX13_codeOf_31_32 7 rfl)
theorem dX13_codeOf_40 : decode cX13_codeOf 40 = .ok (.goto 10, 3) := zo_167 (zi_at zh_dX13_codeOf_31_32 8 rfl) (zi_at zh_dX13_codeOf_31_32 9 rfl) (zi_at zh_dX13_codeOf_31_32 10 rfl) rfl
theorem dX13_codeOf_43 : decode cX13_codeOf 43 = .ok (.aload_n 0, 1) := zo_42 (zi_at zh_dX13_codeOf_31_32 11 rfl)
theorem dX13_codeOf_44 : decode cX13_codeOf 44 = .ok (.getfield 89, 3) := zo_180 (zi_at zh_dX13_codeOf_31_32 12 rfl) (zi_at zh_dX13_codeOf_31_32 13 rfl) (zi_at zh_dX13_codeOf_31_32 14 rfl) rfl
theorem dX13_codeOf_47 : decode cX13_codeOf 47 = .ok (.iload 4, 2) := zo_21 (zi_at zh_dX13_codeOf_31_32 15 rfl) (zi_at zh_dX13_codeOf_47_48 0 rfl)
theorem dX13_codeOf_49 : decode cX13_codeOf 49 = .ok (.iaload, 1) := zo_46 (zi_at zh_dX13_codeOf_47_48 1 rfl)
theorem dX13_codeOf_50 : decode cX13_codeOf 50 = .ok (.ireturn, 1) := zo_172 (zi_at zh_dX13_codeOf_47_48 2 rfl)
theorem dX13_coded_0 : decode cX13_coded 0 = .ok (.aload_n 0, 1) := zo_42 (zi_at zh_dX13_coded_0_0 0 rfl)
theorem dX13_coded_1 : decode cX13_coded 1 = .ok (.iload_n 1, 1) := zo_27 (zi_at zh_dX13_coded_0_0 1 rfl)
theorem dX13_coded_2 : decode cX13_coded 2 = .ok (.iload_n 2, 1) := zo_28 (zi_at zh_dX13_coded_0_0 2 rfl)
theorem dX13_coded_3 : decode cX13_coded 3 = .ok (.iload_n 3, 1) := zo_29 (zi_at zh_dX13_coded_0_0 3 rfl)
theorem dX13_coded_4 : decode cX13_coded 4 = .ok (.invokevirtual 416, 3) := zo_182 (zi_at zh_dX13_coded_0_0 4 rfl) (zi_at zh_dX13_coded_0_0 5 rfl) (zi_at zh_dX13_coded_0_0 6 rfl) rfl
theorem dX13_coded_7 : decode cX13_coded 7 = .ok (.ifCond .eq 13, 3) := zo_153 (zi_at zh_dX13_coded_0_0 7 rfl) (zi_at zh_dX13_coded_0_0 8 rfl) (zi_at zh_dX13_coded_0_0 9 rfl) rfl
theorem dX13_coded_10 : decode cX13_coded 10 = .ok (.aload_n 0, 1) := zo_42 (zi_at zh_dX13_coded_0_0 10 rfl)
theorem dX13_coded_11 : decode cX13_coded 11 = .ok (.iload_n 1, 1) := zo_27 (zi_at zh_dX13_coded_0_0 11 rfl)
theorem dX13_coded_12 : decode cX13_coded 12 = .ok (.iload_n 2, 1) := zo_28 (zi_at zh_dX13_coded_0_0 12 rfl)
theorem dX13_coded_13 : decode cX13_coded 13 = .ok (.iload_n 3, 1) := zo_29 (zi_at zh_dX13_coded_0_0 13 rfl)
theorem dX13_coded_14 : decode cX13_coded 14 = .ok (.invokevirtual 419, 3) := zo_182 (zi_at zh_dX13_coded_0_0 14 rfl) (zi_at zh_dX13_coded_0_0 15 rfl) (zi_at zh_dX13_coded_14_16 0 rfl) rfl
theorem dX13_coded_17 : decode cX13_coded 17 = .ok (.goto 4, 3) := zo_167 (zi_at zh_dX13_coded_14_16 1 rfl) (zi_at zh_dX13_coded_14_16 2 rfl) (zi_at zh_dX13_coded_14_16 3 rfl) rfl
theorem dX13_coded_20 : decode cX13_coded 20 = .ok (.iconst (-1), 1) := zo_2 (zi_at zh_dX13_coded_14_16 4 rfl)
theorem dX13_coded_21 : decode cX13_coded 21 = .ok (.ireturn, 1) := zo_172 (zi_at zh_dX13_coded_14_16 5 rfl)
theorem dX13_isOut_0 : decode cX13_isOut 0 = .ok (.iconst 0, 1) := zo_3 (zi_at zh_dX13_isOut_0_0 0 rfl)
theorem dX13_isOut_1 : decode cX13_isOut 1 = .ok (.istore 4, 2) := zo_54 (zi_at zh_dX13_isOut_0_0 1 rfl) (zi_at zh_dX13_isOut_0_0 2 rfl)
theorem dX13_isOut_3 : decode cX13_isOut 3 = .ok (.iload 4, 2) := zo_21 (zi_at zh_dX13_isOut_0_0 3 rfl) (zi_at zh_dX13_isOut_0_0 4 rfl)
theorem dX13_isOut_5 : decode cX13_isOut 5 = .ok (.aload_n 0, 1) := zo_42 (zi_at zh_dX13_isOut_0_0 5 rfl)
theorem dX13_isOut_6 : decode cX13_isOut 6 = .ok (.getfield 464, 3) := zo_180 (zi_at zh_dX13_isOut_0_0 6 rfl) (zi_at zh_dX13_isOut_0_0 7 rfl) (zi_at zh_dX13_isOut_0_0 8 rfl) rfl
theorem dX13_isOut_9 : decode cX13_isOut 9 = .ok (.if_icmp .ge 129, 3) := zo_162 (zi_at zh_dX13_isOut_0_0 9 rfl) (zi_at zh_dX13_isOut_0_0 10 rfl) (zi_at zh_dX13_isOut_0_0 11 rfl) rfl
theorem dX13_isOut_12 : decode cX13_isOut 12 = .ok (.aload_n 0, 1) := zo_42 (zi_at zh_dX13_isOut_0_0 12 rfl)
theorem dX13_isOut_13 : decode cX13_isOut 13 = .ok (.getfield 150, 3) := zo_180 (zi_at zh_dX13_isOut_0_0 13 rfl) (zi_at zh_dX13_isOut_0_0 14 rfl) (zi_at zh_dX13_isOut_0_0 15 rfl) rfl
theorem dX13_isOut_16 : decode cX13_isOut 16 = .ok (.iload 4, 2) := zo_21 (zi_at zh_dX13_isOut_16_16 0 rfl) (zi_at zh_dX13_isOut_16_16 1 rfl)
theorem dX13_isOut_18 : decode cX13_isOut 18 = .ok (.iaload, 1) := zo_46 (zi_at zh_dX13_isOut_16_16 2 rfl)
theorem dX13_isOut_19 : decode cX13_isOut 19 = .ok (.iload_n 1, 1) := zo_27 (zi_at zh_dX13_isOut_16_16 3 rfl)
theorem dX13_isOut_20 : decode cX13_isOut 20 = .ok (.if_icmp .ne 112, 3) := zo_160 (zi_at zh_dX13_isOut_16_16 4 rfl) (zi_at zh_dX13_isOut_16_16 5 rfl) (zi_at zh_dX13_isOut_16_16 6 rfl) rfl
theorem dX13_isOut_23 : decode cX13_isOut 23 = .ok (.aload_n 0, 1) := zo_42 (zi_at zh_dX13_isOut_16_16 7 rfl)
theorem dX13_isOut_24 : decode cX13_isOut 24 = .ok (.getfield 153, 3) := zo_180 (zi_at zh_dX13_isOut_16_16 8 rfl) (zi_at zh_dX13_isOut_16_16 9 rfl) (zi_at zh_dX13_isOut_16_16 10 rfl) rfl
theorem dX13_isOut_27 : decode cX13_isOut 27 = .ok (.iload 4, 2) := zo_21 (zi_at zh_dX13_isOut_16_16 11 rfl) (zi_at zh_dX13_isOut_16_16 12 rfl)
theorem dX13_isOut_29 : decode cX13_isOut 29 = .ok (.iaload, 1) := zo_46 (zi_at zh_dX13_isOut_16_16 13 rfl)
theorem dX13_isOut_30 : decode cX13_isOut 30 = .ok (.iload_n 2, 1) := zo_28 (zi_at zh_dX13_isOut_16_16 14 rfl)
theorem dX13_isOut_31 : decode cX13_isOut 31 = .ok (.if_icmp .eq 17, 3) := zo_159 (zi_at zh_dX13_isOut_16_16 15 rfl) (zi_at zh_dX13_isOut_31_32 0 rfl) (zi_at zh_dX13_isOut_31_32 1 rfl) rfl
theorem dX13_isOut_34 : decode cX13_isOut 34 = .ok (.aload_n 0, 1) := zo_42 (zi_at zh_dX13_isOut_31_32 2 rfl)
theorem dX13_isOut_35 : decode cX13_isOut 35 = .ok (.getfield 156, 3) := zo_180 (zi_at zh_dX13_isOut_31_32 3 rfl) (zi_at zh_dX13_isOut_31_32 4 rfl) (zi_at zh_dX13_isOut_31_32 5 rfl) rfl
theorem dX13_isOut_38 : decode cX13_isOut 38 = .ok (.iload 4, 2) := zo_21 (zi_at zh_dX13_isOut_31_32 6 rfl) (zi_at zh_dX13_isOut_31_32 7 rfl)
theorem dX13_isOut_40 : decode cX13_isOut 40 = .ok (.iaload, 1) := zo_46 (zi_at zh_dX13_isOut_31_32 8 rfl)
theorem dX13_isOut_41 : decode cX13_isOut 41 = .ok (.iload_n 2, 1) := zo_28 (zi_at zh_dX13_isOut_31_32 9 rfl)
theorem dX13_isOut_42 : decode cX13_isOut 42 = .ok (.if_icmp .eq 6, 3) := zo_159 (zi_at zh_dX13_isOut_31_32 10 rfl) (zi_at zh_dX13_isOut_31_32 11 rfl) (zi_at zh_dX13_isOut_31_32 12 rfl) rfl
theorem dX13_isOut_45 : decode cX13_isOut 45 = .ok (.goto 87, 3) := zo_167 (zi_at zh_dX13_isOut_31_32 13 rfl) (zi_at zh_dX13_isOut_31_32 14 rfl) (zi_at zh_dX13_isOut_31_32 15 rfl) rfl
theorem dX13_isOut_48 : decode cX13_isOut 48 = .ok (.aload_n 0, 1) := zo_42 (zi_at zh_dX13_isOut_48_48 0 rfl)
theorem dX13_isOut_49 : decode cX13_isOut 49 = .ok (.getfield 153, 3) := zo_180 (zi_at zh_dX13_isOut_48_48 1 rfl) (zi_at zh_dX13_isOut_48_48 2 rfl) (zi_at zh_dX13_isOut_48_48 3 rfl) rfl
theorem dX13_isOut_52 : decode cX13_isOut 52 = .ok (.iload 4, 2) := zo_21 (zi_at zh_dX13_isOut_48_48 4 rfl) (zi_at zh_dX13_isOut_48_48 5 rfl)
theorem dX13_isOut_54 : decode cX13_isOut 54 = .ok (.iaload, 1) := zo_46 (zi_at zh_dX13_isOut_48_48 6 rfl)
theorem dX13_isOut_55 : decode cX13_isOut 55 = .ok (.iload_n 2, 1) := zo_28 (zi_at zh_dX13_isOut_48_48 7 rfl)
theorem dX13_isOut_56 : decode cX13_isOut 56 = .ok (.if_icmp .ne 7, 3) := zo_160 (zi_at zh_dX13_isOut_48_48 8 rfl) (zi_at zh_dX13_isOut_48_48 9 rfl) (zi_at zh_dX13_isOut_48_48 10 rfl) rfl
theorem dX13_isOut_59 : decode cX13_isOut 59 = .ok (.iconst 1, 1) := zo_4 (zi_at zh_dX13_isOut_48_48 11 rfl)
theorem dX13_isOut_60 : decode cX13_isOut 60 = .ok (.goto 4, 3) := zo_167 (zi_at zh_dX13_isOut_48_48 12 rfl) (zi_at zh_dX13_isOut_48_48 13 rfl) (zi_at zh_dX13_isOut_48_48 14 rfl) rfl
theorem dX13_isOut_63 : decode cX13_isOut 63 = .ok (.iconst 2, 1) := zo_5 (zi_at zh_dX13_isOut_48_48 15 rfl)
theorem dX13_isOut_64 : decode cX13_isOut 64 = .ok (.istore 5, 2) := zo_54 (zi_at zh_dX13_isOut_64_64 0 rfl) (zi_at zh_dX13_isOut_64_64 1 rfl)
theorem dX13_isOut_66 : decode cX13_isOut 66 = .ok (.iconst 2, 1) := zo_5 (zi_at zh_dX13_isOut_64_64 2 rfl)
theorem dX13_isOut_67 : decode cX13_isOut 67 = .ok (.iload 4, 2) := zo_21 (zi_at zh_dX13_isOut_64_64 3 rfl) (zi_at zh_dX13_isOut_64_64 4 rfl)
theorem dX13_isOut_69 : decode cX13_isOut 69 = .ok (.imul, 1) := zo_104 (zi_at zh_dX13_isOut_64_64 5 rfl)
theorem dX13_isOut_70 : decode cX13_isOut 70 = .ok (.istore 6, 2) := zo_54 (zi_at zh_dX13_isOut_64_64 6 rfl) (zi_at zh_dX13_isOut_64_64 7 rfl)
theorem dX13_isOut_72 : decode cX13_isOut 72 = .ok (.iload 6, 2) := zo_21 (zi_at zh_dX13_isOut_64_64 8 rfl) (zi_at zh_dX13_isOut_64_64 9 rfl)
theorem dX13_isOut_74 : decode cX13_isOut 74 = .ok (.iconst 2, 1) := zo_5 (zi_at zh_dX13_isOut_64_64 10 rfl)
theorem dX13_isOut_75 : decode cX13_isOut 75 = .ok (.iload 4, 2) := zo_21 (zi_at zh_dX13_isOut_64_64 11 rfl) (zi_at zh_dX13_isOut_64_64 12 rfl)
theorem dX13_isOut_77 : decode cX13_isOut 77 = .ok (.imul, 1) := zo_104 (zi_at zh_dX13_isOut_64_64 13 rfl)
theorem dX13_isOut_78 : decode cX13_isOut 78 = .ok (.aload_n 0, 1) := zo_42 (zi_at zh_dX13_isOut_64_64 14 rfl)
theorem dX13_isOut_79 : decode cX13_isOut 79 = .ok (.getfield 174, 3) := zo_180 (zi_at zh_dX13_isOut_64_64 15 rfl) (zi_at zh_dX13_isOut_79_80 0 rfl) (zi_at zh_dX13_isOut_79_80 1 rfl) rfl
theorem dX13_isOut_82 : decode cX13_isOut 82 = .ok (.iload 4, 2) := zo_21 (zi_at zh_dX13_isOut_79_80 2 rfl) (zi_at zh_dX13_isOut_79_80 3 rfl)
theorem dX13_isOut_84 : decode cX13_isOut 84 = .ok (.iaload, 1) := zo_46 (zi_at zh_dX13_isOut_79_80 4 rfl)
theorem dX13_isOut_85 : decode cX13_isOut 85 = .ok (.iadd, 1) := zo_96 (zi_at zh_dX13_isOut_79_80 5 rfl)
theorem dX13_isOut_86 : decode cX13_isOut 86 = .ok (.if_icmp .ge 46, 3) := zo_162 (zi_at zh_dX13_isOut_79_80 6 rfl) (zi_at zh_dX13_isOut_79_80 7 rfl) (zi_at zh_dX13_isOut_79_80 8 rfl) rfl
theorem dX13_isOut_89 : decode cX13_isOut 89 = .ok (.aload_n 0, 1) := zo_42 (zi_at zh_dX13_isOut_79_80 9 rfl)
theorem dX13_isOut_90 : decode cX13_isOut 90 = .ok (.getfield 165, 3) := zo_180 (zi_at zh_dX13_isOut_79_80 10 rfl) (zi_at zh_dX13_isOut_79_80 11 rfl) (zi_at zh_dX13_isOut_79_80 12 rfl) rfl
theorem dX13_isOut_93 : decode cX13_isOut 93 = .ok (.iload 6, 2) := zo_21 (zi_at zh_dX13_isOut_79_80 13 rfl) (zi_at zh_dX13_isOut_79_80 14 rfl)
theorem dX13_isOut_95 : decode cX13_isOut 95 = .ok (.iaload, 1) := zo_46 (zi_at zh_dX13_isOut_79_80 15 rfl)
theorem dX13_isOut_96 : decode cX13_isOut 96 = .ok (.iload 5, 2) := zo_21 (zi_at zh_dX13_isOut_96_96 0 rfl) (zi_at zh_dX13_isOut_96_96 1 rfl)
theorem dX13_isOut_98 : decode cX13_isOut 98 = .ok (.iand, 1) := zo_126 (zi_at zh_dX13_isOut_96_96 2 rfl)
theorem dX13_isOut_99 : decode cX13_isOut 99 = .ok (.ifCond .eq 27, 3) := zo_153 (zi_at zh_dX13_isOut_96_96 3 rfl) (zi_at zh_dX13_isOut_96_96 4 rfl) (zi_at zh_dX13_isOut_96_96 5 rfl) rfl
theorem dX13_isOut_102 : decode cX13_isOut 102 = .ok (.aload_n 0, 1) := zo_42 (zi_at zh_dX13_isOut_96_96 6 rfl)
theorem dX13_isOut_103 : decode cX13_isOut 103 = .ok (.getfield 168, 3) := zo_180 (zi_at zh_dX13_isOut_96_96 7 rfl) (zi_at zh_dX13_isOut_96_96 8 rfl) (zi_at zh_dX13_isOut_96_96 9 rfl) rfl
theorem dX13_isOut_106 : decode cX13_isOut 106 = .ok (.iload 6, 2) := zo_21 (zi_at zh_dX13_isOut_96_96 10 rfl) (zi_at zh_dX13_isOut_96_96 11 rfl)
theorem dX13_isOut_108 : decode cX13_isOut 108 = .ok (.iaload, 1) := zo_46 (zi_at zh_dX13_isOut_96_96 12 rfl)
theorem dX13_isOut_109 : decode cX13_isOut 109 = .ok (.iload_n 3, 1) := zo_29 (zi_at zh_dX13_isOut_96_96 13 rfl)
theorem dX13_isOut_110 : decode cX13_isOut 110 = .ok (.if_icmp .gt 16, 3) := zo_163 (zi_at zh_dX13_isOut_96_96 14 rfl) (zi_at zh_dX13_isOut_96_96 15 rfl) (zi_at zh_dX13_isOut_110_112 0 rfl) rfl
theorem dX13_isOut_113 : decode cX13_isOut 113 = .ok (.aload_n 0, 1) := zo_42 (zi_at zh_dX13_isOut_110_112 1 rfl)
theorem dX13_isOut_114 : decode cX13_isOut 114 = .ok (.getfield 171, 3) := zo_180 (zi_at zh_dX13_isOut_110_112 2 rfl) (zi_at zh_dX13_isOut_110_112 3 rfl) (zi_at zh_dX13_isOut_110_112 4 rfl) rfl
theorem dX13_isOut_117 : decode cX13_isOut 117 = .ok (.iload 6, 2) := zo_21 (zi_at zh_dX13_isOut_110_112 5 rfl) (zi_at zh_dX13_isOut_110_112 6 rfl)
theorem dX13_isOut_119 : decode cX13_isOut 119 = .ok (.iaload, 1) := zo_46 (zi_at zh_dX13_isOut_110_112 7 rfl)
theorem dX13_isOut_120 : decode cX13_isOut 120 = .ok (.iload_n 3, 1) := zo_29 (zi_at zh_dX13_isOut_110_112 8 rfl)
theorem dX13_isOut_121 : decode cX13_isOut 121 = .ok (.if_icmp .le 5, 3) := zo_164 (zi_at zh_dX13_isOut_110_112 9 rfl) (zi_at zh_dX13_isOut_110_112 10 rfl) (zi_at zh_dX13_isOut_110_112 11 rfl) rfl
theorem dX13_isOut_124 : decode cX13_isOut 124 = .ok (.iconst 1, 1) := zo_4 (zi_at zh_dX13_isOut_110_112 12 rfl)
theorem dX13_isOut_125 : decode cX13_isOut 125 = .ok (.ireturn, 1) := zo_172 (zi_at zh_dX13_isOut_110_112 13 rfl)
theorem dX13_isOut_126 : decode cX13_isOut 126 = .ok (.iinc 6 1, 3) := zo_132 (zi_at zh_dX13_isOut_110_112 14 rfl) (zi_at zh_dX13_isOut_110_112 15 rfl) (zi_at zh_dX13_isOut_126_128 0 rfl) rfl
theorem dX13_isOut_129 : decode cX13_isOut 129 = .ok (.goto (-57), 3) := zo_167 (zi_at zh_dX13_isOut_126_128 1 rfl) (zi_at zh_dX13_isOut_126_128 2 rfl) (zi_at zh_dX13_isOut_126_128 3 rfl) rfl
theorem dX13_isOut_132 : decode cX13_isOut 132 = .ok (.iinc 4 1, 3) := zo_132 (zi_at zh_dX13_isOut_126_128 4 rfl) (zi_at zh_dX13_isOut_126_128 5 rfl) (zi_at zh_dX13_isOut_126_128 6 rfl) rfl
theorem dX13_isOut_135 : decode cX13_isOut 135 = .ok (.goto (-132), 3) := zo_167 (zi_at zh_dX13_isOut_126_128 7 rfl) (zi_at zh_dX13_isOut_126_128 8 rfl) (zi_at zh_dX13_isOut_126_128 9 rfl) rfl
theorem dX13_isOut_138 : decode cX13_isOut 138 = .ok (.iconst 0, 1) := zo_3 (zi_at zh_dX13_isOut_126_128 10 rfl)
theorem dX13_isOut_139 : decode cX13_isOut 139 = .ok (.ireturn, 1) := zo_172 (zi_at zh_dX13_isOut_126_128 11 rfl)
theorem dX13_count_0 : decode cX13_count 0 = .ok (.aload_n 0, 1) := zo_42 (zi_at zh_dX13_count_0_0 0 rfl)
theorem dX13_count_1 : decode cX13_count 1 = .ok (.iconst 0, 1) := zo_3 (zi_at zh_dX13_count_0_0 1 rfl)
theorem dX13_count_2 : decode cX13_count 2 = .ok (.putfield 228, 3) := zo_181 (zi_at zh_dX13_count_0_0 2 rfl) (zi_at zh_dX13_count_0_0 3 rfl) (zi_at zh_dX13_count_0_0 4 rfl) rfl
theorem dX13_count_5 : decode cX13_count 5 = .ok (.iload_n 1, 1) := zo_27 (zi_at zh_dX13_count_0_0 5 rfl)
theorem dX13_count_6 : decode cX13_count 6 = .ok (.tableswitch 168 0 10 #[58, 63, 68, 73, 78, 83, 88, 93, 98, 103, 108], 58) := by decide +kernel
theorem dX13_count_64 : decode cX13_count 64 = .ok (.aload_n 0, 1) := zo_42 (zi_at zh_dX13_count_64_64 0 rfl)
theorem dX13_count_65 : decode cX13_count 65 = .ok (.getfield 232, 3) := zo_180 (zi_at zh_dX13_count_64_64 1 rfl) (zi_at zh_dX13_count_64_64 2 rfl) (zi_at zh_dX13_count_64_64 3 rfl) rfl
theorem dX13_count_68 : decode cX13_count 68 = .ok (.ireturn, 1) := zo_172 (zi_at zh_dX13_count_64_64 4 rfl)
theorem dX13_count_69 : decode cX13_count 69 = .ok (.aload_n 0, 1) := zo_42 (zi_at zh_dX13_count_64_64 5 rfl)
theorem dX13_count_70 : decode cX13_count 70 = .ok (.getfield 239, 3) := zo_180 (zi_at zh_dX13_count_64_64 6 rfl) (zi_at zh_dX13_count_64_64 7 rfl) (zi_at zh_dX13_count_64_64 8 rfl) rfl
theorem dX13_count_73 : decode cX13_count 73 = .ok (.ireturn, 1) := zo_172 (zi_at zh_dX13_count_64_64 9 rfl)
theorem dX13_count_74 : decode cX13_count 74 = .ok (.aload_n 0, 1) := zo_42 (zi_at zh_dX13_count_64_64 10 rfl)
theorem dX13_count_75 : decode cX13_count 75 = .ok (.getfield 242, 3) := zo_180 (zi_at zh_dX13_count_64_64 11 rfl) (zi_at zh_dX13_count_64_64 12 rfl) (zi_at zh_dX13_count_64_64 13 rfl) rfl
theorem dX13_count_78 : decode cX13_count 78 = .ok (.ireturn, 1) := zo_172 (zi_at zh_dX13_count_64_64 14 rfl)
theorem dX13_count_79 : decode cX13_count 79 = .ok (.aload_n 0, 1) := zo_42 (zi_at zh_dX13_count_64_64 15 rfl)
theorem dX13_count_80 : decode cX13_count 80 = .ok (.getfield 370, 3) := zo_180 (zi_at zh_dX13_count_80_80 0 rfl) (zi_at zh_dX13_count_80_80 1 rfl) (zi_at zh_dX13_count_80_80 2 rfl) rfl
theorem dX13_count_83 : decode cX13_count 83 = .ok (.ireturn, 1) := zo_172 (zi_at zh_dX13_count_80_80 3 rfl)
theorem dX13_count_84 : decode cX13_count 84 = .ok (.aload_n 0, 1) := zo_42 (zi_at zh_dX13_count_80_80 4 rfl)
theorem dX13_count_85 : decode cX13_count 85 = .ok (.getfield 390, 3) := zo_180 (zi_at zh_dX13_count_80_80 5 rfl) (zi_at zh_dX13_count_80_80 6 rfl) (zi_at zh_dX13_count_80_80 7 rfl) rfl
theorem dX13_count_88 : decode cX13_count 88 = .ok (.ireturn, 1) := zo_172 (zi_at zh_dX13_count_80_80 8 rfl)
theorem dX13_count_89 : decode cX13_count 89 = .ok (.aload_n 0, 1) := zo_42 (zi_at zh_dX13_count_80_80 9 rfl)
theorem dX13_count_90 : decode cX13_count 90 = .ok (.getfield 399, 3) := zo_180 (zi_at zh_dX13_count_80_80 10 rfl) (zi_at zh_dX13_count_80_80 11 rfl) (zi_at zh_dX13_count_80_80 12 rfl) rfl
theorem dX13_count_93 : decode cX13_count 93 = .ok (.ireturn, 1) := zo_172 (zi_at zh_dX13_count_80_80 13 rfl)
theorem dX13_count_94 : decode cX13_count 94 = .ok (.aload_n 0, 1) := zo_42 (zi_at zh_dX13_count_80_80 14 rfl)
theorem dX13_count_95 : decode cX13_count 95 = .ok (.getfield 460, 3) := zo_180 (zi_at zh_dX13_count_80_80 15 rfl) (zi_at zh_dX13_count_95_96 0 rfl) (zi_at zh_dX13_count_95_96 1 rfl) rfl
theorem dX13_count_98 : decode cX13_count 98 = .ok (.ireturn, 1) := zo_172 (zi_at zh_dX13_count_95_96 2 rfl)
theorem dX13_count_99 : decode cX13_count 99 = .ok (.aload_n 0, 1) := zo_42 (zi_at zh_dX13_count_95_96 3 rfl)
theorem dX13_count_100 : decode cX13_count 100 = .ok (.getfield 464, 3) := zo_180 (zi_at zh_dX13_count_95_96 4 rfl) (zi_at zh_dX13_count_95_96 5 rfl) (zi_at zh_dX13_count_95_96 6 rfl) rfl
theorem dX13_count_103 : decode cX13_count 103 = .ok (.ireturn, 1) := zo_172 (zi_at zh_dX13_count_95_96 7 rfl)
theorem dX13_count_104 : decode cX13_count 104 = .ok (.aload_n 0, 1) := zo_42 (zi_at zh_dX13_count_95_96 8 rfl)
theorem dX13_count_105 : decode cX13_count 105 = .ok (.getfield 259, 3) := zo_180 (zi_at zh_dX13_count_95_96 9 rfl) (zi_at zh_dX13_count_95_96 10 rfl) (zi_at zh_dX13_count_95_96 11 rfl) rfl
theorem dX13_count_108 : decode cX13_count 108 = .ok (.ireturn, 1) := zo_172 (zi_at zh_dX13_count_95_96 12 rfl)
theorem dX13_count_109 : decode cX13_count 109 = .ok (.aload_n 0, 1) := zo_42 (zi_at zh_dX13_count_95_96 13 rfl)
theorem dX13_count_110 : decode cX13_count 110 = .ok (.getfield 435, 3) := zo_180 (zi_at zh_dX13_count_95_96 14 rfl) (zi_at zh_dX13_count_95_96 15 rfl) (zi_at zh_dX13_count_110_112 0 rfl) rfl
theorem dX13_count_113 : decode cX13_count 113 = .ok (.ireturn, 1) := zo_172 (zi_at zh_dX13_count_110_112 1 rfl)
theorem dX13_count_114 : decode cX13_count 114 = .ok (.iconst 0, 1) := zo_3 (zi_at zh_dX13_count_110_112 2 rfl)
theorem dX13_count_115 : decode cX13_count 115 = .ok (.istore_n 2, 1) := zo_61 (zi_at zh_dX13_count_110_112 3 rfl)
theorem dX13_count_116 : decode cX13_count 116 = .ok (.iconst 0, 1) := zo_3 (zi_at zh_dX13_count_110_112 4 rfl)
theorem dX13_count_117 : decode cX13_count 117 = .ok (.istore_n 3, 1) := zo_62 (zi_at zh_dX13_count_110_112 5 rfl)
theorem dX13_count_118 : decode cX13_count 118 = .ok (.iload_n 3, 1) := zo_29 (zi_at zh_dX13_count_110_112 6 rfl)
theorem dX13_count_119 : decode cX13_count 119 = .ok (.aload_n 0, 1) := zo_42 (zi_at zh_dX13_count_110_112 7 rfl)
theorem dX13_count_120 : decode cX13_count 120 = .ok (.getfield 390, 3) := zo_180 (zi_at zh_dX13_count_110_112 8 rfl) (zi_at zh_dX13_count_110_112 9 rfl) (zi_at zh_dX13_count_110_112 10 rfl) rfl
theorem dX13_count_123 : decode cX13_count 123 = .ok (.if_icmp .ge 49, 3) := zo_162 (zi_at zh_dX13_count_110_112 11 rfl) (zi_at zh_dX13_count_110_112 12 rfl) (zi_at zh_dX13_count_110_112 13 rfl) rfl
theorem dX13_count_126 : decode cX13_count 126 = .ok (.iconst 0, 1) := zo_3 (zi_at zh_dX13_count_110_112 14 rfl)
theorem dX13_count_127 : decode cX13_count 127 = .ok (.istore 4, 2) := zo_54 (zi_at zh_dX13_count_110_112 15 rfl) (zi_at zh_dX13_count_127_128 0 rfl)
theorem dX13_count_129 : decode cX13_count 129 = .ok (.iload 4, 2) := zo_21 (zi_at zh_dX13_count_127_128 1 rfl) (zi_at zh_dX13_count_127_128 2 rfl)
theorem dX13_count_131 : decode cX13_count 131 = .ok (.aload_n 0, 1) := zo_42 (zi_at zh_dX13_count_127_128 3 rfl)
theorem dX13_count_132 : decode cX13_count 132 = .ok (.getfield 239, 3) := zo_180 (zi_at zh_dX13_count_127_128 4 rfl) (zi_at zh_dX13_count_127_128 5 rfl) (zi_at zh_dX13_count_127_128 6 rfl) rfl
theorem dX13_count_135 : decode cX13_count 135 = .ok (.if_icmp .ge 31, 3) := zo_162 (zi_at zh_dX13_count_127_128 7 rfl) (zi_at zh_dX13_count_127_128 8 rfl) (zi_at zh_dX13_count_127_128 9 rfl) rfl
theorem dX13_count_138 : decode cX13_count 138 = .ok (.iload_n 2, 1) := zo_28 (zi_at zh_dX13_count_127_128 10 rfl)
theorem dX13_count_139 : decode cX13_count 139 = .ok (.aload_n 0, 1) := zo_42 (zi_at zh_dX13_count_127_128 11 rfl)
theorem dX13_count_140 : decode cX13_count 140 = .ok (.iload_n 3, 1) := zo_29 (zi_at zh_dX13_count_127_128 12 rfl)
theorem dX13_count_141 : decode cX13_count 141 = .ok (.iload 4, 2) := zo_21 (zi_at zh_dX13_count_127_128 13 rfl) (zi_at zh_dX13_count_127_128 14 rfl)
theorem dX13_count_143 : decode cX13_count 143 = .ok (.aload_n 0, 1) := zo_42 (zi_at zh_dX13_count_127_128 15 rfl)
theorem dX13_count_144 : decode cX13_count 144 = .ok (.getfield 232, 3) := zo_180 (zi_at zh_dX13_count_144_144 0 rfl) (zi_at zh_dX13_count_144_144 1 rfl) (zi_at zh_dX13_count_144_144 2 rfl) rfl
theorem dX13_count_147 : decode cX13_count 147 = .ok (.invokevirtual 407, 3) := zo_182 (zi_at zh_dX13_count_144_144 3 rfl) (zi_at zh_dX13_count_144_144 4 rfl) (zi_at zh_dX13_count_144_144 5 rfl) rfl
theorem dX13_count_150 : decode cX13_count 150 = .ok (.ifCond .eq 7, 3) := zo_153 (zi_at zh_dX13_count_144_144 6 rfl) (zi_at zh_dX13_count_144_144 7 rfl) (zi_at zh_dX13_count_144_144 8 rfl) rfl
theorem dX13_count_153 : decode cX13_count 153 = .ok (.iconst 1, 1) := zo_4 (zi_at zh_dX13_count_144_144 9 rfl)
theorem dX13_count_154 : decode cX13_count 154 = .ok (.goto 4, 3) := zo_167 (zi_at zh_dX13_count_144_144 10 rfl) (zi_at zh_dX13_count_144_144 11 rfl) (zi_at zh_dX13_count_144_144 12 rfl) rfl
theorem dX13_count_157 : decode cX13_count 157 = .ok (.iconst 0, 1) := zo_3 (zi_at zh_dX13_count_144_144 13 rfl)
theorem dX13_count_158 : decode cX13_count 158 = .ok (.iadd, 1) := zo_96 (zi_at zh_dX13_count_144_144 14 rfl)
theorem dX13_count_159 : decode cX13_count 159 = .ok (.istore_n 2, 1) := zo_61 (zi_at zh_dX13_count_144_144 15 rfl)
theorem dX13_count_160 : decode cX13_count 160 = .ok (.iinc 4 1, 3) := zo_132 (zi_at zh_dX13_count_160_160 0 rfl) (zi_at zh_dX13_count_160_160 1 rfl) (zi_at zh_dX13_count_160_160 2 rfl) rfl
theorem dX13_count_163 : decode cX13_count 163 = .ok (.goto (-34), 3) := zo_167 (zi_at zh_dX13_count_160_160 3 rfl) (zi_at zh_dX13_count_160_160 4 rfl) (zi_at zh_dX13_count_160_160 5 rfl) rfl
theorem dX13_count_166 : decode cX13_count 166 = .ok (.iinc 3 1, 3) := zo_132 (zi_at zh_dX13_count_160_160 6 rfl) (zi_at zh_dX13_count_160_160 7 rfl) (zi_at zh_dX13_count_160_160 8 rfl) rfl
theorem dX13_count_169 : decode cX13_count 169 = .ok (.goto (-51), 3) := zo_167 (zi_at zh_dX13_count_160_160 9 rfl) (zi_at zh_dX13_count_160_160 10 rfl) (zi_at zh_dX13_count_160_160 11 rfl) rfl
theorem dX13_count_172 : decode cX13_count 172 = .ok (.iload_n 2, 1) := zo_28 (zi_at zh_dX13_count_160_160 12 rfl)
theorem dX13_count_173 : decode cX13_count 173 = .ok (.ireturn, 1) := zo_172 (zi_at zh_dX13_count_160_160 13 rfl)
theorem dX13_count_174 : decode cX13_count 174 = .ok (.iconst (-1), 1) := zo_2 (zi_at zh_dX13_count_160_160 14 rfl)
theorem dX13_count_175 : decode cX13_count 175 = .ok (.ireturn, 1) := zo_172 (zi_at zh_dX13_count_160_160 15 rfl)
theorem hz_yX13_isOut_3 : yX13_isOut.cls ≠ "java/lang/invoke/MethodHandle" ∧ yX13_isOut.cls ≠ "java/lang/invoke/VarHandle" ∧ (parseMethodDescriptor yX13_isOut.desc).map (fun d => d.parameters.length) = some 3 := by decide +kernel
theorem hz_yX13_resultOf_3 : yX13_resultOf.cls ≠ "java/lang/invoke/MethodHandle" ∧ yX13_resultOf.cls ≠ "java/lang/invoke/VarHandle" ∧ (parseMethodDescriptor yX13_resultOf.desc).map (fun d => d.parameters.length) = some 3 := by decide +kernel
theorem hz_yX13_asksEntry_3 : yX13_asksEntry.cls ≠ "java/lang/invoke/MethodHandle" ∧ yX13_asksEntry.cls ≠ "java/lang/invoke/VarHandle" ∧ (parseMethodDescriptor yX13_asksEntry.desc).map (fun d => d.parameters.length) = some 3 := by decide +kernel
theorem hz_yX13_codeOf_3 : yX13_codeOf.cls ≠ "java/lang/invoke/MethodHandle" ∧ yX13_codeOf.cls ≠ "java/lang/invoke/VarHandle" ∧ (parseMethodDescriptor yX13_codeOf.desc).map (fun d => d.parameters.length) = some 3 := by decide +kernel

def v_isOutM : List Cond := .code yX13_isOut cX13_isOut 7 (some .boolean) :: vA
abbrev rm_isOutM : Room := { frames := 0, cells := 0, slots := 0, locals := 0 }
set_option maxHeartbeats 4000000 in
set_option maxRecDepth 100000 in
theorem q_isOutM (l : Launch) (dC : Nat → ClassId) (dI : Nat → Nat → Nat) (cT : Nat → ClassId) (ad : Nat → Nat) (E : Nat → va_E) (sz : Nat) (a0 : Int32) (a1 : Int32) (a2 : Int32) (hI0 : IX cT shM spM 72 ad E)  : Met l yX13_isOut v_isOutM rm_isOutM (va_Pc [.ref (ad 0), .int a0, .int a1, .int a2] (HW dC dI (TYM cT) 72 ad E sz)) (va_Qi (S := Unit) (fun r _ => (r = 1 ∧ (OutMx E a0.toInt a1.toInt a2.toInt)) ∨ (r = 0 ∧ (¬ OutMx E a0.toInt a1.toInt a2.toInt))) (fun _ _ => True) (fun _ => False)) 0 0 (fun _ => False) := by
  refine Met.ofW (cc := cX13_isOut) (maxL := 7) (ret := (some .boolean)) (by decide) rfl ?_
  intro p e s m args below meth c s₁ B hml hv
  obtain ⟨hargs, hsz, hP, hK, hD0, hEV⟩ := hv
  subst hsz
  have hx := B.exec
  have hb := B.bytes
  have hr := B.returns
  have hts := atoms_spec (ws := v_isOutM) B.pre
  have hown : s.vm.findClass RX13 = some m.cls := findClass_of_methodNamed B.named
  have hlocks := B.notSynchronized
  have hinX13 : ∀ w ∈ u_ws RX13 TX13 97, w ∈ v_isOutM := fun w h => vA_in _ w (in_X13 w h)
  have hS : va_S (fun _ : Nat => False) s.heap s.heap [] := va_S.rf
  have hD := hD0
  have hI := hI0
  have hKp : Kp (wl [] []) E E := Kp.rf
  have hl := lv_entry ([.ref (ad 0), .int a0, .int a1, .int a2]) (n := 7) (Nat.le_of_ble_eq_true rfl)
  obtain ⟨Q, hQ⟩ : ∃ Q, Q = MQ below (va_Qi (S := Unit) (fun r _ => (r = 1 ∧ (OutMx E a0.toInt a1.toInt a2.toInt)) ∨ (r = 0 ∧ (¬ OutMx E a0.toInt a1.toInt a2.toInt))) (fun _ _ => True) (fun _ => False)) args s 0 0 (fun _ => False) := ⟨_, rfl⟩
  rw [← hQ, show entryFrame m args 7 = _ from (congrArg (fun z => entryFrame m z 7) hargs).trans (lg_entry_eq _ _ _)]
  generalize (lg_sl ([.ref (ad 0), .int a0, .int a1, .int a2]) ++ List.replicate (7 - (lg_sl ([.ref (ad 0), .int a0, .int a1, .int a2])).length) Slot.unset).toArray = ls at hl ⊢
  have hl : lv_has ls 7 [(0, .ref (ad 0)), (1, .int a0), (2, .int a1), (3, .int a2)] := hl
  have z0z : (0 : Int32).toInt = 0 := rfl
  have ipm : 0 ≤ (xi (E 0) 75).toInt ∧ (xi (E 0) 75).toInt ≤ 30 := hI0.iv 0 (Nat.le_of_ble_eq_true rfl) rfl (Nat.le_of_ble_eq_true rfl) rfl
  have z1 := ln_1
  have z2 := ln_2
  refine lv_iconst (v := 0) hx hb dX13_isOut_0 (by decide) ?_
  refine lv_istore (lv' := [(4, .int 0), (0, .ref (ad 0)), (1, .int a0), (2, .int a1), (3, .int a2)]) hx hb dX13_isOut_1 hl (by decide) rfl (fun ls hl => ?_)
  have hL3 : ∀ d : Nat, ∀ (v3_4 : Int32) (H : Heap) (locs : List Loc) (ls : Array Slot), 0 ≤ v3_4.toInt ∧ v3_4.toInt ≤ 30 → (∀ p9 : Nat, p9 < v3_4.toNatClampNeg → ¬ outM E a0.toInt a2.toInt a1.toInt p9) → v3_4.toInt ≤ (xi (E 0) 75).toInt → 30 - v3_4.toInt < (d : Int) → va_P (dC, dI) vwCl (WX 72 ad E) H → va_S (fun _ : Nat => False) s.heap H locs → lv_has ls 7 [(4, .int v3_4), (0, .ref (ad 0)), (1, .int a0), (2, .int a1), (3, .int a2)] → W p l e (headSpec v_isOutM rm_isOutM).room s m args below meth c H locs 0 0 Q (F0 m 3 ls []) := by
    intro d
    induction d with
    | zero =>
      intro v3_4 H locs ls hv3_4 hx3_0 hx3_1 hx3_2 hP hS hl
      exact absurd hx3_2 (by first | exact ms_zu hv3_4.2 | omega)
    | succ d ih3 =>
      intro v3_4 H locs ls hv3_4 hx3_0 hx3_1 hx3_2 hP hS hl
      refine lv_iload hx hb dX13_isOut_3 (lv_at hl 0 rfl) ?_
      refine lv_aload_n hx hb dX13_isOut_5 rfl (lv_at hl 1 rfl) ?_
      have i1 : 0 ≤ (xi (E 0) 75).toInt ∧ (xi (E 0) 75).toInt ≤ 30 := hI0.iv 0 (Nat.le_of_ble_eq_true rfl) rfl (Nat.le_of_ble_eq_true rfl) rfl
      refine th_get (ci := 14) (C := RX13) (T := TX13) (N := 97) (v := .int (xi (E 0) 75)) hx hb hts hinX13 hown hK hP hI 0 (Nat.le_of_ble_eq_true rfl) rfl rfl 75 (Nat.le_of_ble_eq_true rfl) (hts _ (vA_in _ _ (in_25 _ (zs1 (zs0))))) (fun _ h9 => h9) (th_v0 hKp hI0 0 (Nat.le_of_ble_eq_true rfl) rfl (Nat.le_of_ble_eq_true rfl) rfl rfl) dX13_isOut_6 ?_
      refine lv_icmp_ge (tgt := 138) hx hb dX13_isOut_9 (by decide) (fun c2 => ?_) (fun c2 => ?_)
      · --9 taken
        have t3 : (xi (E 0) 75).toInt ≤ v3_4.toInt := ti_le c2
        refine lv_iconst (v := 0) hx hb dX13_isOut_138 (by decide) ?_
        rw [hQ]
        exact W.zret (v := 0) hx hb hr rfl (fun t ht hW => ⟨⟨0, (), rfl, Or.inr (⟨rfl, (fun q9 => by obtain ⟨p9, h9, g9⟩ := q9; exact hx3_0 p9 (by rw [tn_] at h9 ⊢; omega) g9)⟩), trivial⟩, hS.F ht⟩) hS.2.2 dX13_isOut_139
      · --9 not
        have t4 : v3_4.toInt < (xi (E 0) 75).toInt := ti_nle c2
        have i5 : 0 ≤ v3_4.toInt ∧ v3_4.toInt ≤ 29 := iv_lt_l t4 hv3_4 i1 (by decide)
        have i6 : 1 ≤ (xi (E 0) 75).toInt ∧ (xi (E 0) 75).toInt ≤ 30 := iv_lt_r t4 hv3_4 i1 (by decide)
        refine lv_aload_n hx hb dX13_isOut_12 rfl (lv_at hl 1 rfl) ?_
        refine th_get (ci := 14) (C := RX13) (T := TX13) (N := 97) (v := .ref (ad 46)) hx hb hts hinX13 hown hK hP hI 0 (Nat.le_of_ble_eq_true rfl) rfl rfl 64 (Nat.le_of_ble_eq_true rfl) (hts _ (vA_in _ _ (in_25 _ (zs1 (zs1 (zs1 (zs0))))))) (fun _ h9 => h9) (hI.fr 0 (Nat.le_of_ble_eq_true rfl) rfl (Nat.le_of_ble_eq_true rfl) 46 rfl) dX13_isOut_13 ?_
        refine lv_iload hx hb dX13_isOut_16 (lv_at hl 0 rfl) ?_
        have n8 : vp_in v3_4 30 := (iv_in (n := 30) i5 (by decide))
        refine th_iald hx hb hK hP hI 46 (Nat.le_of_ble_eq_true rfl) rfl rfl n8 dX13_isOut_18 (fun y7 ey7 => ?_)
        have iy7 : 0 ≤ y7.toInt ∧ y7.toInt ≤ 19 := hI.el 46 (Nat.le_of_ble_eq_true rfl) rfl n8 (fun _ => rfl) ey7
        have ey7 := ey7.trans (hKp.ei 46 _ rfl)
        refine lv_iload_n hx hb dX13_isOut_19 rfl (lv_at hl 2 rfl) ?_
        refine lv_icmp_ne (tgt := 132) hx hb dX13_isOut_20 (by decide) (fun c9 => ?_) (fun c9 => ?_)
        · --20 taken
          have t10 : ¬ y7.toInt = a0.toInt := ti_ne c9
          obtain ⟨y11, ey11⟩ : ∃ y : Int32, y = v3_4 + (1 : Int32) := ⟨_, rfl⟩
          obtain ⟨ty11, iy11⟩ := ti_add (e := 1) (f := 30) i5 ln_1 ey11 (by decide)
          have ty11 : y11.toInt = v3_4.toInt + 1 := ty11
          have iy11 : 1 ≤ y11.toInt ∧ y11.toInt ≤ 30 := iy11
          refine lv_iinc (v := y11) (lv' := [(4, .int y11), (0, .ref (ad 0)), (1, .int a0), (2, .int a1), (3, .int a2)]) hx hb dX13_isOut_132 hl (k := 0) rfl (by rw [ey11]; rfl) (by decide) rfl (fun ls hl => ?_)
          refine lv_goto (tgt := 3) hx hb dX13_isOut_135 (by decide) ?_
          exact ih3 y11 _ _ _ (iv_w iy11 (by decide)) (fun p9 h9 => dite (p9 = v3_4.toNatClampNeg) (fun q9 => by subst q9; exact (fun q9 => by have g0 : (xi (E 46) v3_4.toNatClampNeg).toInt = a0.toInt := q9.1; have gy7 := congrArg Int32.toInt ey7; omega)) (fun q9 => hx3_0 p9 (by rw [tn_] at h9 q9 ⊢; omega))) (by omega) (by first | exact ms_su hx3_2 ty11 (by decide) | omega) hP hS (lv_sub hl [0, 1, 2, 3, 4] rfl)
        · --20 not
          have t12 : y7.toInt = a0.toInt := ti_eq c9
          have i13 : 0 ≤ a0.toInt ∧ a0.toInt ≤ 19 := iv_eqi t12.symm (iv_all _) iy7 (by decide)
          refine lv_aload_n hx hb dX13_isOut_23 rfl (lv_at hl 1 rfl) ?_
          refine th_get (ci := 14) (C := RX13) (T := TX13) (N := 97) (v := .ref (ad 47)) hx hb hts hinX13 hown hK hP hI 0 (Nat.le_of_ble_eq_true rfl) rfl rfl 65 (Nat.le_of_ble_eq_true rfl) (hts _ (vA_in _ _ (in_25 _ (zs4 (zs0))))) (fun _ h9 => h9) (hI.fr 0 (Nat.le_of_ble_eq_true rfl) rfl (Nat.le_of_ble_eq_true rfl) 47 rfl) dX13_isOut_24 ?_
          refine lv_iload hx hb dX13_isOut_27 (lv_at hl 0 rfl) ?_
          have n15 : vp_in v3_4 30 := (iv_in (n := 30) i5 (by decide))
          refine th_iald hx hb hK hP hI 47 (Nat.le_of_ble_eq_true rfl) rfl rfl n15 dX13_isOut_29 (fun y14 ey14 => ?_)
          have iy14 : 0 ≤ y14.toInt ∧ y14.toInt ≤ 15 := hI.el 47 (Nat.le_of_ble_eq_true rfl) rfl n15 (fun _ => rfl) ey14
          have ey14 := ey14.trans (hKp.ei 47 _ rfl)
          refine lv_iload_n hx hb dX13_isOut_30 rfl (lv_at hl 3 rfl) ?_
          refine lv_icmp_eq (tgt := 48) hx hb dX13_isOut_31 (by decide) (fun c16 => ?_) (fun c16 => ?_)
          · --31 taken
            have t17 : y14.toInt = a1.toInt := ti_eq c16
            have i18 : 0 ≤ a1.toInt ∧ a1.toInt ≤ 15 := iv_eqi t17.symm (iv_all _) iy14 (by decide)
            refine lv_aload_n hx hb dX13_isOut_48 rfl (lv_at hl 1 rfl) ?_
            refine th_get (ci := 14) (C := RX13) (T := TX13) (N := 97) (v := .ref (ad 47)) hx hb hts hinX13 hown hK hP hI 0 (Nat.le_of_ble_eq_true rfl) rfl rfl 65 (Nat.le_of_ble_eq_true rfl) (hts _ (vA_in _ _ (in_25 _ (zs4 (zs0))))) (fun _ h9 => h9) (hI.fr 0 (Nat.le_of_ble_eq_true rfl) rfl (Nat.le_of_ble_eq_true rfl) 47 rfl) dX13_isOut_49 ?_
            refine lv_iload hx hb dX13_isOut_52 (lv_at hl 0 rfl) ?_
            have n20 : vp_in v3_4 30 := (iv_in (n := 30) i5 (by decide))
            refine th_iald hx hb hK hP hI 47 (Nat.le_of_ble_eq_true rfl) rfl rfl n20 dX13_isOut_54 (fun y19 ey19 => ?_)
            have iy19 : 0 ≤ y19.toInt ∧ y19.toInt ≤ 15 := hI.el 47 (Nat.le_of_ble_eq_true rfl) rfl n20 (fun _ => rfl) ey19
            have ey19 := ey19.trans (hKp.ei 47 _ rfl)
            refine lv_iload_n hx hb dX13_isOut_55 rfl (lv_at hl 3 rfl) ?_
            refine lv_icmp_ne (tgt := 63) hx hb dX13_isOut_56 (by decide) (fun c21 => ?_) (fun c21 => ?_)
            · --56 taken
              have t22 : ¬ y19.toInt = a1.toInt := ti_ne c21
              refine lv_iconst (v := 2) hx hb dX13_isOut_63 (by decide) ?_
              refine lv_istore (lv' := [(5, .int 2), (4, .int v3_4), (0, .ref (ad 0)), (1, .int a0), (2, .int a1), (3, .int a2)]) hx hb dX13_isOut_64 hl (by decide) rfl (fun ls hl => ?_)
              refine lv_iconst (v := 2) hx hb dX13_isOut_66 (by decide) ?_
              refine lv_iload hx hb dX13_isOut_67 (lv_at hl 1 rfl) ?_
              refine lv_imul hx hb dX13_isOut_69 ?_
              refine lv_topi (fun y23 ey23 => ?_)
              obtain ⟨ty23, iy23⟩ := ti_mul (e := 0) (f := 58) ln_2 i5 ey23 (by decide)
              have ty23 : y23.toInt = 2 * v3_4.toInt := ty23
              have iy23 : 0 ≤ y23.toInt ∧ y23.toInt ≤ 58 := iy23
              refine lv_istore (lv' := [(6, .int y23), (5, .int 2), (4, .int v3_4), (0, .ref (ad 0)), (1, .int a0), (2, .int a1), (3, .int a2)]) hx hb dX13_isOut_70 hl (by decide) rfl (fun ls hl => ?_)
              have hL72 : ∀ d : Nat, ∀ (v72_6 : Int32) (H : Heap) (locs : List Loc) (ls : Array Slot), 0 ≤ v72_6.toInt ∧ v72_6.toInt ≤ 60 → (∀ k9 : Nat, 2 * v3_4.toNatClampNeg ≤ k9 → k9 < v72_6.toNatClampNeg → ¬ kM E 2 a2.toInt k9) → 2 * v3_4.toInt ≤ v72_6.toInt → v72_6.toInt ≤ 2 * v3_4.toInt + 2 → 60 - v72_6.toInt < (d : Int) → va_P (dC, dI) vwCl (WX 72 ad E) H → va_S (fun _ : Nat => False) s.heap H locs → lv_has ls 7 [(6, .int v72_6), (5, .int 2), (4, .int v3_4), (0, .ref (ad 0)), (1, .int a0), (2, .int a1), (3, .int a2)] → W p l e (headSpec v_isOutM rm_isOutM).room s m args below meth c H locs 0 0 Q (F0 m 72 ls []) := by
                intro d
                induction d with
                | zero =>
                  intro v72_6 H locs ls hv72_6 hx72_0 hx72_1 hx72_2 hx72_3 hP hS hl
                  exact absurd hx72_3 (by first | exact ms_zu hv72_6.2 | omega)
                | succ d ih72 =>
                  intro v72_6 H locs ls hv72_6 hx72_0 hx72_1 hx72_2 hx72_3 hP hS hl
                  refine lv_iload hx hb dX13_isOut_72 (lv_at hl 0 rfl) ?_
                  refine lv_iconst (v := 2) hx hb dX13_isOut_74 (by decide) ?_
                  refine lv_iload hx hb dX13_isOut_75 (lv_at hl 2 rfl) ?_
                  refine lv_imul hx hb dX13_isOut_77 ?_
                  refine lv_topi (fun y24 ey24 => ?_)
                  obtain ⟨ty24, iy24⟩ := ti_mul (e := 0) (f := 58) ln_2 i5 ey24 (by decide)
                  have ty24 : y24.toInt = 2 * v3_4.toInt := ty24
                  have iy24 : 0 ≤ y24.toInt ∧ y24.toInt ≤ 58 := iy24
                  refine lv_aload_n hx hb dX13_isOut_78 rfl (lv_at hl 3 rfl) ?_
                  refine th_get (ci := 14) (C := RX13) (T := TX13) (N := 97) (v := .ref (ad 54)) hx hb hts hinX13 hown hK hP hI 0 (Nat.le_of_ble_eq_true rfl) rfl rfl 72 (Nat.le_of_ble_eq_true rfl) (hts _ (vA_in _ _ (in_28 _ (zs4 (zs1 (zs0)))))) (fun _ h9 => h9) (hI.fr 0 (Nat.le_of_ble_eq_true rfl) rfl (Nat.le_of_ble_eq_true rfl) 54 rfl) dX13_isOut_79 ?_
                  refine lv_iload hx hb dX13_isOut_82 (lv_at hl 2 rfl) ?_
                  have n26 : vp_in v3_4 30 := (iv_in (n := 30) i5 (by decide))
                  refine th_iald hx hb hK hP hI 54 (Nat.le_of_ble_eq_true rfl) rfl rfl n26 dX13_isOut_84 (fun y25 ey25 => ?_)
                  have iy25 : 0 ≤ y25.toInt ∧ y25.toInt ≤ 2 := hI.el 54 (Nat.le_of_ble_eq_true rfl) rfl n26 (fun _ => rfl) ey25
                  have ey25 := ey25.trans (hKp.ei 54 _ rfl)
                  refine lv_iadd hx hb dX13_isOut_85 ?_
                  refine lv_topi (fun y27 ey27 => ?_)
                  obtain ⟨ty27, iy27⟩ := ti_add (e := 0) (f := 60) iy24 iy25 ey27 (by decide)
                  have ty27 : y27.toInt = y24.toInt + y25.toInt := ty27
                  have iy27 : 0 ≤ y27.toInt ∧ y27.toInt ≤ 60 := iy27
                  refine lv_icmp_ge (tgt := 132) hx hb dX13_isOut_86 (by decide) (fun c28 => ?_) (fun c28 => ?_)
                  · --86 taken
                    have t29 : y27.toInt ≤ v72_6.toInt := ti_le c28
                    obtain ⟨y30, ey30⟩ : ∃ y : Int32, y = v3_4 + (1 : Int32) := ⟨_, rfl⟩
                    obtain ⟨ty30, iy30⟩ := ti_add (e := 1) (f := 30) i5 ln_1 ey30 (by decide)
                    have ty30 : y30.toInt = v3_4.toInt + 1 := ty30
                    have iy30 : 1 ≤ y30.toInt ∧ y30.toInt ≤ 30 := iy30
                    refine lv_iinc (v := y30) (lv' := [(4, .int y30), (6, .int v72_6), (5, .int 2), (0, .ref (ad 0)), (1, .int a0), (2, .int a1), (3, .int a2)]) hx hb dX13_isOut_132 hl (k := 2) rfl (by rw [ey30]; rfl) (by decide) rfl (fun ls hl => ?_)
                    refine lv_goto (tgt := 3) hx hb dX13_isOut_135 (by decide) ?_
                    exact ih3 y30 _ _ _ (iv_w iy30 (by decide)) (fun p9 h9 => dite (p9 = v3_4.toNatClampNeg) (fun q9 => by subst q9; exact (outM_n (bit := 2) (show ((2 : Int) = 1 ∧ (xi (E 47) v3_4.toNatClampNeg).toInt = a1.toInt) ∨ ((2 : Int) = 2 ∧ ¬ (xi (E 47) v3_4.toNatClampNeg).toInt = a1.toInt ∧ (xi (E 48) v3_4.toNatClampNeg).toInt = a1.toInt) by have gy7 := congrArg Int32.toInt ey7; have gy14 := congrArg Int32.toInt ey14; have gy19 := congrArg Int32.toInt ey19; have gy25 := congrArg Int32.toInt ey25; omega) (fun k9 h9 g9 => hx72_0 k9 h9 (by have t3x : ((v3_4.toNatClampNeg : Nat) : Int) = v3_4.toInt := (by rw [tn_]; omega); have t7x : ((v72_6.toNatClampNeg : Nat) : Int) = v72_6.toInt := (by rw [tn_]; omega); have gy7 := congrArg Int32.toInt ey7; have gy14 := congrArg Int32.toInt ey14; have gy19 := congrArg Int32.toInt ey19; have gy25 := congrArg Int32.toInt ey25; omega)))) (fun q9 => hx3_0 p9 (by rw [tn_] at h9 q9 ⊢; omega))) (by omega) (by first | exact ms_su hx3_2 ty30 (by decide) | omega) hP hS (lv_sub hl [0, 3, 4, 5, 6] rfl)
                  · --86 not
                    have t31 : v72_6.toInt < y27.toInt := ti_nle c28
                    have i32 : 0 ≤ v72_6.toInt ∧ v72_6.toInt ≤ 59 := iv_lt_l t31 hv72_6 iy27 (by decide)
                    have i33 : 1 ≤ y27.toInt ∧ y27.toInt ≤ 60 := iv_lt_r t31 hv72_6 iy27 (by decide)
                    refine lv_aload_n hx hb dX13_isOut_89 rfl (lv_at hl 3 rfl) ?_
                    refine th_get (ci := 14) (C := RX13) (T := TX13) (N := 97) (v := .ref (ad 51)) hx hb hts hinX13 hown hK hP hI 0 (Nat.le_of_ble_eq_true rfl) rfl rfl 69 (Nat.le_of_ble_eq_true rfl) (hts _ (vA_in _ _ (in_28 _ (zs4 (zs1 (zs1 (zs0))))))) (fun _ h9 => h9) (hI.fr 0 (Nat.le_of_ble_eq_true rfl) rfl (Nat.le_of_ble_eq_true rfl) 51 rfl) dX13_isOut_90 ?_
                    refine lv_iload hx hb dX13_isOut_93 (lv_at hl 0 rfl) ?_
                    have n35 : vp_in v72_6 60 := (iv_in (n := 60) i32 (by decide))
                    refine th_iald hx hb hK hP hI 51 (Nat.le_of_ble_eq_true rfl) rfl rfl n35 dX13_isOut_95 (fun y34 ey34 => ?_)
                    have iy34 : 0 ≤ y34.toInt ∧ y34.toInt ≤ 3 := hI.el 51 (Nat.le_of_ble_eq_true rfl) rfl n35 (fun _ => rfl) ey34
                    have ey34 := ey34.trans (hKp.ei 51 _ rfl)
                    refine lv_iload hx hb dX13_isOut_96 (lv_at hl 1 rfl) ?_
                    refine lv_iand hx hb dX13_isOut_98 ?_
                    refine lv_topi (fun y36 ey36 => ?_)
                    have iy36 : 0 ≤ y36.toInt ∧ y36.toInt ≤ 2 := ti_and (by decide) ey36
                    refine lv_if_eq (tgt := 126) hx hb dX13_isOut_99 (by decide) (fun c37 => ?_) (fun c37 => ?_)
                    · --99 taken
                      have t38 : y36.toInt = 0 := ti_eq c37
                      have i39 : 0 ≤ y36.toInt ∧ y36.toInt ≤ 0 := iv_eqi t38 iy36 (il_ 0) (by decide)
                      obtain ⟨y40, ey40⟩ : ∃ y : Int32, y = v72_6 + (1 : Int32) := ⟨_, rfl⟩
                      obtain ⟨ty40, iy40⟩ := ti_add (e := 1) (f := 60) i32 ln_1 ey40 (by decide)
                      have ty40 : y40.toInt = v72_6.toInt + 1 := ty40
                      have iy40 : 1 ≤ y40.toInt ∧ y40.toInt ≤ 60 := iy40
                      refine lv_iinc (v := y40) (lv' := [(6, .int y40), (5, .int 2), (4, .int v3_4), (0, .ref (ad 0)), (1, .int a0), (2, .int a1), (3, .int a2)]) hx hb dX13_isOut_126 hl (k := 0) rfl (by rw [ey40]; rfl) (by decide) rfl (fun ls hl => ?_)
                      refine lv_goto (tgt := 72) hx hb dX13_isOut_129 (by decide) ?_
                      exact ih72 y40 _ _ _ (iv_w iy40 (by decide)) (fun k9 h9 g9 => dite (k9 = v72_6.toNatClampNeg) (fun q9 => by subst q9; exact (fun q9 => (hb2 (by omega) ey36).mp (by omega) (by rw [ey34]; exact q9.1))) (fun q9 => hx72_0 k9 h9 (by rw [tn_] at g9 q9 ⊢; omega))) (by omega) (by omega) (by first | exact ms_su hx72_3 ty40 (by decide) | omega) hP hS (lv_sub hl [0, 1, 2, 3, 4, 5, 6] rfl)
                    · --99 not
                      have t41 : ¬ y36.toInt = 0 := ti_ne c37
                      have i42 : 1 ≤ y36.toInt ∧ y36.toInt ≤ 2 := iv_ne_l t41 iy36 (il_ 0)
                      refine lv_aload_n hx hb dX13_isOut_102 rfl (lv_at hl 3 rfl) ?_
                      refine th_get (ci := 14) (C := RX13) (T := TX13) (N := 97) (v := .ref (ad 52)) hx hb hts hinX13 hown hK hP hI 0 (Nat.le_of_ble_eq_true rfl) rfl rfl 70 (Nat.le_of_ble_eq_true rfl) (hts _ (vA_in _ _ (in_28 _ (zs4 (zs1 (zs1 (zs1 (zs0)))))))) (fun _ h9 => h9) (hI.fr 0 (Nat.le_of_ble_eq_true rfl) rfl (Nat.le_of_ble_eq_true rfl) 52 rfl) dX13_isOut_103 ?_
                      refine lv_iload hx hb dX13_isOut_106 (lv_at hl 0 rfl) ?_
                      have n44 : vp_in v72_6 60 := (iv_in (n := 60) i32 (by decide))
                      refine th_iald hx hb hK hP hI 52 (Nat.le_of_ble_eq_true rfl) rfl rfl n44 dX13_isOut_108 (fun y43 ey43 => ?_)
                      have iy43 : 0 ≤ y43.toInt ∧ y43.toInt ≤ 400 := hI.el 52 (Nat.le_of_ble_eq_true rfl) rfl n44 (fun _ => rfl) ey43
                      have ey43 := ey43.trans (hKp.ei 52 _ rfl)
                      refine lv_iload_n hx hb dX13_isOut_109 rfl (lv_at hl 6 rfl) ?_
                      refine lv_icmp_gt (tgt := 126) hx hb dX13_isOut_110 (by decide) (fun c45 => ?_) (fun c45 => ?_)
                      · --110 taken
                        have t46 : a2.toInt < y43.toInt := ti_lt c45
                        have i47 : -2147483648 ≤ a2.toInt ∧ a2.toInt ≤ 399 := iv_lt_l t46 (iv_all _) iy43 (by decide)
                        obtain ⟨y48, ey48⟩ : ∃ y : Int32, y = v72_6 + (1 : Int32) := ⟨_, rfl⟩
                        obtain ⟨ty48, iy48⟩ := ti_add (e := 1) (f := 60) i32 ln_1 ey48 (by decide)
                        have ty48 : y48.toInt = v72_6.toInt + 1 := ty48
                        have iy48 : 1 ≤ y48.toInt ∧ y48.toInt ≤ 60 := iy48
                        refine lv_iinc (v := y48) (lv' := [(6, .int y48), (5, .int 2), (4, .int v3_4), (0, .ref (ad 0)), (1, .int a0), (2, .int a1), (3, .int a2)]) hx hb dX13_isOut_126 hl (k := 0) rfl (by rw [ey48]; rfl) (by decide) rfl (fun ls hl => ?_)
                        refine lv_goto (tgt := 72) hx hb dX13_isOut_129 (by decide) ?_
                        exact ih72 y48 _ _ _ (iv_w iy48 (by decide)) (fun k9 h9 g9 => dite (k9 = v72_6.toNatClampNeg) (fun q9 => by subst q9; exact (fun q9 => by have g0 : (xi (E 52) v72_6.toNatClampNeg).toInt ≤ a2.toInt := q9.2.1; have gy7 := congrArg Int32.toInt ey7; have gy14 := congrArg Int32.toInt ey14; have gy19 := congrArg Int32.toInt ey19; have gy25 := congrArg Int32.toInt ey25; have gy34 := congrArg Int32.toInt ey34; have gy43 := congrArg Int32.toInt ey43; omega)) (fun q9 => hx72_0 k9 h9 (by rw [tn_] at g9 q9 ⊢; omega))) (by omega) (by omega) (by first | exact ms_su hx72_3 ty48 (by decide) | omega) hP hS (lv_sub hl [0, 1, 2, 3, 4, 5, 6] rfl)
                      · --110 not
                        have t49 : y43.toInt ≤ a2.toInt := ti_nlt c45
                        have i50 : 0 ≤ a2.toInt ∧ a2.toInt ≤ 2147483647 := iv_le_r t49 iy43 (iv_all _) (by decide)
                        refine lv_aload_n hx hb dX13_isOut_113 rfl (lv_at hl 3 rfl) ?_
                        refine th_get (ci := 14) (C := RX13) (T := TX13) (N := 97) (v := .ref (ad 53)) hx hb hts hinX13 hown hK hP hI 0 (Nat.le_of_ble_eq_true rfl) rfl rfl 71 (Nat.le_of_ble_eq_true rfl) (hts _ (vA_in _ _ (in_28 _ (zs4 (zs4 (zs0)))))) (fun _ h9 => h9) (hI.fr 0 (Nat.le_of_ble_eq_true rfl) rfl (Nat.le_of_ble_eq_true rfl) 53 rfl) dX13_isOut_114 ?_
                        refine lv_iload hx hb dX13_isOut_117 (lv_at hl 0 rfl) ?_
                        have n52 : vp_in v72_6 60 := (iv_in (n := 60) i32 (by decide))
                        refine th_iald hx hb hK hP hI 53 (Nat.le_of_ble_eq_true rfl) rfl rfl n52 dX13_isOut_119 (fun y51 ey51 => ?_)
                        have iy51 : 0 ≤ y51.toInt ∧ y51.toInt ≤ 1000 := hI.el 53 (Nat.le_of_ble_eq_true rfl) rfl n52 (fun _ => rfl) ey51
                        have ey51 := ey51.trans (hKp.ei 53 _ rfl)
                        refine lv_iload_n hx hb dX13_isOut_120 rfl (lv_at hl 6 rfl) ?_
                        refine lv_icmp_le (tgt := 126) hx hb dX13_isOut_121 (by decide) (fun c53 => ?_) (fun c53 => ?_)
                        · --121 taken
                          have t54 : y51.toInt ≤ a2.toInt := ti_le c53
                          obtain ⟨y55, ey55⟩ : ∃ y : Int32, y = v72_6 + (1 : Int32) := ⟨_, rfl⟩
                          obtain ⟨ty55, iy55⟩ := ti_add (e := 1) (f := 60) i32 ln_1 ey55 (by decide)
                          have ty55 : y55.toInt = v72_6.toInt + 1 := ty55
                          have iy55 : 1 ≤ y55.toInt ∧ y55.toInt ≤ 60 := iy55
                          refine lv_iinc (v := y55) (lv' := [(6, .int y55), (5, .int 2), (4, .int v3_4), (0, .ref (ad 0)), (1, .int a0), (2, .int a1), (3, .int a2)]) hx hb dX13_isOut_126 hl (k := 0) rfl (by rw [ey55]; rfl) (by decide) rfl (fun ls hl => ?_)
                          refine lv_goto (tgt := 72) hx hb dX13_isOut_129 (by decide) ?_
                          exact ih72 y55 _ _ _ (iv_w iy55 (by decide)) (fun k9 h9 g9 => dite (k9 = v72_6.toNatClampNeg) (fun q9 => by subst q9; exact (fun q9 => by have g0 : a2.toInt < (xi (E 53) v72_6.toNatClampNeg).toInt := q9.2.2; have gy7 := congrArg Int32.toInt ey7; have gy14 := congrArg Int32.toInt ey14; have gy19 := congrArg Int32.toInt ey19; have gy25 := congrArg Int32.toInt ey25; have gy34 := congrArg Int32.toInt ey34; have gy43 := congrArg Int32.toInt ey43; have gy51 := congrArg Int32.toInt ey51; omega)) (fun q9 => hx72_0 k9 h9 (by rw [tn_] at g9 q9 ⊢; omega))) (by omega) (by omega) (by first | exact ms_su hx72_3 ty55 (by decide) | omega) hP hS (lv_sub hl [0, 1, 2, 3, 4, 5, 6] rfl)
                        · --121 not
                          have t56 : a2.toInt < y51.toInt := ti_nle c53
                          have i57 : 0 ≤ a2.toInt ∧ a2.toInt ≤ 999 := iv_lt_l t56 i50 iy51 (by decide)
                          have i58 : 1 ≤ y51.toInt ∧ y51.toInt ≤ 1000 := iv_lt_r t56 i50 iy51 (by decide)
                          refine lv_iconst (v := 1) hx hb dX13_isOut_124 (by decide) ?_
                          rw [hQ]
                          exact W.zret (v := 1) hx hb hr rfl (fun t ht hW => ⟨⟨1, (), rfl, Or.inl ⟨rfl, ⟨v3_4.toNatClampNeg, by rw [tn_, tn_]; omega, outM_e (bit := 2) (k := v72_6.toNatClampNeg) (show (xi (E 46) v3_4.toNatClampNeg).toInt = a0.toInt by have gy7 := congrArg Int32.toInt ey7; have gy14 := congrArg Int32.toInt ey14; have gy19 := congrArg Int32.toInt ey19; have gy25 := congrArg Int32.toInt ey25; have gy34 := congrArg Int32.toInt ey34; have gy43 := congrArg Int32.toInt ey43; have gy51 := congrArg Int32.toInt ey51; omega) (show ((2 : Int) = 1 ∧ (xi (E 47) v3_4.toNatClampNeg).toInt = a1.toInt) ∨ ((2 : Int) = 2 ∧ ¬ (xi (E 47) v3_4.toNatClampNeg).toInt = a1.toInt ∧ (xi (E 48) v3_4.toNatClampNeg).toInt = a1.toInt) by have gy7 := congrArg Int32.toInt ey7; have gy14 := congrArg Int32.toInt ey14; have gy19 := congrArg Int32.toInt ey19; have gy25 := congrArg Int32.toInt ey25; have gy34 := congrArg Int32.toInt ey34; have gy43 := congrArg Int32.toInt ey43; have gy51 := congrArg Int32.toInt ey51; omega) (by rw [tn_, tn_]; omega) (by have t3x : ((v3_4.toNatClampNeg : Nat) : Int) = v3_4.toInt := (by rw [tn_]; omega); have t7x : ((v72_6.toNatClampNeg : Nat) : Int) = v72_6.toInt := (by rw [tn_]; omega); have gy7 := congrArg Int32.toInt ey7; have gy14 := congrArg Int32.toInt ey14; have gy19 := congrArg Int32.toInt ey19; have gy25 := congrArg Int32.toInt ey25; have gy34 := congrArg Int32.toInt ey34; have gy43 := congrArg Int32.toInt ey43; have gy51 := congrArg Int32.toInt ey51; omega) ⟨Classical.byContradiction (fun q9 => absurd ((hb2 (x := y34) (by omega) ey36).mpr (by rw [ey34]; exact q9)) (by omega)), by show (xi (E 52) v72_6.toNatClampNeg).toInt ≤ a2.toInt; have gy7 := congrArg Int32.toInt ey7; have gy14 := congrArg Int32.toInt ey14; have gy19 := congrArg Int32.toInt ey19; have gy25 := congrArg Int32.toInt ey25; have gy34 := congrArg Int32.toInt ey34; have gy43 := congrArg Int32.toInt ey43; have gy51 := congrArg Int32.toInt ey51; omega, by show a2.toInt < (xi (E 53) v72_6.toNatClampNeg).toInt; have gy7 := congrArg Int32.toInt ey7; have gy14 := congrArg Int32.toInt ey14; have gy19 := congrArg Int32.toInt ey19; have gy25 := congrArg Int32.toInt ey25; have gy34 := congrArg Int32.toInt ey34; have gy43 := congrArg Int32.toInt ey43; have gy51 := congrArg Int32.toInt ey51; omega⟩⟩⟩, trivial⟩, hS.F ht⟩) hS.2.2 dX13_isOut_125
              exact hL72 (61) y23 _ _ _ (iv_w iy23 (by decide)) (fun k9 h9 g9 => by exfalso; have t3x : ((v3_4.toNatClampNeg : Nat) : Int) = v3_4.toInt := (by rw [tn_]; omega); have h8 : k9 < y23.toNatClampNeg := g9; rw [tn_ y23] at h8; omega) (by omega) (by omega) (by have h9 := iy23; first | exact ms_bu h9.1 (by decide) | omega) hP hS (lv_sub hl [0, 1, 2, 3, 4, 5, 6] rfl)
            · --56 not
              have t59 : y19.toInt = a1.toInt := ti_eq c21
              refine lv_iconst (v := 1) hx hb dX13_isOut_59 (by decide) ?_
              refine lv_goto (tgt := 64) hx hb dX13_isOut_60 (by decide) ?_
              refine lv_istore (lv' := [(5, .int 1), (4, .int v3_4), (0, .ref (ad 0)), (1, .int a0), (2, .int a1), (3, .int a2)]) hx hb dX13_isOut_64 hl (by decide) rfl (fun ls hl => ?_)
              refine lv_iconst (v := 2) hx hb dX13_isOut_66 (by decide) ?_
              refine lv_iload hx hb dX13_isOut_67 (lv_at hl 1 rfl) ?_
              refine lv_imul hx hb dX13_isOut_69 ?_
              refine lv_topi (fun y60 ey60 => ?_)
              obtain ⟨ty60, iy60⟩ := ti_mul (e := 0) (f := 58) ln_2 i5 ey60 (by decide)
              have ty60 : y60.toInt = 2 * v3_4.toInt := ty60
              have iy60 : 0 ≤ y60.toInt ∧ y60.toInt ≤ 58 := iy60
              refine lv_istore (lv' := [(6, .int y60), (5, .int 1), (4, .int v3_4), (0, .ref (ad 0)), (1, .int a0), (2, .int a1), (3, .int a2)]) hx hb dX13_isOut_70 hl (by decide) rfl (fun ls hl => ?_)
              have hL72 : ∀ d : Nat, ∀ (v72_6 : Int32) (H : Heap) (locs : List Loc) (ls : Array Slot), 0 ≤ v72_6.toInt ∧ v72_6.toInt ≤ 60 → (∀ k9 : Nat, 2 * v3_4.toNatClampNeg ≤ k9 → k9 < v72_6.toNatClampNeg → ¬ kM E 1 a2.toInt k9) → 2 * v3_4.toInt ≤ v72_6.toInt → v72_6.toInt ≤ 2 * v3_4.toInt + 2 → 60 - v72_6.toInt < (d : Int) → va_P (dC, dI) vwCl (WX 72 ad E) H → va_S (fun _ : Nat => False) s.heap H locs → lv_has ls 7 [(6, .int v72_6), (5, .int 1), (4, .int v3_4), (0, .ref (ad 0)), (1, .int a0), (2, .int a1), (3, .int a2)] → W p l e (headSpec v_isOutM rm_isOutM).room s m args below meth c H locs 0 0 Q (F0 m 72 ls []) := by
                intro d
                induction d with
                | zero =>
                  intro v72_6 H locs ls hv72_6 hx72_0 hx72_1 hx72_2 hx72_3 hP hS hl
                  exact absurd hx72_3 (by first | exact ms_zu hv72_6.2 | omega)
                | succ d ih72 =>
                  intro v72_6 H locs ls hv72_6 hx72_0 hx72_1 hx72_2 hx72_3 hP hS hl
                  refine lv_iload hx hb dX13_isOut_72 (lv_at hl 0 rfl) ?_
                  refine lv_iconst (v := 2) hx hb dX13_isOut_74 (by decide) ?_
                  refine lv_iload hx hb dX13_isOut_75 (lv_at hl 2 rfl) ?_
                  refine lv_imul hx hb dX13_isOut_77 ?_
                  refine lv_topi (fun y61 ey61 => ?_)
                  obtain ⟨ty61, iy61⟩ := ti_mul (e := 0) (f := 58) ln_2 i5 ey61 (by decide)
                  have ty61 : y61.toInt = 2 * v3_4.toInt := ty61
                  have iy61 : 0 ≤ y61.toInt ∧ y61.toInt ≤ 58 := iy61
                  refine lv_aload_n hx hb dX13_isOut_78 rfl (lv_at hl 3 rfl) ?_
                  refine th_get (ci := 14) (C := RX13) (T := TX13) (N := 97) (v := .ref (ad 54)) hx hb hts hinX13 hown hK hP hI 0 (Nat.le_of_ble_eq_true rfl) rfl rfl 72 (Nat.le_of_ble_eq_true rfl) (hts _ (vA_in _ _ (in_28 _ (zs4 (zs1 (zs0)))))) (fun _ h9 => h9) (hI.fr 0 (Nat.le_of_ble_eq_true rfl) rfl (Nat.le_of_ble_eq_true rfl) 54 rfl) dX13_isOut_79 ?_
                  refine lv_iload hx hb dX13_isOut_82 (lv_at hl 2 rfl) ?_
                  have n63 : vp_in v3_4 30 := (iv_in (n := 30) i5 (by decide))
                  refine th_iald hx hb hK hP hI 54 (Nat.le_of_ble_eq_true rfl) rfl rfl n63 dX13_isOut_84 (fun y62 ey62 => ?_)
                  have iy62 : 0 ≤ y62.toInt ∧ y62.toInt ≤ 2 := hI.el 54 (Nat.le_of_ble_eq_true rfl) rfl n63 (fun _ => rfl) ey62
                  have ey62 := ey62.trans (hKp.ei 54 _ rfl)
                  refine lv_iadd hx hb dX13_isOut_85 ?_
                  refine lv_topi (fun y64 ey64 => ?_)
                  obtain ⟨ty64, iy64⟩ := ti_add (e := 0) (f := 60) iy61 iy62 ey64 (by decide)
                  have ty64 : y64.toInt = y61.toInt + y62.toInt := ty64
                  have iy64 : 0 ≤ y64.toInt ∧ y64.toInt ≤ 60 := iy64
                  refine lv_icmp_ge (tgt := 132) hx hb dX13_isOut_86 (by decide) (fun c65 => ?_) (fun c65 => ?_)
                  · --86 taken
                    have t66 : y64.toInt ≤ v72_6.toInt := ti_le c65
                    obtain ⟨y67, ey67⟩ : ∃ y : Int32, y = v3_4 + (1 : Int32) := ⟨_, rfl⟩
                    obtain ⟨ty67, iy67⟩ := ti_add (e := 1) (f := 30) i5 ln_1 ey67 (by decide)
                    have ty67 : y67.toInt = v3_4.toInt + 1 := ty67
                    have iy67 : 1 ≤ y67.toInt ∧ y67.toInt ≤ 30 := iy67
                    refine lv_iinc (v := y67) (lv' := [(4, .int y67), (6, .int v72_6), (5, .int 1), (0, .ref (ad 0)), (1, .int a0), (2, .int a1), (3, .int a2)]) hx hb dX13_isOut_132 hl (k := 2) rfl (by rw [ey67]; rfl) (by decide) rfl (fun ls hl => ?_)
                    refine lv_goto (tgt := 3) hx hb dX13_isOut_135 (by decide) ?_
                    exact ih3 y67 _ _ _ (iv_w iy67 (by decide)) (fun p9 h9 => dite (p9 = v3_4.toNatClampNeg) (fun q9 => by subst q9; exact (outM_n (bit := 1) (show ((1 : Int) = 1 ∧ (xi (E 47) v3_4.toNatClampNeg).toInt = a1.toInt) ∨ ((1 : Int) = 2 ∧ ¬ (xi (E 47) v3_4.toNatClampNeg).toInt = a1.toInt ∧ (xi (E 48) v3_4.toNatClampNeg).toInt = a1.toInt) by have gy7 := congrArg Int32.toInt ey7; have gy14 := congrArg Int32.toInt ey14; have gy19 := congrArg Int32.toInt ey19; have gy62 := congrArg Int32.toInt ey62; omega) (fun k9 h9 g9 => hx72_0 k9 h9 (by have t3x : ((v3_4.toNatClampNeg : Nat) : Int) = v3_4.toInt := (by rw [tn_]; omega); have t7x : ((v72_6.toNatClampNeg : Nat) : Int) = v72_6.toInt := (by rw [tn_]; omega); have gy7 := congrArg Int32.toInt ey7; have gy14 := congrArg Int32.toInt ey14; have gy19 := congrArg Int32.toInt ey19; have gy62 := congrArg Int32.toInt ey62; omega)))) (fun q9 => hx3_0 p9 (by rw [tn_] at h9 q9 ⊢; omega))) (by omega) (by first | exact ms_su hx3_2 ty67 (by decide) | omega) hP hS (lv_sub hl [0, 3, 4, 5, 6] rfl)
                  · --86 not
                    have t68 : v72_6.toInt < y64.toInt := ti_nle c65
                    have i69 : 0 ≤ v72_6.toInt ∧ v72_6.toInt ≤ 59 := iv_lt_l t68 hv72_6 iy64 (by decide)
                    have i70 : 1 ≤ y64.toInt ∧ y64.toInt ≤ 60 := iv_lt_r t68 hv72_6 iy64 (by decide)
                    refine lv_aload_n hx hb dX13_isOut_89 rfl (lv_at hl 3 rfl) ?_
                    refine th_get (ci := 14) (C := RX13) (T := TX13) (N := 97) (v := .ref (ad 51)) hx hb hts hinX13 hown hK hP hI 0 (Nat.le_of_ble_eq_true rfl) rfl rfl 69 (Nat.le_of_ble_eq_true rfl) (hts _ (vA_in _ _ (in_28 _ (zs4 (zs1 (zs1 (zs0))))))) (fun _ h9 => h9) (hI.fr 0 (Nat.le_of_ble_eq_true rfl) rfl (Nat.le_of_ble_eq_true rfl) 51 rfl) dX13_isOut_90 ?_
                    refine lv_iload hx hb dX13_isOut_93 (lv_at hl 0 rfl) ?_
                    have n72 : vp_in v72_6 60 := (iv_in (n := 60) i69 (by decide))
                    refine th_iald hx hb hK hP hI 51 (Nat.le_of_ble_eq_true rfl) rfl rfl n72 dX13_isOut_95 (fun y71 ey71 => ?_)
                    have iy71 : 0 ≤ y71.toInt ∧ y71.toInt ≤ 3 := hI.el 51 (Nat.le_of_ble_eq_true rfl) rfl n72 (fun _ => rfl) ey71
                    have ey71 := ey71.trans (hKp.ei 51 _ rfl)
                    refine lv_iload hx hb dX13_isOut_96 (lv_at hl 1 rfl) ?_
                    refine lv_iand hx hb dX13_isOut_98 ?_
                    refine lv_topi (fun y73 ey73 => ?_)
                    have iy73 : 0 ≤ y73.toInt ∧ y73.toInt ≤ 1 := ti_and (by decide) ey73
                    refine lv_if_eq (tgt := 126) hx hb dX13_isOut_99 (by decide) (fun c74 => ?_) (fun c74 => ?_)
                    · --99 taken
                      have t75 : y73.toInt = 0 := ti_eq c74
                      have i76 : 0 ≤ y73.toInt ∧ y73.toInt ≤ 0 := iv_eqi t75 iy73 (il_ 0) (by decide)
                      obtain ⟨y77, ey77⟩ : ∃ y : Int32, y = v72_6 + (1 : Int32) := ⟨_, rfl⟩
                      obtain ⟨ty77, iy77⟩ := ti_add (e := 1) (f := 60) i69 ln_1 ey77 (by decide)
                      have ty77 : y77.toInt = v72_6.toInt + 1 := ty77
                      have iy77 : 1 ≤ y77.toInt ∧ y77.toInt ≤ 60 := iy77
                      refine lv_iinc (v := y77) (lv' := [(6, .int y77), (5, .int 1), (4, .int v3_4), (0, .ref (ad 0)), (1, .int a0), (2, .int a1), (3, .int a2)]) hx hb dX13_isOut_126 hl (k := 0) rfl (by rw [ey77]; rfl) (by decide) rfl (fun ls hl => ?_)
                      refine lv_goto (tgt := 72) hx hb dX13_isOut_129 (by decide) ?_
                      exact ih72 y77 _ _ _ (iv_w iy77 (by decide)) (fun k9 h9 g9 => dite (k9 = v72_6.toNatClampNeg) (fun q9 => by subst q9; exact (fun q9 => (hb1 (by omega) ey73).mp (by omega) (by rw [ey71]; exact q9.1))) (fun q9 => hx72_0 k9 h9 (by rw [tn_] at g9 q9 ⊢; omega))) (by omega) (by omega) (by first | exact ms_su hx72_3 ty77 (by decide) | omega) hP hS (lv_sub hl [0, 1, 2, 3, 4, 5, 6] rfl)
                    · --99 not
                      have t78 : ¬ y73.toInt = 0 := ti_ne c74
                      have i79 : 1 ≤ y73.toInt ∧ y73.toInt ≤ 1 := iv_ne_l t78 iy73 (il_ 0)
                      refine lv_aload_n hx hb dX13_isOut_102 rfl (lv_at hl 3 rfl) ?_
                      refine th_get (ci := 14) (C := RX13) (T := TX13) (N := 97) (v := .ref (ad 52)) hx hb hts hinX13 hown hK hP hI 0 (Nat.le_of_ble_eq_true rfl) rfl rfl 70 (Nat.le_of_ble_eq_true rfl) (hts _ (vA_in _ _ (in_28 _ (zs4 (zs1 (zs1 (zs1 (zs0)))))))) (fun _ h9 => h9) (hI.fr 0 (Nat.le_of_ble_eq_true rfl) rfl (Nat.le_of_ble_eq_true rfl) 52 rfl) dX13_isOut_103 ?_
                      refine lv_iload hx hb dX13_isOut_106 (lv_at hl 0 rfl) ?_
                      have n81 : vp_in v72_6 60 := (iv_in (n := 60) i69 (by decide))
                      refine th_iald hx hb hK hP hI 52 (Nat.le_of_ble_eq_true rfl) rfl rfl n81 dX13_isOut_108 (fun y80 ey80 => ?_)
                      have iy80 : 0 ≤ y80.toInt ∧ y80.toInt ≤ 400 := hI.el 52 (Nat.le_of_ble_eq_true rfl) rfl n81 (fun _ => rfl) ey80
                      have ey80 := ey80.trans (hKp.ei 52 _ rfl)
                      refine lv_iload_n hx hb dX13_isOut_109 rfl (lv_at hl 6 rfl) ?_
                      refine lv_icmp_gt (tgt := 126) hx hb dX13_isOut_110 (by decide) (fun c82 => ?_) (fun c82 => ?_)
                      · --110 taken
                        have t83 : a2.toInt < y80.toInt := ti_lt c82
                        have i84 : -2147483648 ≤ a2.toInt ∧ a2.toInt ≤ 399 := iv_lt_l t83 (iv_all _) iy80 (by decide)
                        obtain ⟨y85, ey85⟩ : ∃ y : Int32, y = v72_6 + (1 : Int32) := ⟨_, rfl⟩
                        obtain ⟨ty85, iy85⟩ := ti_add (e := 1) (f := 60) i69 ln_1 ey85 (by decide)
                        have ty85 : y85.toInt = v72_6.toInt + 1 := ty85
                        have iy85 : 1 ≤ y85.toInt ∧ y85.toInt ≤ 60 := iy85
                        refine lv_iinc (v := y85) (lv' := [(6, .int y85), (5, .int 1), (4, .int v3_4), (0, .ref (ad 0)), (1, .int a0), (2, .int a1), (3, .int a2)]) hx hb dX13_isOut_126 hl (k := 0) rfl (by rw [ey85]; rfl) (by decide) rfl (fun ls hl => ?_)
                        refine lv_goto (tgt := 72) hx hb dX13_isOut_129 (by decide) ?_
                        exact ih72 y85 _ _ _ (iv_w iy85 (by decide)) (fun k9 h9 g9 => dite (k9 = v72_6.toNatClampNeg) (fun q9 => by subst q9; exact (fun q9 => by have g0 : (xi (E 52) v72_6.toNatClampNeg).toInt ≤ a2.toInt := q9.2.1; have gy7 := congrArg Int32.toInt ey7; have gy14 := congrArg Int32.toInt ey14; have gy19 := congrArg Int32.toInt ey19; have gy62 := congrArg Int32.toInt ey62; have gy71 := congrArg Int32.toInt ey71; have gy80 := congrArg Int32.toInt ey80; omega)) (fun q9 => hx72_0 k9 h9 (by rw [tn_] at g9 q9 ⊢; omega))) (by omega) (by omega) (by first | exact ms_su hx72_3 ty85 (by decide) | omega) hP hS (lv_sub hl [0, 1, 2, 3, 4, 5, 6] rfl)
                      · --110 not
                        have t86 : y80.toInt ≤ a2.toInt := ti_nlt c82
                        have i87 : 0 ≤ a2.toInt ∧ a2.toInt ≤ 2147483647 := iv_le_r t86 iy80 (iv_all _) (by decide)
                        refine lv_aload_n hx hb dX13_isOut_113 rfl (lv_at hl 3 rfl) ?_
                        refine th_get (ci := 14) (C := RX13) (T := TX13) (N := 97) (v := .ref (ad 53)) hx hb hts hinX13 hown hK hP hI 0 (Nat.le_of_ble_eq_true rfl) rfl rfl 71 (Nat.le_of_ble_eq_true rfl) (hts _ (vA_in _ _ (in_28 _ (zs4 (zs4 (zs0)))))) (fun _ h9 => h9) (hI.fr 0 (Nat.le_of_ble_eq_true rfl) rfl (Nat.le_of_ble_eq_true rfl) 53 rfl) dX13_isOut_114 ?_
                        refine lv_iload hx hb dX13_isOut_117 (lv_at hl 0 rfl) ?_
                        have n89 : vp_in v72_6 60 := (iv_in (n := 60) i69 (by decide))
                        refine th_iald hx hb hK hP hI 53 (Nat.le_of_ble_eq_true rfl) rfl rfl n89 dX13_isOut_119 (fun y88 ey88 => ?_)
                        have iy88 : 0 ≤ y88.toInt ∧ y88.toInt ≤ 1000 := hI.el 53 (Nat.le_of_ble_eq_true rfl) rfl n89 (fun _ => rfl) ey88
                        have ey88 := ey88.trans (hKp.ei 53 _ rfl)
                        refine lv_iload_n hx hb dX13_isOut_120 rfl (lv_at hl 6 rfl) ?_
                        refine lv_icmp_le (tgt := 126) hx hb dX13_isOut_121 (by decide) (fun c90 => ?_) (fun c90 => ?_)
                        · --121 taken
                          have t91 : y88.toInt ≤ a2.toInt := ti_le c90
                          obtain ⟨y92, ey92⟩ : ∃ y : Int32, y = v72_6 + (1 : Int32) := ⟨_, rfl⟩
                          obtain ⟨ty92, iy92⟩ := ti_add (e := 1) (f := 60) i69 ln_1 ey92 (by decide)
                          have ty92 : y92.toInt = v72_6.toInt + 1 := ty92
                          have iy92 : 1 ≤ y92.toInt ∧ y92.toInt ≤ 60 := iy92
                          refine lv_iinc (v := y92) (lv' := [(6, .int y92), (5, .int 1), (4, .int v3_4), (0, .ref (ad 0)), (1, .int a0), (2, .int a1), (3, .int a2)]) hx hb dX13_isOut_126 hl (k := 0) rfl (by rw [ey92]; rfl) (by decide) rfl (fun ls hl => ?_)
                          refine lv_goto (tgt := 72) hx hb dX13_isOut_129 (by decide) ?_
                          exact ih72 y92 _ _ _ (iv_w iy92 (by decide)) (fun k9 h9 g9 => dite (k9 = v72_6.toNatClampNeg) (fun q9 => by subst q9; exact (fun q9 => by have g0 : a2.toInt < (xi (E 53) v72_6.toNatClampNeg).toInt := q9.2.2; have gy7 := congrArg Int32.toInt ey7; have gy14 := congrArg Int32.toInt ey14; have gy19 := congrArg Int32.toInt ey19; have gy62 := congrArg Int32.toInt ey62; have gy71 := congrArg Int32.toInt ey71; have gy80 := congrArg Int32.toInt ey80; have gy88 := congrArg Int32.toInt ey88; omega)) (fun q9 => hx72_0 k9 h9 (by rw [tn_] at g9 q9 ⊢; omega))) (by omega) (by omega) (by first | exact ms_su hx72_3 ty92 (by decide) | omega) hP hS (lv_sub hl [0, 1, 2, 3, 4, 5, 6] rfl)
                        · --121 not
                          have t93 : a2.toInt < y88.toInt := ti_nle c90
                          have i94 : 0 ≤ a2.toInt ∧ a2.toInt ≤ 999 := iv_lt_l t93 i87 iy88 (by decide)
                          have i95 : 1 ≤ y88.toInt ∧ y88.toInt ≤ 1000 := iv_lt_r t93 i87 iy88 (by decide)
                          refine lv_iconst (v := 1) hx hb dX13_isOut_124 (by decide) ?_
                          rw [hQ]
                          exact W.zret (v := 1) hx hb hr rfl (fun t ht hW => ⟨⟨1, (), rfl, Or.inl ⟨rfl, ⟨v3_4.toNatClampNeg, by rw [tn_, tn_]; omega, outM_e (bit := 1) (k := v72_6.toNatClampNeg) (show (xi (E 46) v3_4.toNatClampNeg).toInt = a0.toInt by have gy7 := congrArg Int32.toInt ey7; have gy14 := congrArg Int32.toInt ey14; have gy19 := congrArg Int32.toInt ey19; have gy62 := congrArg Int32.toInt ey62; have gy71 := congrArg Int32.toInt ey71; have gy80 := congrArg Int32.toInt ey80; have gy88 := congrArg Int32.toInt ey88; omega) (show ((1 : Int) = 1 ∧ (xi (E 47) v3_4.toNatClampNeg).toInt = a1.toInt) ∨ ((1 : Int) = 2 ∧ ¬ (xi (E 47) v3_4.toNatClampNeg).toInt = a1.toInt ∧ (xi (E 48) v3_4.toNatClampNeg).toInt = a1.toInt) by have gy7 := congrArg Int32.toInt ey7; have gy14 := congrArg Int32.toInt ey14; have gy19 := congrArg Int32.toInt ey19; have gy62 := congrArg Int32.toInt ey62; have gy71 := congrArg Int32.toInt ey71; have gy80 := congrArg Int32.toInt ey80; have gy88 := congrArg Int32.toInt ey88; omega) (by rw [tn_, tn_]; omega) (by have t3x : ((v3_4.toNatClampNeg : Nat) : Int) = v3_4.toInt := (by rw [tn_]; omega); have t7x : ((v72_6.toNatClampNeg : Nat) : Int) = v72_6.toInt := (by rw [tn_]; omega); have gy7 := congrArg Int32.toInt ey7; have gy14 := congrArg Int32.toInt ey14; have gy19 := congrArg Int32.toInt ey19; have gy62 := congrArg Int32.toInt ey62; have gy71 := congrArg Int32.toInt ey71; have gy80 := congrArg Int32.toInt ey80; have gy88 := congrArg Int32.toInt ey88; omega) ⟨Classical.byContradiction (fun q9 => absurd ((hb1 (x := y71) (by omega) ey73).mpr (by rw [ey71]; exact q9)) (by omega)), by show (xi (E 52) v72_6.toNatClampNeg).toInt ≤ a2.toInt; have gy7 := congrArg Int32.toInt ey7; have gy14 := congrArg Int32.toInt ey14; have gy19 := congrArg Int32.toInt ey19; have gy62 := congrArg Int32.toInt ey62; have gy71 := congrArg Int32.toInt ey71; have gy80 := congrArg Int32.toInt ey80; have gy88 := congrArg Int32.toInt ey88; omega, by show a2.toInt < (xi (E 53) v72_6.toNatClampNeg).toInt; have gy7 := congrArg Int32.toInt ey7; have gy14 := congrArg Int32.toInt ey14; have gy19 := congrArg Int32.toInt ey19; have gy62 := congrArg Int32.toInt ey62; have gy71 := congrArg Int32.toInt ey71; have gy80 := congrArg Int32.toInt ey80; have gy88 := congrArg Int32.toInt ey88; omega⟩⟩⟩, trivial⟩, hS.F ht⟩) hS.2.2 dX13_isOut_125
              exact hL72 (61) y60 _ _ _ (iv_w iy60 (by decide)) (fun k9 h9 g9 => by exfalso; have t3x : ((v3_4.toNatClampNeg : Nat) : Int) = v3_4.toInt := (by rw [tn_]; omega); have h8 : k9 < y60.toNatClampNeg := g9; rw [tn_ y60] at h8; omega) (by omega) (by omega) (by have h9 := iy60; first | exact ms_bu h9.1 (by decide) | omega) hP hS (lv_sub hl [0, 1, 2, 3, 4, 5, 6] rfl)
          · --31 not
            have t96 : ¬ y14.toInt = a1.toInt := ti_ne c16
            refine lv_aload_n hx hb dX13_isOut_34 rfl (lv_at hl 1 rfl) ?_
            refine th_get (ci := 14) (C := RX13) (T := TX13) (N := 97) (v := .ref (ad 48)) hx hb hts hinX13 hown hK hP hI 0 (Nat.le_of_ble_eq_true rfl) rfl rfl 66 (Nat.le_of_ble_eq_true rfl) (hts _ (vA_in _ _ (in_25 _ (zs4 (zs1 (zs1 (zs0))))))) (fun _ h9 => h9) (hI.fr 0 (Nat.le_of_ble_eq_true rfl) rfl (Nat.le_of_ble_eq_true rfl) 48 rfl) dX13_isOut_35 ?_
            refine lv_iload hx hb dX13_isOut_38 (lv_at hl 0 rfl) ?_
            have n98 : vp_in v3_4 30 := (iv_in (n := 30) i5 (by decide))
            refine th_iald hx hb hK hP hI 48 (Nat.le_of_ble_eq_true rfl) rfl rfl n98 dX13_isOut_40 (fun y97 ey97 => ?_)
            have iy97 : 0 ≤ y97.toInt ∧ y97.toInt ≤ 15 := hI.el 48 (Nat.le_of_ble_eq_true rfl) rfl n98 (fun _ => rfl) ey97
            have ey97 := ey97.trans (hKp.ei 48 _ rfl)
            refine lv_iload_n hx hb dX13_isOut_41 rfl (lv_at hl 3 rfl) ?_
            refine lv_icmp_eq (tgt := 48) hx hb dX13_isOut_42 (by decide) (fun c99 => ?_) (fun c99 => ?_)
            · --42 taken
              have t100 : y97.toInt = a1.toInt := ti_eq c99
              have i101 : 0 ≤ a1.toInt ∧ a1.toInt ≤ 15 := iv_eqi t100.symm (iv_all _) iy97 (by decide)
              refine lv_aload_n hx hb dX13_isOut_48 rfl (lv_at hl 1 rfl) ?_
              refine th_get (ci := 14) (C := RX13) (T := TX13) (N := 97) (v := .ref (ad 47)) hx hb hts hinX13 hown hK hP hI 0 (Nat.le_of_ble_eq_true rfl) rfl rfl 65 (Nat.le_of_ble_eq_true rfl) (hts _ (vA_in _ _ (in_25 _ (zs4 (zs0))))) (fun _ h9 => h9) (hI.fr 0 (Nat.le_of_ble_eq_true rfl) rfl (Nat.le_of_ble_eq_true rfl) 47 rfl) dX13_isOut_49 ?_
              refine lv_iload hx hb dX13_isOut_52 (lv_at hl 0 rfl) ?_
              have n103 : vp_in v3_4 30 := (iv_in (n := 30) i5 (by decide))
              refine th_iald hx hb hK hP hI 47 (Nat.le_of_ble_eq_true rfl) rfl rfl n103 dX13_isOut_54 (fun y102 ey102 => ?_)
              have iy102 : 0 ≤ y102.toInt ∧ y102.toInt ≤ 15 := hI.el 47 (Nat.le_of_ble_eq_true rfl) rfl n103 (fun _ => rfl) ey102
              have ey102 := ey102.trans (hKp.ei 47 _ rfl)
              refine lv_iload_n hx hb dX13_isOut_55 rfl (lv_at hl 3 rfl) ?_
              refine lv_icmp_ne (tgt := 63) hx hb dX13_isOut_56 (by decide) (fun c104 => ?_) (fun c104 => ?_)
              · --56 taken
                have t105 : ¬ y102.toInt = a1.toInt := ti_ne c104
                refine lv_iconst (v := 2) hx hb dX13_isOut_63 (by decide) ?_
                refine lv_istore (lv' := [(5, .int 2), (4, .int v3_4), (0, .ref (ad 0)), (1, .int a0), (2, .int a1), (3, .int a2)]) hx hb dX13_isOut_64 hl (by decide) rfl (fun ls hl => ?_)
                refine lv_iconst (v := 2) hx hb dX13_isOut_66 (by decide) ?_
                refine lv_iload hx hb dX13_isOut_67 (lv_at hl 1 rfl) ?_
                refine lv_imul hx hb dX13_isOut_69 ?_
                refine lv_topi (fun y106 ey106 => ?_)
                obtain ⟨ty106, iy106⟩ := ti_mul (e := 0) (f := 58) ln_2 i5 ey106 (by decide)
                have ty106 : y106.toInt = 2 * v3_4.toInt := ty106
                have iy106 : 0 ≤ y106.toInt ∧ y106.toInt ≤ 58 := iy106
                refine lv_istore (lv' := [(6, .int y106), (5, .int 2), (4, .int v3_4), (0, .ref (ad 0)), (1, .int a0), (2, .int a1), (3, .int a2)]) hx hb dX13_isOut_70 hl (by decide) rfl (fun ls hl => ?_)
                have hL72 : ∀ d : Nat, ∀ (v72_6 : Int32) (H : Heap) (locs : List Loc) (ls : Array Slot), 0 ≤ v72_6.toInt ∧ v72_6.toInt ≤ 60 → (∀ k9 : Nat, 2 * v3_4.toNatClampNeg ≤ k9 → k9 < v72_6.toNatClampNeg → ¬ kM E 2 a2.toInt k9) → 2 * v3_4.toInt ≤ v72_6.toInt → v72_6.toInt ≤ 2 * v3_4.toInt + 2 → 60 - v72_6.toInt < (d : Int) → va_P (dC, dI) vwCl (WX 72 ad E) H → va_S (fun _ : Nat => False) s.heap H locs → lv_has ls 7 [(6, .int v72_6), (5, .int 2), (4, .int v3_4), (0, .ref (ad 0)), (1, .int a0), (2, .int a1), (3, .int a2)] → W p l e (headSpec v_isOutM rm_isOutM).room s m args below meth c H locs 0 0 Q (F0 m 72 ls []) := by
                  intro d
                  induction d with
                  | zero =>
                    intro v72_6 H locs ls hv72_6 hx72_0 hx72_1 hx72_2 hx72_3 hP hS hl
                    exact absurd hx72_3 (by first | exact ms_zu hv72_6.2 | omega)
                  | succ d ih72 =>
                    intro v72_6 H locs ls hv72_6 hx72_0 hx72_1 hx72_2 hx72_3 hP hS hl
                    refine lv_iload hx hb dX13_isOut_72 (lv_at hl 0 rfl) ?_
                    refine lv_iconst (v := 2) hx hb dX13_isOut_74 (by decide) ?_
                    refine lv_iload hx hb dX13_isOut_75 (lv_at hl 2 rfl) ?_
                    refine lv_imul hx hb dX13_isOut_77 ?_
                    refine lv_topi (fun y107 ey107 => ?_)
                    obtain ⟨ty107, iy107⟩ := ti_mul (e := 0) (f := 58) ln_2 i5 ey107 (by decide)
                    have ty107 : y107.toInt = 2 * v3_4.toInt := ty107
                    have iy107 : 0 ≤ y107.toInt ∧ y107.toInt ≤ 58 := iy107
                    refine lv_aload_n hx hb dX13_isOut_78 rfl (lv_at hl 3 rfl) ?_
                    refine th_get (ci := 14) (C := RX13) (T := TX13) (N := 97) (v := .ref (ad 54)) hx hb hts hinX13 hown hK hP hI 0 (Nat.le_of_ble_eq_true rfl) rfl rfl 72 (Nat.le_of_ble_eq_true rfl) (hts _ (vA_in _ _ (in_28 _ (zs4 (zs1 (zs0)))))) (fun _ h9 => h9) (hI.fr 0 (Nat.le_of_ble_eq_true rfl) rfl (Nat.le_of_ble_eq_true rfl) 54 rfl) dX13_isOut_79 ?_
                    refine lv_iload hx hb dX13_isOut_82 (lv_at hl 2 rfl) ?_
                    have n109 : vp_in v3_4 30 := (iv_in (n := 30) i5 (by decide))
                    refine th_iald hx hb hK hP hI 54 (Nat.le_of_ble_eq_true rfl) rfl rfl n109 dX13_isOut_84 (fun y108 ey108 => ?_)
                    have iy108 : 0 ≤ y108.toInt ∧ y108.toInt ≤ 2 := hI.el 54 (Nat.le_of_ble_eq_true rfl) rfl n109 (fun _ => rfl) ey108
                    have ey108 := ey108.trans (hKp.ei 54 _ rfl)
                    refine lv_iadd hx hb dX13_isOut_85 ?_
                    refine lv_topi (fun y110 ey110 => ?_)
                    obtain ⟨ty110, iy110⟩ := ti_add (e := 0) (f := 60) iy107 iy108 ey110 (by decide)
                    have ty110 : y110.toInt = y107.toInt + y108.toInt := ty110
                    have iy110 : 0 ≤ y110.toInt ∧ y110.toInt ≤ 60 := iy110
                    refine lv_icmp_ge (tgt := 132) hx hb dX13_isOut_86 (by decide) (fun c111 => ?_) (fun c111 => ?_)
                    · --86 taken
                      have t112 : y110.toInt ≤ v72_6.toInt := ti_le c111
                      obtain ⟨y113, ey113⟩ : ∃ y : Int32, y = v3_4 + (1 : Int32) := ⟨_, rfl⟩
                      obtain ⟨ty113, iy113⟩ := ti_add (e := 1) (f := 30) i5 ln_1 ey113 (by decide)
                      have ty113 : y113.toInt = v3_4.toInt + 1 := ty113
                      have iy113 : 1 ≤ y113.toInt ∧ y113.toInt ≤ 30 := iy113
                      refine lv_iinc (v := y113) (lv' := [(4, .int y113), (6, .int v72_6), (5, .int 2), (0, .ref (ad 0)), (1, .int a0), (2, .int a1), (3, .int a2)]) hx hb dX13_isOut_132 hl (k := 2) rfl (by rw [ey113]; rfl) (by decide) rfl (fun ls hl => ?_)
                      refine lv_goto (tgt := 3) hx hb dX13_isOut_135 (by decide) ?_
                      exact ih3 y113 _ _ _ (iv_w iy113 (by decide)) (fun p9 h9 => dite (p9 = v3_4.toNatClampNeg) (fun q9 => by subst q9; exact (outM_n (bit := 2) (show ((2 : Int) = 1 ∧ (xi (E 47) v3_4.toNatClampNeg).toInt = a1.toInt) ∨ ((2 : Int) = 2 ∧ ¬ (xi (E 47) v3_4.toNatClampNeg).toInt = a1.toInt ∧ (xi (E 48) v3_4.toNatClampNeg).toInt = a1.toInt) by have gy7 := congrArg Int32.toInt ey7; have gy14 := congrArg Int32.toInt ey14; have gy97 := congrArg Int32.toInt ey97; have gy102 := congrArg Int32.toInt ey102; have gy108 := congrArg Int32.toInt ey108; omega) (fun k9 h9 g9 => hx72_0 k9 h9 (by have t3x : ((v3_4.toNatClampNeg : Nat) : Int) = v3_4.toInt := (by rw [tn_]; omega); have t7x : ((v72_6.toNatClampNeg : Nat) : Int) = v72_6.toInt := (by rw [tn_]; omega); have gy7 := congrArg Int32.toInt ey7; have gy14 := congrArg Int32.toInt ey14; have gy97 := congrArg Int32.toInt ey97; have gy102 := congrArg Int32.toInt ey102; have gy108 := congrArg Int32.toInt ey108; omega)))) (fun q9 => hx3_0 p9 (by rw [tn_] at h9 q9 ⊢; omega))) (by omega) (by first | exact ms_su hx3_2 ty113 (by decide) | omega) hP hS (lv_sub hl [0, 3, 4, 5, 6] rfl)
                    · --86 not
                      have t114 : v72_6.toInt < y110.toInt := ti_nle c111
                      have i115 : 0 ≤ v72_6.toInt ∧ v72_6.toInt ≤ 59 := iv_lt_l t114 hv72_6 iy110 (by decide)
                      have i116 : 1 ≤ y110.toInt ∧ y110.toInt ≤ 60 := iv_lt_r t114 hv72_6 iy110 (by decide)
                      refine lv_aload_n hx hb dX13_isOut_89 rfl (lv_at hl 3 rfl) ?_
                      refine th_get (ci := 14) (C := RX13) (T := TX13) (N := 97) (v := .ref (ad 51)) hx hb hts hinX13 hown hK hP hI 0 (Nat.le_of_ble_eq_true rfl) rfl rfl 69 (Nat.le_of_ble_eq_true rfl) (hts _ (vA_in _ _ (in_28 _ (zs4 (zs1 (zs1 (zs0))))))) (fun _ h9 => h9) (hI.fr 0 (Nat.le_of_ble_eq_true rfl) rfl (Nat.le_of_ble_eq_true rfl) 51 rfl) dX13_isOut_90 ?_
                      refine lv_iload hx hb dX13_isOut_93 (lv_at hl 0 rfl) ?_
                      have n118 : vp_in v72_6 60 := (iv_in (n := 60) i115 (by decide))
                      refine th_iald hx hb hK hP hI 51 (Nat.le_of_ble_eq_true rfl) rfl rfl n118 dX13_isOut_95 (fun y117 ey117 => ?_)
                      have iy117 : 0 ≤ y117.toInt ∧ y117.toInt ≤ 3 := hI.el 51 (Nat.le_of_ble_eq_true rfl) rfl n118 (fun _ => rfl) ey117
                      have ey117 := ey117.trans (hKp.ei 51 _ rfl)
                      refine lv_iload hx hb dX13_isOut_96 (lv_at hl 1 rfl) ?_
                      refine lv_iand hx hb dX13_isOut_98 ?_
                      refine lv_topi (fun y119 ey119 => ?_)
                      have iy119 : 0 ≤ y119.toInt ∧ y119.toInt ≤ 2 := ti_and (by decide) ey119
                      refine lv_if_eq (tgt := 126) hx hb dX13_isOut_99 (by decide) (fun c120 => ?_) (fun c120 => ?_)
                      · --99 taken
                        have t121 : y119.toInt = 0 := ti_eq c120
                        have i122 : 0 ≤ y119.toInt ∧ y119.toInt ≤ 0 := iv_eqi t121 iy119 (il_ 0) (by decide)
                        obtain ⟨y123, ey123⟩ : ∃ y : Int32, y = v72_6 + (1 : Int32) := ⟨_, rfl⟩
                        obtain ⟨ty123, iy123⟩ := ti_add (e := 1) (f := 60) i115 ln_1 ey123 (by decide)
                        have ty123 : y123.toInt = v72_6.toInt + 1 := ty123
                        have iy123 : 1 ≤ y123.toInt ∧ y123.toInt ≤ 60 := iy123
                        refine lv_iinc (v := y123) (lv' := [(6, .int y123), (5, .int 2), (4, .int v3_4), (0, .ref (ad 0)), (1, .int a0), (2, .int a1), (3, .int a2)]) hx hb dX13_isOut_126 hl (k := 0) rfl (by rw [ey123]; rfl) (by decide) rfl (fun ls hl => ?_)
                        refine lv_goto (tgt := 72) hx hb dX13_isOut_129 (by decide) ?_
                        exact ih72 y123 _ _ _ (iv_w iy123 (by decide)) (fun k9 h9 g9 => dite (k9 = v72_6.toNatClampNeg) (fun q9 => by subst q9; exact (fun q9 => (hb2 (by omega) ey119).mp (by omega) (by rw [ey117]; exact q9.1))) (fun q9 => hx72_0 k9 h9 (by rw [tn_] at g9 q9 ⊢; omega))) (by omega) (by omega) (by first | exact ms_su hx72_3 ty123 (by decide) | omega) hP hS (lv_sub hl [0, 1, 2, 3, 4, 5, 6] rfl)
                      · --99 not
                        have t124 : ¬ y119.toInt = 0 := ti_ne c120
                        have i125 : 1 ≤ y119.toInt ∧ y119.toInt ≤ 2 := iv_ne_l t124 iy119 (il_ 0)
                        refine lv_aload_n hx hb dX13_isOut_102 rfl (lv_at hl 3 rfl) ?_
                        refine th_get (ci := 14) (C := RX13) (T := TX13) (N := 97) (v := .ref (ad 52)) hx hb hts hinX13 hown hK hP hI 0 (Nat.le_of_ble_eq_true rfl) rfl rfl 70 (Nat.le_of_ble_eq_true rfl) (hts _ (vA_in _ _ (in_28 _ (zs4 (zs1 (zs1 (zs1 (zs0)))))))) (fun _ h9 => h9) (hI.fr 0 (Nat.le_of_ble_eq_true rfl) rfl (Nat.le_of_ble_eq_true rfl) 52 rfl) dX13_isOut_103 ?_
                        refine lv_iload hx hb dX13_isOut_106 (lv_at hl 0 rfl) ?_
                        have n127 : vp_in v72_6 60 := (iv_in (n := 60) i115 (by decide))
                        refine th_iald hx hb hK hP hI 52 (Nat.le_of_ble_eq_true rfl) rfl rfl n127 dX13_isOut_108 (fun y126 ey126 => ?_)
                        have iy126 : 0 ≤ y126.toInt ∧ y126.toInt ≤ 400 := hI.el 52 (Nat.le_of_ble_eq_true rfl) rfl n127 (fun _ => rfl) ey126
                        have ey126 := ey126.trans (hKp.ei 52 _ rfl)
                        refine lv_iload_n hx hb dX13_isOut_109 rfl (lv_at hl 6 rfl) ?_
                        refine lv_icmp_gt (tgt := 126) hx hb dX13_isOut_110 (by decide) (fun c128 => ?_) (fun c128 => ?_)
                        · --110 taken
                          have t129 : a2.toInt < y126.toInt := ti_lt c128
                          have i130 : -2147483648 ≤ a2.toInt ∧ a2.toInt ≤ 399 := iv_lt_l t129 (iv_all _) iy126 (by decide)
                          obtain ⟨y131, ey131⟩ : ∃ y : Int32, y = v72_6 + (1 : Int32) := ⟨_, rfl⟩
                          obtain ⟨ty131, iy131⟩ := ti_add (e := 1) (f := 60) i115 ln_1 ey131 (by decide)
                          have ty131 : y131.toInt = v72_6.toInt + 1 := ty131
                          have iy131 : 1 ≤ y131.toInt ∧ y131.toInt ≤ 60 := iy131
                          refine lv_iinc (v := y131) (lv' := [(6, .int y131), (5, .int 2), (4, .int v3_4), (0, .ref (ad 0)), (1, .int a0), (2, .int a1), (3, .int a2)]) hx hb dX13_isOut_126 hl (k := 0) rfl (by rw [ey131]; rfl) (by decide) rfl (fun ls hl => ?_)
                          refine lv_goto (tgt := 72) hx hb dX13_isOut_129 (by decide) ?_
                          exact ih72 y131 _ _ _ (iv_w iy131 (by decide)) (fun k9 h9 g9 => dite (k9 = v72_6.toNatClampNeg) (fun q9 => by subst q9; exact (fun q9 => by have g0 : (xi (E 52) v72_6.toNatClampNeg).toInt ≤ a2.toInt := q9.2.1; have gy7 := congrArg Int32.toInt ey7; have gy14 := congrArg Int32.toInt ey14; have gy97 := congrArg Int32.toInt ey97; have gy102 := congrArg Int32.toInt ey102; have gy108 := congrArg Int32.toInt ey108; have gy117 := congrArg Int32.toInt ey117; have gy126 := congrArg Int32.toInt ey126; omega)) (fun q9 => hx72_0 k9 h9 (by rw [tn_] at g9 q9 ⊢; omega))) (by omega) (by omega) (by first | exact ms_su hx72_3 ty131 (by decide) | omega) hP hS (lv_sub hl [0, 1, 2, 3, 4, 5, 6] rfl)
                        · --110 not
                          have t132 : y126.toInt ≤ a2.toInt := ti_nlt c128
                          have i133 : 0 ≤ a2.toInt ∧ a2.toInt ≤ 2147483647 := iv_le_r t132 iy126 (iv_all _) (by decide)
                          refine lv_aload_n hx hb dX13_isOut_113 rfl (lv_at hl 3 rfl) ?_
                          refine th_get (ci := 14) (C := RX13) (T := TX13) (N := 97) (v := .ref (ad 53)) hx hb hts hinX13 hown hK hP hI 0 (Nat.le_of_ble_eq_true rfl) rfl rfl 71 (Nat.le_of_ble_eq_true rfl) (hts _ (vA_in _ _ (in_28 _ (zs4 (zs4 (zs0)))))) (fun _ h9 => h9) (hI.fr 0 (Nat.le_of_ble_eq_true rfl) rfl (Nat.le_of_ble_eq_true rfl) 53 rfl) dX13_isOut_114 ?_
                          refine lv_iload hx hb dX13_isOut_117 (lv_at hl 0 rfl) ?_
                          have n135 : vp_in v72_6 60 := (iv_in (n := 60) i115 (by decide))
                          refine th_iald hx hb hK hP hI 53 (Nat.le_of_ble_eq_true rfl) rfl rfl n135 dX13_isOut_119 (fun y134 ey134 => ?_)
                          have iy134 : 0 ≤ y134.toInt ∧ y134.toInt ≤ 1000 := hI.el 53 (Nat.le_of_ble_eq_true rfl) rfl n135 (fun _ => rfl) ey134
                          have ey134 := ey134.trans (hKp.ei 53 _ rfl)
                          refine lv_iload_n hx hb dX13_isOut_120 rfl (lv_at hl 6 rfl) ?_
                          refine lv_icmp_le (tgt := 126) hx hb dX13_isOut_121 (by decide) (fun c136 => ?_) (fun c136 => ?_)
                          · --121 taken
                            have t137 : y134.toInt ≤ a2.toInt := ti_le c136
                            obtain ⟨y138, ey138⟩ : ∃ y : Int32, y = v72_6 + (1 : Int32) := ⟨_, rfl⟩
                            obtain ⟨ty138, iy138⟩ := ti_add (e := 1) (f := 60) i115 ln_1 ey138 (by decide)
                            have ty138 : y138.toInt = v72_6.toInt + 1 := ty138
                            have iy138 : 1 ≤ y138.toInt ∧ y138.toInt ≤ 60 := iy138
                            refine lv_iinc (v := y138) (lv' := [(6, .int y138), (5, .int 2), (4, .int v3_4), (0, .ref (ad 0)), (1, .int a0), (2, .int a1), (3, .int a2)]) hx hb dX13_isOut_126 hl (k := 0) rfl (by rw [ey138]; rfl) (by decide) rfl (fun ls hl => ?_)
                            refine lv_goto (tgt := 72) hx hb dX13_isOut_129 (by decide) ?_
                            exact ih72 y138 _ _ _ (iv_w iy138 (by decide)) (fun k9 h9 g9 => dite (k9 = v72_6.toNatClampNeg) (fun q9 => by subst q9; exact (fun q9 => by have g0 : a2.toInt < (xi (E 53) v72_6.toNatClampNeg).toInt := q9.2.2; have gy7 := congrArg Int32.toInt ey7; have gy14 := congrArg Int32.toInt ey14; have gy97 := congrArg Int32.toInt ey97; have gy102 := congrArg Int32.toInt ey102; have gy108 := congrArg Int32.toInt ey108; have gy117 := congrArg Int32.toInt ey117; have gy126 := congrArg Int32.toInt ey126; have gy134 := congrArg Int32.toInt ey134; omega)) (fun q9 => hx72_0 k9 h9 (by rw [tn_] at g9 q9 ⊢; omega))) (by omega) (by omega) (by first | exact ms_su hx72_3 ty138 (by decide) | omega) hP hS (lv_sub hl [0, 1, 2, 3, 4, 5, 6] rfl)
                          · --121 not
                            have t139 : a2.toInt < y134.toInt := ti_nle c136
                            have i140 : 0 ≤ a2.toInt ∧ a2.toInt ≤ 999 := iv_lt_l t139 i133 iy134 (by decide)
                            have i141 : 1 ≤ y134.toInt ∧ y134.toInt ≤ 1000 := iv_lt_r t139 i133 iy134 (by decide)
                            refine lv_iconst (v := 1) hx hb dX13_isOut_124 (by decide) ?_
                            rw [hQ]
                            exact W.zret (v := 1) hx hb hr rfl (fun t ht hW => ⟨⟨1, (), rfl, Or.inl ⟨rfl, ⟨v3_4.toNatClampNeg, by rw [tn_, tn_]; omega, outM_e (bit := 2) (k := v72_6.toNatClampNeg) (show (xi (E 46) v3_4.toNatClampNeg).toInt = a0.toInt by have gy7 := congrArg Int32.toInt ey7; have gy14 := congrArg Int32.toInt ey14; have gy97 := congrArg Int32.toInt ey97; have gy102 := congrArg Int32.toInt ey102; have gy108 := congrArg Int32.toInt ey108; have gy117 := congrArg Int32.toInt ey117; have gy126 := congrArg Int32.toInt ey126; have gy134 := congrArg Int32.toInt ey134; omega) (show ((2 : Int) = 1 ∧ (xi (E 47) v3_4.toNatClampNeg).toInt = a1.toInt) ∨ ((2 : Int) = 2 ∧ ¬ (xi (E 47) v3_4.toNatClampNeg).toInt = a1.toInt ∧ (xi (E 48) v3_4.toNatClampNeg).toInt = a1.toInt) by have gy7 := congrArg Int32.toInt ey7; have gy14 := congrArg Int32.toInt ey14; have gy97 := congrArg Int32.toInt ey97; have gy102 := congrArg Int32.toInt ey102; have gy108 := congrArg Int32.toInt ey108; have gy117 := congrArg Int32.toInt ey117; have gy126 := congrArg Int32.toInt ey126; have gy134 := congrArg Int32.toInt ey134; omega) (by rw [tn_, tn_]; omega) (by have t3x : ((v3_4.toNatClampNeg : Nat) : Int) = v3_4.toInt := (by rw [tn_]; omega); have t7x : ((v72_6.toNatClampNeg : Nat) : Int) = v72_6.toInt := (by rw [tn_]; omega); have gy7 := congrArg Int32.toInt ey7; have gy14 := congrArg Int32.toInt ey14; have gy97 := congrArg Int32.toInt ey97; have gy102 := congrArg Int32.toInt ey102; have gy108 := congrArg Int32.toInt ey108; have gy117 := congrArg Int32.toInt ey117; have gy126 := congrArg Int32.toInt ey126; have gy134 := congrArg Int32.toInt ey134; omega) ⟨Classical.byContradiction (fun q9 => absurd ((hb2 (x := y117) (by omega) ey119).mpr (by rw [ey117]; exact q9)) (by omega)), by show (xi (E 52) v72_6.toNatClampNeg).toInt ≤ a2.toInt; have gy7 := congrArg Int32.toInt ey7; have gy14 := congrArg Int32.toInt ey14; have gy97 := congrArg Int32.toInt ey97; have gy102 := congrArg Int32.toInt ey102; have gy108 := congrArg Int32.toInt ey108; have gy117 := congrArg Int32.toInt ey117; have gy126 := congrArg Int32.toInt ey126; have gy134 := congrArg Int32.toInt ey134; omega, by show a2.toInt < (xi (E 53) v72_6.toNatClampNeg).toInt; have gy7 := congrArg Int32.toInt ey7; have gy14 := congrArg Int32.toInt ey14; have gy97 := congrArg Int32.toInt ey97; have gy102 := congrArg Int32.toInt ey102; have gy108 := congrArg Int32.toInt ey108; have gy117 := congrArg Int32.toInt ey117; have gy126 := congrArg Int32.toInt ey126; have gy134 := congrArg Int32.toInt ey134; omega⟩⟩⟩, trivial⟩, hS.F ht⟩) hS.2.2 dX13_isOut_125
                exact hL72 (61) y106 _ _ _ (iv_w iy106 (by decide)) (fun k9 h9 g9 => by exfalso; have t3x : ((v3_4.toNatClampNeg : Nat) : Int) = v3_4.toInt := (by rw [tn_]; omega); have h8 : k9 < y106.toNatClampNeg := g9; rw [tn_ y106] at h8; omega) (by omega) (by omega) (by have h9 := iy106; first | exact ms_bu h9.1 (by decide) | omega) hP hS (lv_sub hl [0, 1, 2, 3, 4, 5, 6] rfl)
              · --56 not
                have t142 : y102.toInt = a1.toInt := ti_eq c104
                refine lv_iconst (v := 1) hx hb dX13_isOut_59 (by decide) ?_
                refine lv_goto (tgt := 64) hx hb dX13_isOut_60 (by decide) ?_
                refine lv_istore (lv' := [(5, .int 1), (4, .int v3_4), (0, .ref (ad 0)), (1, .int a0), (2, .int a1), (3, .int a2)]) hx hb dX13_isOut_64 hl (by decide) rfl (fun ls hl => ?_)
                refine lv_iconst (v := 2) hx hb dX13_isOut_66 (by decide) ?_
                refine lv_iload hx hb dX13_isOut_67 (lv_at hl 1 rfl) ?_
                refine lv_imul hx hb dX13_isOut_69 ?_
                refine lv_topi (fun y143 ey143 => ?_)
                obtain ⟨ty143, iy143⟩ := ti_mul (e := 0) (f := 58) ln_2 i5 ey143 (by decide)
                have ty143 : y143.toInt = 2 * v3_4.toInt := ty143
                have iy143 : 0 ≤ y143.toInt ∧ y143.toInt ≤ 58 := iy143
                refine lv_istore (lv' := [(6, .int y143), (5, .int 1), (4, .int v3_4), (0, .ref (ad 0)), (1, .int a0), (2, .int a1), (3, .int a2)]) hx hb dX13_isOut_70 hl (by decide) rfl (fun ls hl => ?_)
                have hL72 : ∀ d : Nat, ∀ (v72_6 : Int32) (H : Heap) (locs : List Loc) (ls : Array Slot), 0 ≤ v72_6.toInt ∧ v72_6.toInt ≤ 60 → (∀ k9 : Nat, 2 * v3_4.toNatClampNeg ≤ k9 → k9 < v72_6.toNatClampNeg → ¬ kM E 1 a2.toInt k9) → 2 * v3_4.toInt ≤ v72_6.toInt → v72_6.toInt ≤ 2 * v3_4.toInt + 2 → 60 - v72_6.toInt < (d : Int) → va_P (dC, dI) vwCl (WX 72 ad E) H → va_S (fun _ : Nat => False) s.heap H locs → lv_has ls 7 [(6, .int v72_6), (5, .int 1), (4, .int v3_4), (0, .ref (ad 0)), (1, .int a0), (2, .int a1), (3, .int a2)] → W p l e (headSpec v_isOutM rm_isOutM).room s m args below meth c H locs 0 0 Q (F0 m 72 ls []) := by
                  intro d
                  induction d with
                  | zero =>
                    intro v72_6 H locs ls hv72_6 hx72_0 hx72_1 hx72_2 hx72_3 hP hS hl
                    exact absurd hx72_3 (by first | exact ms_zu hv72_6.2 | omega)
                  | succ d ih72 =>
                    intro v72_6 H locs ls hv72_6 hx72_0 hx72_1 hx72_2 hx72_3 hP hS hl
                    refine lv_iload hx hb dX13_isOut_72 (lv_at hl 0 rfl) ?_
                    refine lv_iconst (v := 2) hx hb dX13_isOut_74 (by decide) ?_
                    refine lv_iload hx hb dX13_isOut_75 (lv_at hl 2 rfl) ?_
                    refine lv_imul hx hb dX13_isOut_77 ?_
                    refine lv_topi (fun y144 ey144 => ?_)
                    obtain ⟨ty144, iy144⟩ := ti_mul (e := 0) (f := 58) ln_2 i5 ey144 (by decide)
                    have ty144 : y144.toInt = 2 * v3_4.toInt := ty144
                    have iy144 : 0 ≤ y144.toInt ∧ y144.toInt ≤ 58 := iy144
                    refine lv_aload_n hx hb dX13_isOut_78 rfl (lv_at hl 3 rfl) ?_
                    refine th_get (ci := 14) (C := RX13) (T := TX13) (N := 97) (v := .ref (ad 54)) hx hb hts hinX13 hown hK hP hI 0 (Nat.le_of_ble_eq_true rfl) rfl rfl 72 (Nat.le_of_ble_eq_true rfl) (hts _ (vA_in _ _ (in_28 _ (zs4 (zs1 (zs0)))))) (fun _ h9 => h9) (hI.fr 0 (Nat.le_of_ble_eq_true rfl) rfl (Nat.le_of_ble_eq_true rfl) 54 rfl) dX13_isOut_79 ?_
                    refine lv_iload hx hb dX13_isOut_82 (lv_at hl 2 rfl) ?_
                    have n146 : vp_in v3_4 30 := (iv_in (n := 30) i5 (by decide))
                    refine th_iald hx hb hK hP hI 54 (Nat.le_of_ble_eq_true rfl) rfl rfl n146 dX13_isOut_84 (fun y145 ey145 => ?_)
                    have iy145 : 0 ≤ y145.toInt ∧ y145.toInt ≤ 2 := hI.el 54 (Nat.le_of_ble_eq_true rfl) rfl n146 (fun _ => rfl) ey145
                    have ey145 := ey145.trans (hKp.ei 54 _ rfl)
                    refine lv_iadd hx hb dX13_isOut_85 ?_
                    refine lv_topi (fun y147 ey147 => ?_)
                    obtain ⟨ty147, iy147⟩ := ti_add (e := 0) (f := 60) iy144 iy145 ey147 (by decide)
                    have ty147 : y147.toInt = y144.toInt + y145.toInt := ty147
                    have iy147 : 0 ≤ y147.toInt ∧ y147.toInt ≤ 60 := iy147
                    refine lv_icmp_ge (tgt := 132) hx hb dX13_isOut_86 (by decide) (fun c148 => ?_) (fun c148 => ?_)
                    · --86 taken
                      have t149 : y147.toInt ≤ v72_6.toInt := ti_le c148
                      obtain ⟨y150, ey150⟩ : ∃ y : Int32, y = v3_4 + (1 : Int32) := ⟨_, rfl⟩
                      obtain ⟨ty150, iy150⟩ := ti_add (e := 1) (f := 30) i5 ln_1 ey150 (by decide)
                      have ty150 : y150.toInt = v3_4.toInt + 1 := ty150
                      have iy150 : 1 ≤ y150.toInt ∧ y150.toInt ≤ 30 := iy150
                      refine lv_iinc (v := y150) (lv' := [(4, .int y150), (6, .int v72_6), (5, .int 1), (0, .ref (ad 0)), (1, .int a0), (2, .int a1), (3, .int a2)]) hx hb dX13_isOut_132 hl (k := 2) rfl (by rw [ey150]; rfl) (by decide) rfl (fun ls hl => ?_)
                      refine lv_goto (tgt := 3) hx hb dX13_isOut_135 (by decide) ?_
                      exact ih3 y150 _ _ _ (iv_w iy150 (by decide)) (fun p9 h9 => dite (p9 = v3_4.toNatClampNeg) (fun q9 => by subst q9; exact (outM_n (bit := 1) (show ((1 : Int) = 1 ∧ (xi (E 47) v3_4.toNatClampNeg).toInt = a1.toInt) ∨ ((1 : Int) = 2 ∧ ¬ (xi (E 47) v3_4.toNatClampNeg).toInt = a1.toInt ∧ (xi (E 48) v3_4.toNatClampNeg).toInt = a1.toInt) by have gy7 := congrArg Int32.toInt ey7; have gy14 := congrArg Int32.toInt ey14; have gy97 := congrArg Int32.toInt ey97; have gy102 := congrArg Int32.toInt ey102; have gy145 := congrArg Int32.toInt ey145; omega) (fun k9 h9 g9 => hx72_0 k9 h9 (by have t3x : ((v3_4.toNatClampNeg : Nat) : Int) = v3_4.toInt := (by rw [tn_]; omega); have t7x : ((v72_6.toNatClampNeg : Nat) : Int) = v72_6.toInt := (by rw [tn_]; omega); have gy7 := congrArg Int32.toInt ey7; have gy14 := congrArg Int32.toInt ey14; have gy97 := congrArg Int32.toInt ey97; have gy102 := congrArg Int32.toInt ey102; have gy145 := congrArg Int32.toInt ey145; omega)))) (fun q9 => hx3_0 p9 (by rw [tn_] at h9 q9 ⊢; omega))) (by omega) (by first | exact ms_su hx3_2 ty150 (by decide) | omega) hP hS (lv_sub hl [0, 3, 4, 5, 6] rfl)
                    · --86 not
                      have t151 : v72_6.toInt < y147.toInt := ti_nle c148
                      have i152 : 0 ≤ v72_6.toInt ∧ v72_6.toInt ≤ 59 := iv_lt_l t151 hv72_6 iy147 (by decide)
                      have i153 : 1 ≤ y147.toInt ∧ y147.toInt ≤ 60 := iv_lt_r t151 hv72_6 iy147 (by decide)
                      refine lv_aload_n hx hb dX13_isOut_89 rfl (lv_at hl 3 rfl) ?_
                      refine th_get (ci := 14) (C := RX13) (T := TX13) (N := 97) (v := .ref (ad 51)) hx hb hts hinX13 hown hK hP hI 0 (Nat.le_of_ble_eq_true rfl) rfl rfl 69 (Nat.le_of_ble_eq_true rfl) (hts _ (vA_in _ _ (in_28 _ (zs4 (zs1 (zs1 (zs0))))))) (fun _ h9 => h9) (hI.fr 0 (Nat.le_of_ble_eq_true rfl) rfl (Nat.le_of_ble_eq_true rfl) 51 rfl) dX13_isOut_90 ?_
                      refine lv_iload hx hb dX13_isOut_93 (lv_at hl 0 rfl) ?_
                      have n155 : vp_in v72_6 60 := (iv_in (n := 60) i152 (by decide))
                      refine th_iald hx hb hK hP hI 51 (Nat.le_of_ble_eq_true rfl) rfl rfl n155 dX13_isOut_95 (fun y154 ey154 => ?_)
                      have iy154 : 0 ≤ y154.toInt ∧ y154.toInt ≤ 3 := hI.el 51 (Nat.le_of_ble_eq_true rfl) rfl n155 (fun _ => rfl) ey154
                      have ey154 := ey154.trans (hKp.ei 51 _ rfl)
                      refine lv_iload hx hb dX13_isOut_96 (lv_at hl 1 rfl) ?_
                      refine lv_iand hx hb dX13_isOut_98 ?_
                      refine lv_topi (fun y156 ey156 => ?_)
                      have iy156 : 0 ≤ y156.toInt ∧ y156.toInt ≤ 1 := ti_and (by decide) ey156
                      refine lv_if_eq (tgt := 126) hx hb dX13_isOut_99 (by decide) (fun c157 => ?_) (fun c157 => ?_)
                      · --99 taken
                        have t158 : y156.toInt = 0 := ti_eq c157
                        have i159 : 0 ≤ y156.toInt ∧ y156.toInt ≤ 0 := iv_eqi t158 iy156 (il_ 0) (by decide)
                        obtain ⟨y160, ey160⟩ : ∃ y : Int32, y = v72_6 + (1 : Int32) := ⟨_, rfl⟩
                        obtain ⟨ty160, iy160⟩ := ti_add (e := 1) (f := 60) i152 ln_1 ey160 (by decide)
                        have ty160 : y160.toInt = v72_6.toInt + 1 := ty160
                        have iy160 : 1 ≤ y160.toInt ∧ y160.toInt ≤ 60 := iy160
                        refine lv_iinc (v := y160) (lv' := [(6, .int y160), (5, .int 1), (4, .int v3_4), (0, .ref (ad 0)), (1, .int a0), (2, .int a1), (3, .int a2)]) hx hb dX13_isOut_126 hl (k := 0) rfl (by rw [ey160]; rfl) (by decide) rfl (fun ls hl => ?_)
                        refine lv_goto (tgt := 72) hx hb dX13_isOut_129 (by decide) ?_
                        exact ih72 y160 _ _ _ (iv_w iy160 (by decide)) (fun k9 h9 g9 => dite (k9 = v72_6.toNatClampNeg) (fun q9 => by subst q9; exact (fun q9 => (hb1 (by omega) ey156).mp (by omega) (by rw [ey154]; exact q9.1))) (fun q9 => hx72_0 k9 h9 (by rw [tn_] at g9 q9 ⊢; omega))) (by omega) (by omega) (by first | exact ms_su hx72_3 ty160 (by decide) | omega) hP hS (lv_sub hl [0, 1, 2, 3, 4, 5, 6] rfl)
                      · --99 not
                        have t161 : ¬ y156.toInt = 0 := ti_ne c157
                        have i162 : 1 ≤ y156.toInt ∧ y156.toInt ≤ 1 := iv_ne_l t161 iy156 (il_ 0)
                        refine lv_aload_n hx hb dX13_isOut_102 rfl (lv_at hl 3 rfl) ?_
                        refine th_get (ci := 14) (C := RX13) (T := TX13) (N := 97) (v := .ref (ad 52)) hx hb hts hinX13 hown hK hP hI 0 (Nat.le_of_ble_eq_true rfl) rfl rfl 70 (Nat.le_of_ble_eq_true rfl) (hts _ (vA_in _ _ (in_28 _ (zs4 (zs1 (zs1 (zs1 (zs0)))))))) (fun _ h9 => h9) (hI.fr 0 (Nat.le_of_ble_eq_true rfl) rfl (Nat.le_of_ble_eq_true rfl) 52 rfl) dX13_isOut_103 ?_
                        refine lv_iload hx hb dX13_isOut_106 (lv_at hl 0 rfl) ?_
                        have n164 : vp_in v72_6 60 := (iv_in (n := 60) i152 (by decide))
                        refine th_iald hx hb hK hP hI 52 (Nat.le_of_ble_eq_true rfl) rfl rfl n164 dX13_isOut_108 (fun y163 ey163 => ?_)
                        have iy163 : 0 ≤ y163.toInt ∧ y163.toInt ≤ 400 := hI.el 52 (Nat.le_of_ble_eq_true rfl) rfl n164 (fun _ => rfl) ey163
                        have ey163 := ey163.trans (hKp.ei 52 _ rfl)
                        refine lv_iload_n hx hb dX13_isOut_109 rfl (lv_at hl 6 rfl) ?_
                        refine lv_icmp_gt (tgt := 126) hx hb dX13_isOut_110 (by decide) (fun c165 => ?_) (fun c165 => ?_)
                        · --110 taken
                          have t166 : a2.toInt < y163.toInt := ti_lt c165
                          have i167 : -2147483648 ≤ a2.toInt ∧ a2.toInt ≤ 399 := iv_lt_l t166 (iv_all _) iy163 (by decide)
                          obtain ⟨y168, ey168⟩ : ∃ y : Int32, y = v72_6 + (1 : Int32) := ⟨_, rfl⟩
                          obtain ⟨ty168, iy168⟩ := ti_add (e := 1) (f := 60) i152 ln_1 ey168 (by decide)
                          have ty168 : y168.toInt = v72_6.toInt + 1 := ty168
                          have iy168 : 1 ≤ y168.toInt ∧ y168.toInt ≤ 60 := iy168
                          refine lv_iinc (v := y168) (lv' := [(6, .int y168), (5, .int 1), (4, .int v3_4), (0, .ref (ad 0)), (1, .int a0), (2, .int a1), (3, .int a2)]) hx hb dX13_isOut_126 hl (k := 0) rfl (by rw [ey168]; rfl) (by decide) rfl (fun ls hl => ?_)
                          refine lv_goto (tgt := 72) hx hb dX13_isOut_129 (by decide) ?_
                          exact ih72 y168 _ _ _ (iv_w iy168 (by decide)) (fun k9 h9 g9 => dite (k9 = v72_6.toNatClampNeg) (fun q9 => by subst q9; exact (fun q9 => by have g0 : (xi (E 52) v72_6.toNatClampNeg).toInt ≤ a2.toInt := q9.2.1; have gy7 := congrArg Int32.toInt ey7; have gy14 := congrArg Int32.toInt ey14; have gy97 := congrArg Int32.toInt ey97; have gy102 := congrArg Int32.toInt ey102; have gy145 := congrArg Int32.toInt ey145; have gy154 := congrArg Int32.toInt ey154; have gy163 := congrArg Int32.toInt ey163; omega)) (fun q9 => hx72_0 k9 h9 (by rw [tn_] at g9 q9 ⊢; omega))) (by omega) (by omega) (by first | exact ms_su hx72_3 ty168 (by decide) | omega) hP hS (lv_sub hl [0, 1, 2, 3, 4, 5, 6] rfl)
                        · --110 not
                          have t169 : y163.toInt ≤ a2.toInt := ti_nlt c165
                          have i170 : 0 ≤ a2.toInt ∧ a2.toInt ≤ 2147483647 := iv_le_r t169 iy163 (iv_all _) (by decide)
                          refine lv_aload_n hx hb dX13_isOut_113 rfl (lv_at hl 3 rfl) ?_
                          refine th_get (ci := 14) (C := RX13) (T := TX13) (N := 97) (v := .ref (ad 53)) hx hb hts hinX13 hown hK hP hI 0 (Nat.le_of_ble_eq_true rfl) rfl rfl 71 (Nat.le_of_ble_eq_true rfl) (hts _ (vA_in _ _ (in_28 _ (zs4 (zs4 (zs0)))))) (fun _ h9 => h9) (hI.fr 0 (Nat.le_of_ble_eq_true rfl) rfl (Nat.le_of_ble_eq_true rfl) 53 rfl) dX13_isOut_114 ?_
                          refine lv_iload hx hb dX13_isOut_117 (lv_at hl 0 rfl) ?_
                          have n172 : vp_in v72_6 60 := (iv_in (n := 60) i152 (by decide))
                          refine th_iald hx hb hK hP hI 53 (Nat.le_of_ble_eq_true rfl) rfl rfl n172 dX13_isOut_119 (fun y171 ey171 => ?_)
                          have iy171 : 0 ≤ y171.toInt ∧ y171.toInt ≤ 1000 := hI.el 53 (Nat.le_of_ble_eq_true rfl) rfl n172 (fun _ => rfl) ey171
                          have ey171 := ey171.trans (hKp.ei 53 _ rfl)
                          refine lv_iload_n hx hb dX13_isOut_120 rfl (lv_at hl 6 rfl) ?_
                          refine lv_icmp_le (tgt := 126) hx hb dX13_isOut_121 (by decide) (fun c173 => ?_) (fun c173 => ?_)
                          · --121 taken
                            have t174 : y171.toInt ≤ a2.toInt := ti_le c173
                            obtain ⟨y175, ey175⟩ : ∃ y : Int32, y = v72_6 + (1 : Int32) := ⟨_, rfl⟩
                            obtain ⟨ty175, iy175⟩ := ti_add (e := 1) (f := 60) i152 ln_1 ey175 (by decide)
                            have ty175 : y175.toInt = v72_6.toInt + 1 := ty175
                            have iy175 : 1 ≤ y175.toInt ∧ y175.toInt ≤ 60 := iy175
                            refine lv_iinc (v := y175) (lv' := [(6, .int y175), (5, .int 1), (4, .int v3_4), (0, .ref (ad 0)), (1, .int a0), (2, .int a1), (3, .int a2)]) hx hb dX13_isOut_126 hl (k := 0) rfl (by rw [ey175]; rfl) (by decide) rfl (fun ls hl => ?_)
                            refine lv_goto (tgt := 72) hx hb dX13_isOut_129 (by decide) ?_
                            exact ih72 y175 _ _ _ (iv_w iy175 (by decide)) (fun k9 h9 g9 => dite (k9 = v72_6.toNatClampNeg) (fun q9 => by subst q9; exact (fun q9 => by have g0 : a2.toInt < (xi (E 53) v72_6.toNatClampNeg).toInt := q9.2.2; have gy7 := congrArg Int32.toInt ey7; have gy14 := congrArg Int32.toInt ey14; have gy97 := congrArg Int32.toInt ey97; have gy102 := congrArg Int32.toInt ey102; have gy145 := congrArg Int32.toInt ey145; have gy154 := congrArg Int32.toInt ey154; have gy163 := congrArg Int32.toInt ey163; have gy171 := congrArg Int32.toInt ey171; omega)) (fun q9 => hx72_0 k9 h9 (by rw [tn_] at g9 q9 ⊢; omega))) (by omega) (by omega) (by first | exact ms_su hx72_3 ty175 (by decide) | omega) hP hS (lv_sub hl [0, 1, 2, 3, 4, 5, 6] rfl)
                          · --121 not
                            have t176 : a2.toInt < y171.toInt := ti_nle c173
                            have i177 : 0 ≤ a2.toInt ∧ a2.toInt ≤ 999 := iv_lt_l t176 i170 iy171 (by decide)
                            have i178 : 1 ≤ y171.toInt ∧ y171.toInt ≤ 1000 := iv_lt_r t176 i170 iy171 (by decide)
                            refine lv_iconst (v := 1) hx hb dX13_isOut_124 (by decide) ?_
                            rw [hQ]
                            exact W.zret (v := 1) hx hb hr rfl (fun t ht hW => ⟨⟨1, (), rfl, Or.inl ⟨rfl, ⟨v3_4.toNatClampNeg, by rw [tn_, tn_]; omega, outM_e (bit := 1) (k := v72_6.toNatClampNeg) (show (xi (E 46) v3_4.toNatClampNeg).toInt = a0.toInt by have gy7 := congrArg Int32.toInt ey7; have gy14 := congrArg Int32.toInt ey14; have gy97 := congrArg Int32.toInt ey97; have gy102 := congrArg Int32.toInt ey102; have gy145 := congrArg Int32.toInt ey145; have gy154 := congrArg Int32.toInt ey154; have gy163 := congrArg Int32.toInt ey163; have gy171 := congrArg Int32.toInt ey171; omega) (show ((1 : Int) = 1 ∧ (xi (E 47) v3_4.toNatClampNeg).toInt = a1.toInt) ∨ ((1 : Int) = 2 ∧ ¬ (xi (E 47) v3_4.toNatClampNeg).toInt = a1.toInt ∧ (xi (E 48) v3_4.toNatClampNeg).toInt = a1.toInt) by have gy7 := congrArg Int32.toInt ey7; have gy14 := congrArg Int32.toInt ey14; have gy97 := congrArg Int32.toInt ey97; have gy102 := congrArg Int32.toInt ey102; have gy145 := congrArg Int32.toInt ey145; have gy154 := congrArg Int32.toInt ey154; have gy163 := congrArg Int32.toInt ey163; have gy171 := congrArg Int32.toInt ey171; omega) (by rw [tn_, tn_]; omega) (by have t3x : ((v3_4.toNatClampNeg : Nat) : Int) = v3_4.toInt := (by rw [tn_]; omega); have t7x : ((v72_6.toNatClampNeg : Nat) : Int) = v72_6.toInt := (by rw [tn_]; omega); have gy7 := congrArg Int32.toInt ey7; have gy14 := congrArg Int32.toInt ey14; have gy97 := congrArg Int32.toInt ey97; have gy102 := congrArg Int32.toInt ey102; have gy145 := congrArg Int32.toInt ey145; have gy154 := congrArg Int32.toInt ey154; have gy163 := congrArg Int32.toInt ey163; have gy171 := congrArg Int32.toInt ey171; omega) ⟨Classical.byContradiction (fun q9 => absurd ((hb1 (x := y154) (by omega) ey156).mpr (by rw [ey154]; exact q9)) (by omega)), by show (xi (E 52) v72_6.toNatClampNeg).toInt ≤ a2.toInt; have gy7 := congrArg Int32.toInt ey7; have gy14 := congrArg Int32.toInt ey14; have gy97 := congrArg Int32.toInt ey97; have gy102 := congrArg Int32.toInt ey102; have gy145 := congrArg Int32.toInt ey145; have gy154 := congrArg Int32.toInt ey154; have gy163 := congrArg Int32.toInt ey163; have gy171 := congrArg Int32.toInt ey171; omega, by show a2.toInt < (xi (E 53) v72_6.toNatClampNeg).toInt; have gy7 := congrArg Int32.toInt ey7; have gy14 := congrArg Int32.toInt ey14; have gy97 := congrArg Int32.toInt ey97; have gy102 := congrArg Int32.toInt ey102; have gy145 := congrArg Int32.toInt ey145; have gy154 := congrArg Int32.toInt ey154; have gy163 := congrArg Int32.toInt ey163; have gy171 := congrArg Int32.toInt ey171; omega⟩⟩⟩, trivial⟩, hS.F ht⟩) hS.2.2 dX13_isOut_125
                exact hL72 (61) y143 _ _ _ (iv_w iy143 (by decide)) (fun k9 h9 g9 => by exfalso; have t3x : ((v3_4.toNatClampNeg : Nat) : Int) = v3_4.toInt := (by rw [tn_]; omega); have h8 : k9 < y143.toNatClampNeg := g9; rw [tn_ y143] at h8; omega) (by omega) (by omega) (by have h9 := iy143; first | exact ms_bu h9.1 (by decide) | omega) hP hS (lv_sub hl [0, 1, 2, 3, 4, 5, 6] rfl)
            · --42 not
              have t179 : ¬ y97.toInt = a1.toInt := ti_ne c99
              refine lv_goto (tgt := 132) hx hb dX13_isOut_45 (by decide) ?_
              obtain ⟨y180, ey180⟩ : ∃ y : Int32, y = v3_4 + (1 : Int32) := ⟨_, rfl⟩
              obtain ⟨ty180, iy180⟩ := ti_add (e := 1) (f := 30) i5 ln_1 ey180 (by decide)
              have ty180 : y180.toInt = v3_4.toInt + 1 := ty180
              have iy180 : 1 ≤ y180.toInt ∧ y180.toInt ≤ 30 := iy180
              refine lv_iinc (v := y180) (lv' := [(4, .int y180), (0, .ref (ad 0)), (1, .int a0), (2, .int a1), (3, .int a2)]) hx hb dX13_isOut_132 hl (k := 0) rfl (by rw [ey180]; rfl) (by decide) rfl (fun ls hl => ?_)
              refine lv_goto (tgt := 3) hx hb dX13_isOut_135 (by decide) ?_
              exact ih3 y180 _ _ _ (iv_w iy180 (by decide)) (fun p9 h9 => dite (p9 = v3_4.toNatClampNeg) (fun q9 => by subst q9; exact (fun q9 => by have g0 : (xi (E 47) v3_4.toNatClampNeg).toInt = a1.toInt ∨ (xi (E 48) v3_4.toNatClampNeg).toInt = a1.toInt := q9.2.1; have gy7 := congrArg Int32.toInt ey7; have gy14 := congrArg Int32.toInt ey14; have gy97 := congrArg Int32.toInt ey97; omega)) (fun q9 => hx3_0 p9 (by rw [tn_] at h9 q9 ⊢; omega))) (by omega) (by first | exact ms_su hx3_2 ty180 (by decide) | omega) hP hS (lv_sub hl [0, 1, 2, 3, 4] rfl)
  exact hL3 (31) (0 : Int32) _ _ _ (iv_w ln_0 (by decide)) (fun p9 h9 => absurd h9 (Nat.not_lt_zero p9)) (by omega) (by have h9 := ln_0; first | exact ms_bu h9.1 (by decide) | omega) hP hS (lv_sub hl [0, 1, 2, 3, 4] rfl)
def v_codeOfM : List Cond := .code yX13_codeOf cX13_codeOf 5 (some .int) :: vA
abbrev rm_codeOfM : Room := { frames := 1, cells := 0, slots := 0, locals := 40 }
set_option maxHeartbeats 4000000 in
set_option maxRecDepth 100000 in
theorem q_codeOfM (l : Launch) (dC : Nat → ClassId) (dI : Nat → Nat → Nat) (cT : Nat → ClassId) (ad : Nat → Nat) (E : Nat → va_E) (sz : Nat) (a0 : Int32) (a1 : Int32) (a2 : Int32) (hI0 : IX cT shM spM 72 ad E) (hh0 : 0 ≤ a0.toInt ∧ a0.toInt ≤ 19) (hh1 : 0 ≤ a1.toInt ∧ a1.toInt ≤ 15) : Met l yX13_codeOf v_codeOfM rm_codeOfM (va_Pc [.ref (ad 0), .int a0, .int a1, .int a2] (HW dC dI (TYM cT) 72 ad E sz)) (va_Qi (S := Unit) (fun r _ => (0 ≤ r.toInt ∧ r.toInt ≤ 5) ∧ (CdM E a0 a1 a2 r.toInt)) (fun _ _ => True) (fun _ => False)) 0 0 (fun _ => False) := by
  refine Met.ofW (cc := cX13_codeOf) (maxL := 5) (ret := (some .int)) (by decide) rfl ?_
  intro p e s m args below meth c s₁ B hml hv
  obtain ⟨hargs, hsz, hP, hK, hD0, hEV⟩ := hv
  subst hsz
  have hx := B.exec
  have hb := B.bytes
  have hr := B.returns
  have hts := atoms_spec (ws := v_codeOfM) B.pre
  have hown : s.vm.findClass RX13 = some m.cls := findClass_of_methodNamed B.named
  have hlocks := B.notSynchronized
  have hinX13 : ∀ w ∈ u_ws RX13 TX13 97, w ∈ v_codeOfM := fun w h => vA_in _ w (in_X13 w h)
  have hS : va_S (fun _ : Nat => False) s.heap s.heap [] := va_S.rf
  have hD := hD0
  have hI := hI0
  have hKp : Kp (wl [] []) E E := Kp.rf
  have hl := lv_entry ([.ref (ad 0), .int a0, .int a1, .int a2]) (n := 5) (Nat.le_of_ble_eq_true rfl)
  obtain ⟨Q, hQ⟩ : ∃ Q, Q = MQ below (va_Qi (S := Unit) (fun r _ => (0 ≤ r.toInt ∧ r.toInt ≤ 5) ∧ (CdM E a0 a1 a2 r.toInt)) (fun _ _ => True) (fun _ => False)) args s 0 0 (fun _ => False) := ⟨_, rfl⟩
  rw [← hQ, show entryFrame m args 5 = _ from (congrArg (fun z => entryFrame m z 5) hargs).trans (lg_entry_eq _ _ _)]
  generalize (lg_sl ([.ref (ad 0), .int a0, .int a1, .int a2]) ++ List.replicate (5 - (lg_sl ([.ref (ad 0), .int a0, .int a1, .int a2])).length) Slot.unset).toArray = ls at hl ⊢
  have hl : lv_has ls 5 [(0, .ref (ad 0)), (1, .int a0), (2, .int a1), (3, .int a2)] := hl
  refine lv_aload_n hx hb dX13_codeOf_0 rfl (lv_at hl 0 rfl) ?_
  refine lv_iload_n hx hb dX13_codeOf_1 rfl (lv_at hl 1 rfl) ?_
  refine lv_iload_n hx hb dX13_codeOf_2 rfl (lv_at hl 2 rfl) ?_
  refine lv_iload_n hx hb dX13_codeOf_3 rfl (lv_at hl 3 rfl) ?_
  refine th_ri (va_runV (As := [.int a0, .int a1, .int a2]) (rest := []) ⟨hx, hb, hml, hown, hts⟩ (q_isEntered l dC dI cT ad E s.heap.size a0 a1 a2 hI hh0 hh1) (cwV 3 hts (gi_V (in_24 _ (zs16 (zs16 (zs1 (zs1 (zs1 (zs0))))))) (in_24 _ (zs16 (zs16 (zs4 (zs0))))) (in_24 _ (zs16 (zs16 (zs4 (zs1 (zs0)))))) (in_24 _ (zs4 (zs4 (zs4 (zs1 (zs1 (zs1 (zs0)))))))) (in_24 _ (zs16 (zs16 (zs4 (zs1 (zs1 (zs0)))))))) rfl rfl rfl ⟨rfl, hz_yX13_isEntered_3⟩ ⟨Nat.le_of_ble_eq_true rfl, Nat.le_of_ble_eq_true rfl⟩) ⟨HW_bl, va_recv hK hP (ci := 14) (q0 := 0) rfl (hI.ob 0 (Nat.le_of_ble_eq_true rfl) rfl), (HW_wiR hP hK (WX_D hD) hS hEV)⟩ rfl rfl hl.1 rfl (lv_room (Nat.le_of_ble_eq_true rfl)) dX13_codeOf_4 ⟨Nat.le_of_ble_eq_true rfl, Nat.le_of_ble_eq_true rfl⟩) hS hP (fun r1 H locs hw hP hS => ?_)
  rcases hw with hw | hw
  · -- isEntered, case 0
    obtain ⟨rfl, f2⟩ := hw
    refine lv_if_ne (tgt := 12) hx hb dX13_codeOf_7 (by decide) (fun c3 => ?_) (fun c3 => ?_)
    · --7 taken
      refine lv_aload_n hx hb dX13_codeOf_12 rfl (lv_at hl 0 rfl) ?_
      refine lv_iload_n hx hb dX13_codeOf_13 rfl (lv_at hl 1 rfl) ?_
      refine lv_iload_n hx hb dX13_codeOf_14 rfl (lv_at hl 2 rfl) ?_
      refine lv_iload_n hx hb dX13_codeOf_15 rfl (lv_at hl 3 rfl) ?_
      refine th_ri (va_runV (As := [.int a0, .int a1, .int a2]) (rest := []) ⟨hx, hb, hml, hown, hts⟩ (q_isOutM l dC dI cT ad E H.size a0 a1 a2 hI) (cwV 3 hts (gi_V (in_28 _ (zs1 (zs0))) (in_28 _ (zs1 (zs1 (zs0)))) (in_28 _ (zs1 (zs1 (zs1 (zs0))))) (in_24 _ (zs4 (zs4 (zs4 (zs1 (zs1 (zs1 (zs0)))))))) (in_28 _ (zs4 (zs0)))) rfl rfl rfl ⟨rfl, hz_yX13_isOut_3⟩ ⟨Nat.le_of_ble_eq_true rfl, Nat.le_of_ble_eq_true rfl⟩) ⟨HW_bl, va_recv hK hP (ci := 14) (q0 := 0) rfl (hI.ob 0 (Nat.le_of_ble_eq_true rfl) rfl), (HW_wiR hP hK (WX_D hD) hS hEV)⟩ rfl rfl hl.1 rfl (lv_room (Nat.le_of_ble_eq_true rfl)) dX13_codeOf_16 ⟨Nat.le_of_ble_eq_true rfl, Nat.le_of_ble_eq_true rfl⟩) hS hP (fun r4 H locs hw hP hS => ?_)
      rcases hw with hw | hw
      · -- isOutM, case 0
        obtain ⟨rfl, f5⟩ := hw
        have i6 : 0 ≤ (xi (E 0) 75).toInt ∧ (xi (E 0) 75).toInt ≤ 30 := (show 0 ≤ (xi (E 0) 75).toInt ∧ (xi (E 0) 75).toInt ≤ 30 from hI0.iv 0 (Nat.le_of_ble_eq_true rfl) rfl (Nat.le_of_ble_eq_true rfl) rfl)
        refine lv_if_eq (tgt := 24) hx hb dX13_codeOf_19 (by decide) (fun c7 => ?_) (fun c7 => ?_)
        · --19 taken
          exact absurd c7 (by decide)
        · --19 not
          refine lv_iconst (v := 5) hx hb dX13_codeOf_22 (by decide) ?_
          rw [hQ]
          exact W.iret (v := 5) hx hb hr (fun t ht hW => ⟨⟨5, (), rfl, ⟨(iv_w ln_5 (by decide)), ⟨fun q9 => absurd (show entMd E a0.toInt a1.toInt a2.toInt from f2) q9, fun _ => ⟨fun _ => rfl, fun q9 => absurd f5 q9⟩⟩⟩, trivial⟩, hS.F ht⟩) hS.2.2 dX13_codeOf_23
      · -- isOutM, case 1
        obtain ⟨rfl, f8⟩ := hw
        have i9 : 0 ≤ (xi (E 0) 75).toInt ∧ (xi (E 0) 75).toInt ≤ 30 := (show 0 ≤ (xi (E 0) 75).toInt ∧ (xi (E 0) 75).toInt ≤ 30 from hI0.iv 0 (Nat.le_of_ble_eq_true rfl) rfl (Nat.le_of_ble_eq_true rfl) rfl)
        refine lv_if_eq (tgt := 24) hx hb dX13_codeOf_19 (by decide) (fun c10 => ?_) (fun c10 => ?_)
        · --19 taken
          refine lv_aload_n hx hb dX13_codeOf_24 rfl (lv_at hl 0 rfl) ?_
          refine lv_iload_n hx hb dX13_codeOf_25 rfl (lv_at hl 1 rfl) ?_
          refine lv_iload_n hx hb dX13_codeOf_26 rfl (lv_at hl 2 rfl) ?_
          refine lv_iload_n hx hb dX13_codeOf_27 rfl (lv_at hl 3 rfl) ?_
          refine th_ri (va_runV (As := [.int a0, .int a1, .int a2]) (rest := []) ⟨hx, hb, hml, hown, hts⟩ (q_resultOf l dC dI cT ad E H.size a0 a1 a2 hI) (cwV 3 hts (gi_V (in_28 _ (zs4 (zs4 (zs1 (zs0))))) (in_28 _ (zs4 (zs4 (zs1 (zs1 (zs0)))))) (in_28 _ (zs4 (zs4 (zs1 (zs1 (zs1 (zs0))))))) (in_24 _ (zs4 (zs4 (zs4 (zs1 (zs1 (zs1 (zs0)))))))) (in_28 _ (zs4 (zs4 (zs4 (zs0)))))) rfl rfl rfl ⟨rfl, hz_yX13_resultOf_3⟩ ⟨Nat.le_of_ble_eq_true rfl, Nat.le_of_ble_eq_true rfl⟩) ⟨HW_bl, va_recv hK hP (ci := 14) (q0 := 0) rfl (hI.ob 0 (Nat.le_of_ble_eq_true rfl) rfl), (HW_wiR hP hK (WX_D hD) hS hEV)⟩ rfl rfl hl.1 rfl (lv_room (Nat.le_of_ble_eq_true rfl)) dX13_codeOf_28 ⟨Nat.le_of_ble_eq_true rfl, Nat.le_of_ble_eq_true rfl⟩) hS hP (fun r11 H locs hw hP hS => ?_)
          obtain ⟨f12, f13⟩ := hw
          have i14 : 0 ≤ (xi (E 0) 47).toInt ∧ (xi (E 0) 47).toInt ≤ 300 := (show 0 ≤ (xi (E 0) 47).toInt ∧ (xi (E 0) 47).toInt ≤ 300 from hI0.iv 0 (Nat.le_of_ble_eq_true rfl) rfl (Nat.le_of_ble_eq_true rfl) rfl)
          refine lv_istore (lv' := [(4, .int r11), (0, .ref (ad 0)), (1, .int a0), (2, .int a1), (3, .int a2)]) hx hb dX13_codeOf_31 hl (by decide) rfl (fun ls hl => ?_)
          refine lv_iload hx hb dX13_codeOf_33 (lv_at hl 0 rfl) ?_
          refine lv_iconst (v := -1) hx hb dX13_codeOf_35 (by decide) ?_
          refine lv_icmp_ne (tgt := 43) hx hb dX13_codeOf_36 (by decide) (fun c15 => ?_) (fun c15 => ?_)
          · --36 taken
            have t16 : ¬ r11.toInt = -1 := ti_ne c15
            have i17 : 0 ≤ r11.toInt ∧ r11.toInt ≤ 299 := iv_ne_l t16 f12 (il_ (-1))
            refine lv_aload_n hx hb dX13_codeOf_43 rfl (lv_at hl 1 rfl) ?_
            refine th_get (ci := 14) (C := RX13) (T := TX13) (N := 97) (v := .ref (ad 26)) hx hb hts hinX13 hown hK hP hI 0 (Nat.le_of_ble_eq_true rfl) rfl rfl 40 (Nat.le_of_ble_eq_true rfl) (hts _ (vA_in _ _ (in_28 _ zs0))) (fun _ h9 => h9) (hI.fr 0 (Nat.le_of_ble_eq_true rfl) rfl (Nat.le_of_ble_eq_true rfl) 26 rfl) dX13_codeOf_44 ?_
            refine lv_iload hx hb dX13_codeOf_47 (lv_at hl 0 rfl) ?_
            have n19 : vp_in r11 300 := (iv_in (n := 300) i17 (by decide))
            refine th_iald hx hb hK hP hI 26 (Nat.le_of_ble_eq_true rfl) rfl rfl n19 dX13_codeOf_49 (fun y18 ey18 => ?_)
            have iy18 : 0 ≤ y18.toInt ∧ y18.toInt ≤ 4 := hI.el 26 (Nat.le_of_ble_eq_true rfl) rfl n19 (fun _ => rfl) ey18
            have ey18 := ey18.trans (hKp.ei 26 _ rfl)
            rw [hQ]
            exact W.iret (v := y18) hx hb hr (fun t ht hW => ⟨⟨y18, (), rfl, ⟨(iv_w iy18 (by decide)), ⟨fun q9 => absurd (show entMd E a0.toInt a1.toInt a2.toInt from f2) q9, fun _ => ⟨fun q9 => absurd q9 f8, fun _ => ⟨fun q9 => absurd q9 (by rw [← (show r11 = lRM E a0 a1 a2 from f13)]; omega), fun _ => by rw [← (show r11 = lRM E a0 a1 a2 from f13), ← ey18]⟩⟩⟩⟩, trivial⟩, hS.F ht⟩) hS.2.2 dX13_codeOf_50
          · --36 not
            have t20 : r11.toInt = -1 := ti_eq c15
            have i21 : -1 ≤ r11.toInt ∧ r11.toInt ≤ -1 := iv_eqi t20 f12 (il_ (-1)) (by decide)
            refine lv_iconst (v := 2) hx hb dX13_codeOf_39 (by decide) ?_
            refine lv_goto (tgt := 50) hx hb dX13_codeOf_40 (by decide) ?_
            rw [hQ]
            exact W.iret (v := 2) hx hb hr (fun t ht hW => ⟨⟨2, (), rfl, ⟨(iv_w ln_2 (by decide)), ⟨fun q9 => absurd (show entMd E a0.toInt a1.toInt a2.toInt from f2) q9, fun _ => ⟨fun q9 => absurd q9 f8, fun _ => ⟨fun _ => rfl, fun q9 => absurd (show (lRM E a0 a1 a2).toInt = -1 by rw [← (show r11 = lRM E a0 a1 a2 from f13)]; omega) q9⟩⟩⟩⟩, trivial⟩, hS.F ht⟩) hS.2.2 dX13_codeOf_50
        · --19 not
          exact absurd c10 (by decide)
    · --7 not
      exact absurd c3 (by decide)
  · -- isEntered, case 1
    obtain ⟨rfl, f22⟩ := hw
    refine lv_if_ne (tgt := 12) hx hb dX13_codeOf_7 (by decide) (fun c23 => ?_) (fun c23 => ?_)
    · --7 taken
      exact absurd c23 (by decide)
    · --7 not
      refine lv_iconst (v := 2) hx hb dX13_codeOf_10 (by decide) ?_
      rw [hQ]
      exact W.iret (v := 2) hx hb hr (fun t ht hW => ⟨⟨2, (), rfl, ⟨(iv_w ln_2 (by decide)), ⟨fun _ => rfl, fun q9 => absurd q9 (show ¬ entMd E a0.toInt a1.toInt a2.toInt from f22)⟩⟩, trivial⟩, hS.F ht⟩) hS.2.2 dX13_codeOf_11
def v_codedM : List Cond := .code yX13_coded cX13_coded 4 (some .int) :: vA
abbrev rm_codedM : Room := { frames := 4, cells := 0, slots := 0, locals := 160 }
def w_codedM : Nat → Nat → Bool := wl [] [(0, 0)]
set_option maxHeartbeats 4000000 in
set_option maxRecDepth 100000 in
theorem q_codedM (l : Launch) (dC : Nat → ClassId) (dI : Nat → Nat → Nat) (cT : Nat → ClassId) (ad : Nat → Nat) (E : Nat → va_E) (sz : Nat) (a0 : Int32) (a1 : Int32) (a2 : Int32) (hI0 : IX cT shM spM 72 ad E)  : Met l yX13_coded v_codedM rm_codedM (va_Pc [.ref (ad 0), .int a0, .int a1, .int a2] (HW dC dI (TYM cT) 72 ad E sz)) (va_Qi (S := Nat → va_E) (fun r u => IX cT shM spM 72 ad u ∧ Kp w_codedM E u ∧ (((((((0 ≤ a0.toInt ∧ a0.toInt < (xi (E 0) 46).toInt) ∧ (0 ≤ a1.toInt ∧ a1.toInt < (xi (E 0) 8).toInt) ∧ (0 ≤ a2.toInt ∧ a2.toInt ≤ (xi (E 0) 1).toInt) ∧ (xi (E 20) a0.toInt.toNat).toInt ≤ a2.toInt) ∧ (xi (E 21) (16 * a0.toInt + a1.toInt).toNat).toInt ≤ a2.toInt) → (CdM E a0 a1 a2 r.toInt)) ∧ (¬ (((0 ≤ a0.toInt ∧ a0.toInt < (xi (E 0) 46).toInt) ∧ (0 ≤ a1.toInt ∧ a1.toInt < (xi (E 0) 8).toInt) ∧ (0 ≤ a2.toInt ∧ a2.toInt ≤ (xi (E 0) 1).toInt) ∧ (xi (E 20) a0.toInt.toNat).toInt ≤ a2.toInt) ∧ (xi (E 21) (16 * a0.toInt + a1.toInt).toNat).toInt ≤ a2.toInt) → (r.toInt = -1)))))) (HB dC dI 72 ad) (va_A (WX 72 ad E) sz)) 0 0 (va_A (WX 72 ad E) sz) := by
  refine Met.ofW (cc := cX13_coded) (maxL := 4) (ret := (some .int)) (by decide) rfl ?_
  intro p e s m args below meth c s₁ B hml hv
  obtain ⟨hargs, hsz, hP, hK, hD0, hEV⟩ := hv
  subst hsz
  have hx := B.exec
  have hb := B.bytes
  have hr := B.returns
  have hts := atoms_spec (ws := v_codedM) B.pre
  have hown : s.vm.findClass RX13 = some m.cls := findClass_of_methodNamed B.named
  have hlocks := B.notSynchronized
  have hinX13 : ∀ w ∈ u_ws RX13 TX13 97, w ∈ v_codedM := fun w h => vA_in _ w (in_X13 w h)
  generalize hAe : va_A (WX 72 ad E) s.heap.size = A at hEV ⊢
  have hA : ∀ q : Nat, s.heap.size ≤ q → A q := fun q h => by rw [← hAe]; exact Or.inr h
  have hD : va_D A (WX 72 ad E) := by rw [← hAe]; exact hD0.self
  have hS : va_S A s.heap s.heap [] := va_S.rf
  have hI := hI0
  have hKp : Kp w_codedM E E := Kp.rf
  have hl := lv_entry ([.ref (ad 0), .int a0, .int a1, .int a2]) (n := 4) (Nat.le_of_ble_eq_true rfl)
  obtain ⟨Q, hQ⟩ : ∃ Q, Q = MQ below (va_Qi (S := Nat → va_E) (fun r u => IX cT shM spM 72 ad u ∧ Kp w_codedM E u ∧ (((((((0 ≤ a0.toInt ∧ a0.toInt < (xi (E 0) 46).toInt) ∧ (0 ≤ a1.toInt ∧ a1.toInt < (xi (E 0) 8).toInt) ∧ (0 ≤ a2.toInt ∧ a2.toInt ≤ (xi (E 0) 1).toInt) ∧ (xi (E 20) a0.toInt.toNat).toInt ≤ a2.toInt) ∧ (xi (E 21) (16 * a0.toInt + a1.toInt).toNat).toInt ≤ a2.toInt) → (CdM E a0 a1 a2 r.toInt)) ∧ (¬ (((0 ≤ a0.toInt ∧ a0.toInt < (xi (E 0) 46).toInt) ∧ (0 ≤ a1.toInt ∧ a1.toInt < (xi (E 0) 8).toInt) ∧ (0 ≤ a2.toInt ∧ a2.toInt ≤ (xi (E 0) 1).toInt) ∧ (xi (E 20) a0.toInt.toNat).toInt ≤ a2.toInt) ∧ (xi (E 21) (16 * a0.toInt + a1.toInt).toNat).toInt ≤ a2.toInt) → (r.toInt = -1)))))) (HB dC dI 72 ad) (A)) args s 0 0 (A) := ⟨_, rfl⟩
  rw [← hQ, show entryFrame m args 4 = _ from (congrArg (fun z => entryFrame m z 4) hargs).trans (lg_entry_eq _ _ _)]
  generalize (lg_sl ([.ref (ad 0), .int a0, .int a1, .int a2]) ++ List.replicate (4 - (lg_sl ([.ref (ad 0), .int a0, .int a1, .int a2])).length) Slot.unset).toArray = ls at hl ⊢
  have hl : lv_has ls 4 [(0, .ref (ad 0)), (1, .int a0), (2, .int a1), (3, .int a2)] := hl
  refine lv_aload_n hx hb dX13_coded_0 rfl (lv_at hl 0 rfl) ?_
  refine lv_iload_n hx hb dX13_coded_1 rfl (lv_at hl 1 rfl) ?_
  refine lv_iload_n hx hb dX13_coded_2 rfl (lv_at hl 2 rfl) ?_
  refine lv_iload_n hx hb dX13_coded_3 rfl (lv_at hl 3 rfl) ?_
  refine th_i (va_runV (As := [.int a0, .int a1, .int a2]) (rest := []) ⟨hx, hb, hml, hown, hts⟩ (q_asksEntry l dC dI cT ad E s.heap.size a0 a1 a2 hI) (cwV 3 hts (gi_V (in_30 _ (zs4 (zs1 (zs1 (zs0))))) (in_30 _ (zs4 (zs1 (zs1 (zs1 (zs0)))))) (in_30 _ (zs4 (zs4 (zs0)))) (in_24 _ (zs4 (zs4 (zs4 (zs1 (zs1 (zs1 (zs0)))))))) (in_24 _ (zs16 (zs4 (zs4 (zs4 (zs1 (zs1 (zs1 (zs0)))))))))) rfl rfl rfl ⟨rfl, hz_yX13_asksEntry_3⟩ ⟨Nat.le_of_ble_eq_true rfl, Nat.le_of_ble_eq_true rfl⟩) ⟨HW_bl, va_recv hK hP (ci := 14) (q0 := 0) rfl (hI.ob 0 (Nat.le_of_ble_eq_true rfl) rfl), (HW_wi hP hK (WX_D hD) hS hA hEV)⟩ rfl rfl hl.1 rfl (lv_room (Nat.le_of_ble_eq_true rfl)) dX13_coded_4 ⟨Nat.le_of_ble_eq_true rfl, Nat.le_of_ble_eq_true rfl⟩) (WX_D hD) hS hA (fun r1 E2 H locs hw hP hS => ?_)
  obtain ⟨hI, kq3, hw⟩ := hw
  have hKb := hKp
  have hKp := hKp.tr kq3 (wl_sub rfl rfl)
  rcases hw with hw | hw
  · -- asksEntry, case 0
    obtain ⟨rfl, f4, f5, f6, f7⟩ := hw
    have i8 : 0 ≤ (xi (E 0) 46).toInt ∧ (xi (E 0) 46).toInt ≤ 20 := (show 0 ≤ (xi (E 0) 46).toInt ∧ (xi (E 0) 46).toInt ≤ 20 from hI0.iv 0 (Nat.le_of_ble_eq_true rfl) rfl (Nat.le_of_ble_eq_true rfl) rfl)
    have i9 : 0 ≤ (xi (E 0) 8).toInt ∧ (xi (E 0) 8).toInt ≤ 16 := (show 0 ≤ (xi (E 0) 8).toInt ∧ (xi (E 0) 8).toInt ≤ 16 from hI0.iv 0 (Nat.le_of_ble_eq_true rfl) rfl (Nat.le_of_ble_eq_true rfl) rfl)
    have i10 : 0 ≤ (xi (E 0) 1).toInt ∧ (xi (E 0) 1).toInt ≤ 400 := (show 0 ≤ (xi (E 0) 1).toInt ∧ (xi (E 0) 1).toInt ≤ 400 from hI0.iv 0 (Nat.le_of_ble_eq_true rfl) rfl (Nat.le_of_ble_eq_true rfl) rfl)
    refine lv_if_eq (tgt := 20) hx hb dX13_coded_7 (by decide) (fun c11 => ?_) (fun c11 => ?_)
    · --7 taken
      exact absurd c11 (by decide)
    · --7 not
      refine lv_aload_n hx hb dX13_coded_10 rfl (lv_at hl 0 rfl) ?_
      refine lv_iload_n hx hb dX13_coded_11 rfl (lv_at hl 1 rfl) ?_
      refine lv_iload_n hx hb dX13_coded_12 rfl (lv_at hl 2 rfl) ?_
      refine lv_iload_n hx hb dX13_coded_13 rfl (lv_at hl 3 rfl) ?_
      refine th_ri (va_runV (As := [.int a0, .int a1, .int a2]) (rest := []) ⟨hx, hb, hml, hown, hts⟩ (q_codeOfM l dC dI cT ad E2 H.size a0 a1 a2 hI f5 f6) (cwV 3 hts (gi_V (in_27 _ (zs16 (zs16 (zs4 (zs0))))) (in_27 _ (zs16 (zs16 (zs4 (zs1 (zs0)))))) (in_27 _ (zs16 (zs16 (zs4 (zs1 (zs1 (zs0))))))) (in_24 _ (zs4 (zs4 (zs4 (zs1 (zs1 (zs1 (zs0)))))))) (in_27 _ (zs16 (zs16 (zs4 (zs1 (zs1 (zs1 (zs0))))))))) rfl rfl rfl ⟨rfl, hz_yX13_codeOf_3⟩ ⟨Nat.le_of_ble_eq_true rfl, Nat.le_of_ble_eq_true rfl⟩) ⟨HW_bl, va_recv hK hP (ci := 14) (q0 := 0) rfl (hI.ob 0 (Nat.le_of_ble_eq_true rfl) rfl), (HW_wi hP hK (WX_D hD) hS hA hEV)⟩ rfl rfl hl.1 rfl (lv_room (Nat.le_of_ble_eq_true rfl)) dX13_coded_14 ⟨Nat.le_of_ble_eq_true rfl, Nat.le_of_ble_eq_true rfl⟩) hS hP (fun r12 H locs hw hP hS => ?_)
      obtain ⟨f13, f14⟩ := hw
      have i15 : 0 ≤ (xi (E 0) 47).toInt ∧ (xi (E 0) 47).toInt ≤ 300 := (show 0 ≤ (xi (E 0) 47).toInt ∧ (xi (E 0) 47).toInt ≤ 300 from hI0.iv 0 (Nat.le_of_ble_eq_true rfl) rfl (Nat.le_of_ble_eq_true rfl) rfl)
      have k16 : CdM E a0 a1 a2 r12.toInt := CdM_kp hKp rfl rfl rfl f14
      refine lv_goto (tgt := 21) hx hb dX13_coded_17 (by decide) ?_
      rw [hQ]
      exact W.iret (v := r12) hx hb hr (fun t ht hW => ⟨⟨r12, E2, rfl, ⟨hI, hKp, ⟨fun _ => k16, fun q9 => absurd f4 q9⟩⟩, by show va_P (dC, dI) vwCl (WX 72 ad E2) t.heap; rw [ht]; exact hP⟩, hS.F ht⟩) hS.2.2 dX13_coded_21
  · -- asksEntry, case 1
    obtain ⟨rfl, f17⟩ := hw
    have i18 : 0 ≤ (xi (E 0) 46).toInt ∧ (xi (E 0) 46).toInt ≤ 20 := (show 0 ≤ (xi (E 0) 46).toInt ∧ (xi (E 0) 46).toInt ≤ 20 from hI0.iv 0 (Nat.le_of_ble_eq_true rfl) rfl (Nat.le_of_ble_eq_true rfl) rfl)
    have i19 : 0 ≤ (xi (E 0) 8).toInt ∧ (xi (E 0) 8).toInt ≤ 16 := (show 0 ≤ (xi (E 0) 8).toInt ∧ (xi (E 0) 8).toInt ≤ 16 from hI0.iv 0 (Nat.le_of_ble_eq_true rfl) rfl (Nat.le_of_ble_eq_true rfl) rfl)
    have i20 : 0 ≤ (xi (E 0) 1).toInt ∧ (xi (E 0) 1).toInt ≤ 400 := (show 0 ≤ (xi (E 0) 1).toInt ∧ (xi (E 0) 1).toInt ≤ 400 from hI0.iv 0 (Nat.le_of_ble_eq_true rfl) rfl (Nat.le_of_ble_eq_true rfl) rfl)
    refine lv_if_eq (tgt := 20) hx hb dX13_coded_7 (by decide) (fun c21 => ?_) (fun c21 => ?_)
    · --7 taken
      refine lv_iconst (v := -1) hx hb dX13_coded_20 (by decide) ?_
      rw [hQ]
      exact W.iret (v := (-1)) hx hb hr (fun t ht hW => ⟨⟨(-1), E2, rfl, ⟨hI, hKp, ⟨fun q9 => absurd q9 f17, fun _ => rfl⟩⟩, by show va_P (dC, dI) vwCl (WX 72 ad E2) t.heap; rw [ht]; exact hP⟩, hS.F ht⟩) hS.2.2 dX13_coded_21
    · --7 not
      exact absurd c21 (by decide)
def v_countM : List Cond := .code yX13_count cX13_count 5 (some .int) :: vA
abbrev rm_countM : Room := { frames := 1, cells := 0, slots := 0, locals := 40 }
def w_countM : Nat → Nat → Bool := wl [] [(0, 0)]
set_option maxHeartbeats 4000000 in
set_option maxRecDepth 100000 in
theorem q_countM (l : Launch) (dC : Nat → ClassId) (dI : Nat → Nat → Nat) (cT : Nat → ClassId) (ad : Nat → Nat) (E : Nat → va_E) (sz : Nat) (a0 : Int32) (hI0 : IX cT shM spM 72 ad E)  : Met l yX13_count v_countM rm_countM (va_Pc [.ref (ad 0), .int a0] (HW dC dI (TYM cT) 72 ad E sz)) (va_Qi (S := Nat → va_E) (fun r u => IX cT shM spM 72 ad u ∧ Kp w_countM E u ∧ (((a0.toInt = 0 → r.toInt = (xi (E 0) 1).toInt) ∧ (a0.toInt = 1 → r.toInt = (xi (E 0) 8).toInt) ∧ (a0.toInt = 2 → r.toInt = (xi (E 0) 9).toInt) ∧ (a0.toInt = 3 → r.toInt = (xi (E 0) 17).toInt) ∧ (a0.toInt = 4 → r.toInt = (xi (E 0) 46).toInt) ∧ (a0.toInt = 5 → r.toInt = (xi (E 0) 47).toInt) ∧ (a0.toInt = 6 → r.toInt = (xi (E 0) 74).toInt) ∧ (a0.toInt = 7 → r.toInt = (xi (E 0) 75).toInt) ∧ (a0.toInt = 8 → r.toInt = (xi (E 0) 16).toInt) ∧ (a0.toInt = 9 → r.toInt = (xi (E 0) 48).toInt) ∧ (a0.toInt = 10 → Cn2 (fun r9 b9 => OutMx E ((r9 : Nat) : Int) ((b9 : Nat) : Int) (xi (E 0) 1).toInt) (xi (E 0) 8).toNatClampNeg (xi (E 0) 46).toNatClampNeg r.toInt) ∧ (¬ (0 ≤ a0.toInt ∧ a0.toInt ≤ 10) → r.toInt = -1)))) (HB dC dI 72 ad) (va_A (WX 72 ad E) sz)) 0 0 (va_A (WX 72 ad E) sz) := by
  refine Met.ofW (cc := cX13_count) (maxL := 5) (ret := (some .int)) (by decide) rfl ?_
  intro p e s m args below meth c s₁ B hml hv
  obtain ⟨hargs, hsz, hP, hK, hD0, hEV⟩ := hv
  subst hsz
  have hx := B.exec
  have hb := B.bytes
  have hr := B.returns
  have hts := atoms_spec (ws := v_countM) B.pre
  have hown : s.vm.findClass RX13 = some m.cls := findClass_of_methodNamed B.named
  have hlocks := B.notSynchronized
  have hinX13 : ∀ w ∈ u_ws RX13 TX13 97, w ∈ v_countM := fun w h => vA_in _ w (in_X13 w h)
  generalize hAe : va_A (WX 72 ad E) s.heap.size = A at hEV ⊢
  have hA : ∀ q : Nat, s.heap.size ≤ q → A q := fun q h => by rw [← hAe]; exact Or.inr h
  have hD : va_D A (WX 72 ad E) := by rw [← hAe]; exact hD0.self
  have hS : va_S A s.heap s.heap [] := va_S.rf
  have hI := hI0
  have hKp : Kp w_countM E E := Kp.rf
  have hl := lv_entry ([.ref (ad 0), .int a0]) (n := 5) (Nat.le_of_ble_eq_true rfl)
  obtain ⟨Q, hQ⟩ : ∃ Q, Q = MQ below (va_Qi (S := Nat → va_E) (fun r u => IX cT shM spM 72 ad u ∧ Kp w_countM E u ∧ (((a0.toInt = 0 → r.toInt = (xi (E 0) 1).toInt) ∧ (a0.toInt = 1 → r.toInt = (xi (E 0) 8).toInt) ∧ (a0.toInt = 2 → r.toInt = (xi (E 0) 9).toInt) ∧ (a0.toInt = 3 → r.toInt = (xi (E 0) 17).toInt) ∧ (a0.toInt = 4 → r.toInt = (xi (E 0) 46).toInt) ∧ (a0.toInt = 5 → r.toInt = (xi (E 0) 47).toInt) ∧ (a0.toInt = 6 → r.toInt = (xi (E 0) 74).toInt) ∧ (a0.toInt = 7 → r.toInt = (xi (E 0) 75).toInt) ∧ (a0.toInt = 8 → r.toInt = (xi (E 0) 16).toInt) ∧ (a0.toInt = 9 → r.toInt = (xi (E 0) 48).toInt) ∧ (a0.toInt = 10 → Cn2 (fun r9 b9 => OutMx E ((r9 : Nat) : Int) ((b9 : Nat) : Int) (xi (E 0) 1).toInt) (xi (E 0) 8).toNatClampNeg (xi (E 0) 46).toNatClampNeg r.toInt) ∧ (¬ (0 ≤ a0.toInt ∧ a0.toInt ≤ 10) → r.toInt = -1)))) (HB dC dI 72 ad) (A)) args s 0 0 (A) := ⟨_, rfl⟩
  rw [← hQ, show entryFrame m args 5 = _ from (congrArg (fun z => entryFrame m z 5) hargs).trans (lg_entry_eq _ _ _)]
  generalize (lg_sl ([.ref (ad 0), .int a0]) ++ List.replicate (5 - (lg_sl ([.ref (ad 0), .int a0])).length) Slot.unset).toArray = ls at hl ⊢
  have hl : lv_has ls 5 [(0, .ref (ad 0)), (1, .int a0)] := hl
  have z0z : (0 : Int32).toInt = 0 := rfl
  have ib8 : 0 ≤ (xi (E 0) 8).toInt ∧ (xi (E 0) 8).toInt ≤ 16 := hI0.iv 0 (Nat.le_of_ble_eq_true rfl) rfl (Nat.le_of_ble_eq_true rfl) rfl
  have ib46 : 0 ≤ (xi (E 0) 46).toInt ∧ (xi (E 0) 46).toInt ≤ 20 := hI0.iv 0 (Nat.le_of_ble_eq_true rfl) rfl (Nat.le_of_ble_eq_true rfl) rfl
  refine lv_aload_n hx hb dX13_count_0 rfl (lv_at hl 0 rfl) ?_
  refine lv_iconst (v := 0) hx hb dX13_count_1 (by decide) ?_
  refine th_put (ci := 14) (C := RX13) (T := TX13) (N := 97) (v := .int 0) (ty := .int) hx hb hts hinX13 tyX13 tyX13_ok nmX13 hown hK hP (WX_D hD) hS hI 0 (Nat.le_of_ble_eq_true rfl) rfl rfl 0 (Nat.le_of_ble_eq_true rfl) (hts _ (vA_in _ _ (in_24 _ (zs4 (zs4 (zs1 (zs1 (zs0)))))))) (fun _ h9 => h9) rfl (by decide +kernel) rfl rfl (okI rfl (iv_w ln_0 (by decide))) dX13_count_2 (fun H locs E1 pw2 hI hP hS => ?_)
  have hKp := hKp.pw pw2 rfl
  refine lv_iload_n hx hb dX13_count_5 rfl (lv_at hl 1 rfl) ?_
  rcases (show (a0.toInt < 0 ∨ 10 < a0.toInt) ∨ a0.toInt = 0 ∨ a0.toInt = 1 ∨ a0.toInt = 2 ∨ a0.toInt = 3 ∨ a0.toInt = 4 ∨ a0.toInt = 5 ∨ a0.toInt = 6 ∨ a0.toInt = 7 ∨ a0.toInt = 8 ∨ a0.toInt = 9 ∨ a0.toInt = 10 by omega) with c3 | c3 | c3 | c3 | c3 | c3 | c3 | c3 | c3 | c3 | c3 | c3
  · --None
    refine lv_tableOut (tgt := 174) hx hb dX13_count_6 c3 (by decide) ?_
    refine lv_iconst (v := -1) hx hb dX13_count_174 (by decide) ?_
    rw [hQ]
    exact W.iret (v := (-1)) hx hb hr (fun t ht hW => ⟨⟨(-1), E1, rfl, ⟨hI, hKp, ⟨fun q9 => by have z9 := ln_m1; omega, fun q9 => by have z9 := ln_m1; omega, fun q9 => by have z9 := ln_m1; omega, fun q9 => by have z9 := ln_m1; omega, fun q9 => by have z9 := ln_m1; omega, fun q9 => by have z9 := ln_m1; omega, fun q9 => by have z9 := ln_m1; omega, fun q9 => by have z9 := ln_m1; omega, fun q9 => by have z9 := ln_m1; omega, fun q9 => by have z9 := ln_m1; omega, fun q9 => by exfalso; omega, fun q9 => by have z9 := ln_m1; omega⟩⟩, by show va_P (dC, dI) vwCl (WX 72 ad E1) t.heap; rw [ht]; exact hP⟩, hS.F ht⟩) hS.2.2 dX13_count_175
  · --0
    refine lv_tableIn (off := 58) (tgt := 64) hx hb dX13_count_6 (by omega) (by omega) (by rw [c3]; rfl) (by decide) ?_
    refine lv_aload_n hx hb dX13_count_64 rfl (lv_at hl 0 rfl) ?_
    have i4 : 0 ≤ (xi (E 0) 1).toInt ∧ (xi (E 0) 1).toInt ≤ 400 := hI0.iv 0 (Nat.le_of_ble_eq_true rfl) rfl (Nat.le_of_ble_eq_true rfl) rfl
    refine th_get (ci := 14) (C := RX13) (T := TX13) (N := 97) (v := .int (xi (E 0) 1)) hx hb hts hinX13 hown hK hP hI 0 (Nat.le_of_ble_eq_true rfl) rfl rfl 1 (Nat.le_of_ble_eq_true rfl) (hts _ (vA_in _ _ (in_24 _ (zs16 (zs4 (zs4 (zs1 (zs1 (zs1 (zs0)))))))))) (fun _ h9 => h9) (th_v0 hKp hI0 0 (Nat.le_of_ble_eq_true rfl) rfl (Nat.le_of_ble_eq_true rfl) rfl rfl) dX13_count_65 ?_
    rw [hQ]
    exact W.iret (v := (xi (E 0) 1)) hx hb hr (fun t ht hW => ⟨⟨(xi (E 0) 1), E1, rfl, ⟨hI, hKp, ⟨fun q9 => by omega, fun q9 => by omega, fun q9 => by omega, fun q9 => by omega, fun q9 => by omega, fun q9 => by omega, fun q9 => by omega, fun q9 => by omega, fun q9 => by omega, fun q9 => by omega, fun q9 => by exfalso; omega, fun q9 => by omega⟩⟩, by show va_P (dC, dI) vwCl (WX 72 ad E1) t.heap; rw [ht]; exact hP⟩, hS.F ht⟩) hS.2.2 dX13_count_68
  · --1
    refine lv_tableIn (off := 63) (tgt := 69) hx hb dX13_count_6 (by omega) (by omega) (by rw [c3]; rfl) (by decide) ?_
    refine lv_aload_n hx hb dX13_count_69 rfl (lv_at hl 0 rfl) ?_
    have i5 : 0 ≤ (xi (E 0) 8).toInt ∧ (xi (E 0) 8).toInt ≤ 16 := hI0.iv 0 (Nat.le_of_ble_eq_true rfl) rfl (Nat.le_of_ble_eq_true rfl) rfl
    refine th_get (ci := 14) (C := RX13) (T := TX13) (N := 97) (v := .int (xi (E 0) 8)) hx hb hts hinX13 hown hK hP hI 0 (Nat.le_of_ble_eq_true rfl) rfl rfl 8 (Nat.le_of_ble_eq_true rfl) (hts _ (vA_in _ _ (in_24 _ (zs16 (zs4 (zs1 (zs1 (zs0)))))))) (fun _ h9 => h9) (th_v0 hKp hI0 0 (Nat.le_of_ble_eq_true rfl) rfl (Nat.le_of_ble_eq_true rfl) rfl rfl) dX13_count_70 ?_
    rw [hQ]
    exact W.iret (v := (xi (E 0) 8)) hx hb hr (fun t ht hW => ⟨⟨(xi (E 0) 8), E1, rfl, ⟨hI, hKp, ⟨fun q9 => by omega, fun q9 => by omega, fun q9 => by omega, fun q9 => by omega, fun q9 => by omega, fun q9 => by omega, fun q9 => by omega, fun q9 => by omega, fun q9 => by omega, fun q9 => by omega, fun q9 => by exfalso; omega, fun q9 => by omega⟩⟩, by show va_P (dC, dI) vwCl (WX 72 ad E1) t.heap; rw [ht]; exact hP⟩, hS.F ht⟩) hS.2.2 dX13_count_73
  · --2
    refine lv_tableIn (off := 68) (tgt := 74) hx hb dX13_count_6 (by omega) (by omega) (by rw [c3]; rfl) (by decide) ?_
    refine lv_aload_n hx hb dX13_count_74 rfl (lv_at hl 0 rfl) ?_
    have i6 : 0 ≤ (xi (E 0) 9).toInt ∧ (xi (E 0) 9).toInt ≤ 80 := hI0.iv 0 (Nat.le_of_ble_eq_true rfl) rfl (Nat.le_of_ble_eq_true rfl) rfl
    refine th_get (ci := 14) (C := RX13) (T := TX13) (N := 97) (v := .int (xi (E 0) 9)) hx hb hts hinX13 hown hK hP hI 0 (Nat.le_of_ble_eq_true rfl) rfl rfl 9 (Nat.le_of_ble_eq_true rfl) (hts _ (vA_in _ _ (in_27 _ (zs4 (zs4 (zs1 (zs0))))))) (fun _ h9 => h9) (th_v0 hKp hI0 0 (Nat.le_of_ble_eq_true rfl) rfl (Nat.le_of_ble_eq_true rfl) rfl rfl) dX13_count_75 ?_
    rw [hQ]
    exact W.iret (v := (xi (E 0) 9)) hx hb hr (fun t ht hW => ⟨⟨(xi (E 0) 9), E1, rfl, ⟨hI, hKp, ⟨fun q9 => by omega, fun q9 => by omega, fun q9 => by omega, fun q9 => by omega, fun q9 => by omega, fun q9 => by omega, fun q9 => by omega, fun q9 => by omega, fun q9 => by omega, fun q9 => by omega, fun q9 => by exfalso; omega, fun q9 => by omega⟩⟩, by show va_P (dC, dI) vwCl (WX 72 ad E1) t.heap; rw [ht]; exact hP⟩, hS.F ht⟩) hS.2.2 dX13_count_78
  · --3
    refine lv_tableIn (off := 73) (tgt := 79) hx hb dX13_count_6 (by omega) (by omega) (by rw [c3]; rfl) (by decide) ?_
    refine lv_aload_n hx hb dX13_count_79 rfl (lv_at hl 0 rfl) ?_
    have i7 : 0 ≤ (xi (E 0) 17).toInt ∧ (xi (E 0) 17).toInt ≤ 16 := hI0.iv 0 (Nat.le_of_ble_eq_true rfl) rfl (Nat.le_of_ble_eq_true rfl) rfl
    refine th_get (ci := 14) (C := RX13) (T := TX13) (N := 97) (v := .int (xi (E 0) 17)) hx hb hts hinX13 hown hK hP hI 0 (Nat.le_of_ble_eq_true rfl) rfl rfl 17 (Nat.le_of_ble_eq_true rfl) (hts _ (vA_in _ _ (in_29 _ (zs4 (zs1 (zs0)))))) (fun _ h9 => h9) (th_v0 hKp hI0 0 (Nat.le_of_ble_eq_true rfl) rfl (Nat.le_of_ble_eq_true rfl) rfl rfl) dX13_count_80 ?_
    rw [hQ]
    exact W.iret (v := (xi (E 0) 17)) hx hb hr (fun t ht hW => ⟨⟨(xi (E 0) 17), E1, rfl, ⟨hI, hKp, ⟨fun q9 => by omega, fun q9 => by omega, fun q9 => by omega, fun q9 => by omega, fun q9 => by omega, fun q9 => by omega, fun q9 => by omega, fun q9 => by omega, fun q9 => by omega, fun q9 => by omega, fun q9 => by exfalso; omega, fun q9 => by omega⟩⟩, by show va_P (dC, dI) vwCl (WX 72 ad E1) t.heap; rw [ht]; exact hP⟩, hS.F ht⟩) hS.2.2 dX13_count_83
  · --4
    refine lv_tableIn (off := 78) (tgt := 84) hx hb dX13_count_6 (by omega) (by omega) (by rw [c3]; rfl) (by decide) ?_
    refine lv_aload_n hx hb dX13_count_84 rfl (lv_at hl 0 rfl) ?_
    have i8 : 0 ≤ (xi (E 0) 46).toInt ∧ (xi (E 0) 46).toInt ≤ 20 := hI0.iv 0 (Nat.le_of_ble_eq_true rfl) rfl (Nat.le_of_ble_eq_true rfl) rfl
    refine th_get (ci := 14) (C := RX13) (T := TX13) (N := 97) (v := .int (xi (E 0) 46)) hx hb hts hinX13 hown hK hP hI 0 (Nat.le_of_ble_eq_true rfl) rfl rfl 46 (Nat.le_of_ble_eq_true rfl) (hts _ (vA_in _ _ (in_24 _ (zs16 (zs1 (zs0)))))) (fun _ h9 => h9) (th_v0 hKp hI0 0 (Nat.le_of_ble_eq_true rfl) rfl (Nat.le_of_ble_eq_true rfl) rfl rfl) dX13_count_85 ?_
    rw [hQ]
    exact W.iret (v := (xi (E 0) 46)) hx hb hr (fun t ht hW => ⟨⟨(xi (E 0) 46), E1, rfl, ⟨hI, hKp, ⟨fun q9 => by omega, fun q9 => by omega, fun q9 => by omega, fun q9 => by omega, fun q9 => by omega, fun q9 => by omega, fun q9 => by omega, fun q9 => by omega, fun q9 => by omega, fun q9 => by omega, fun q9 => by exfalso; omega, fun q9 => by omega⟩⟩, by show va_P (dC, dI) vwCl (WX 72 ad E1) t.heap; rw [ht]; exact hP⟩, hS.F ht⟩) hS.2.2 dX13_count_88
  · --5
    refine lv_tableIn (off := 83) (tgt := 89) hx hb dX13_count_6 (by omega) (by omega) (by rw [c3]; rfl) (by decide) ?_
    refine lv_aload_n hx hb dX13_count_89 rfl (lv_at hl 0 rfl) ?_
    have i9 : 0 ≤ (xi (E 0) 47).toInt ∧ (xi (E 0) 47).toInt ≤ 300 := hI0.iv 0 (Nat.le_of_ble_eq_true rfl) rfl (Nat.le_of_ble_eq_true rfl) rfl
    refine th_get (ci := 14) (C := RX13) (T := TX13) (N := 97) (v := .int (xi (E 0) 47)) hx hb hts hinX13 hown hK hP hI 0 (Nat.le_of_ble_eq_true rfl) rfl rfl 47 (Nat.le_of_ble_eq_true rfl) (hts _ (vA_in _ _ (in_28 _ (zs4 (zs4 (zs4 (zs1 (zs0)))))))) (fun _ h9 => h9) (th_v0 hKp hI0 0 (Nat.le_of_ble_eq_true rfl) rfl (Nat.le_of_ble_eq_true rfl) rfl rfl) dX13_count_90 ?_
    rw [hQ]
    exact W.iret (v := (xi (E 0) 47)) hx hb hr (fun t ht hW => ⟨⟨(xi (E 0) 47), E1, rfl, ⟨hI, hKp, ⟨fun q9 => by omega, fun q9 => by omega, fun q9 => by omega, fun q9 => by omega, fun q9 => by omega, fun q9 => by omega, fun q9 => by omega, fun q9 => by omega, fun q9 => by omega, fun q9 => by omega, fun q9 => by exfalso; omega, fun q9 => by omega⟩⟩, by show va_P (dC, dI) vwCl (WX 72 ad E1) t.heap; rw [ht]; exact hP⟩, hS.F ht⟩) hS.2.2 dX13_count_93
  · --6
    refine lv_tableIn (off := 88) (tgt := 94) hx hb dX13_count_6 (by omega) (by omega) (by rw [c3]; rfl) (by decide) ?_
    refine lv_aload_n hx hb dX13_count_94 rfl (lv_at hl 0 rfl) ?_
    have i10 : 0 ≤ (xi (E 0) 74).toInt ∧ (xi (E 0) 74).toInt ≤ 200 := hI0.iv 0 (Nat.le_of_ble_eq_true rfl) rfl (Nat.le_of_ble_eq_true rfl) rfl
    refine th_get (ci := 14) (C := RX13) (T := TX13) (N := 97) (v := .int (xi (E 0) 74)) hx hb hts hinX13 hown hK hP hI 0 (Nat.le_of_ble_eq_true rfl) rfl rfl 74 (Nat.le_of_ble_eq_true rfl) (hts _ (vA_in _ _ (in_25 _ (zs4 (zs4 (zs1 (zs1 (zs1 (zs0))))))))) (fun _ h9 => h9) (th_v0 hKp hI0 0 (Nat.le_of_ble_eq_true rfl) rfl (Nat.le_of_ble_eq_true rfl) rfl rfl) dX13_count_95 ?_
    rw [hQ]
    exact W.iret (v := (xi (E 0) 74)) hx hb hr (fun t ht hW => ⟨⟨(xi (E 0) 74), E1, rfl, ⟨hI, hKp, ⟨fun q9 => by omega, fun q9 => by omega, fun q9 => by omega, fun q9 => by omega, fun q9 => by omega, fun q9 => by omega, fun q9 => by omega, fun q9 => by omega, fun q9 => by omega, fun q9 => by omega, fun q9 => by exfalso; omega, fun q9 => by omega⟩⟩, by show va_P (dC, dI) vwCl (WX 72 ad E1) t.heap; rw [ht]; exact hP⟩, hS.F ht⟩) hS.2.2 dX13_count_98
  · --7
    refine lv_tableIn (off := 93) (tgt := 99) hx hb dX13_count_6 (by omega) (by omega) (by rw [c3]; rfl) (by decide) ?_
    refine lv_aload_n hx hb dX13_count_99 rfl (lv_at hl 0 rfl) ?_
    have i11 : 0 ≤ (xi (E 0) 75).toInt ∧ (xi (E 0) 75).toInt ≤ 30 := hI0.iv 0 (Nat.le_of_ble_eq_true rfl) rfl (Nat.le_of_ble_eq_true rfl) rfl
    refine th_get (ci := 14) (C := RX13) (T := TX13) (N := 97) (v := .int (xi (E 0) 75)) hx hb hts hinX13 hown hK hP hI 0 (Nat.le_of_ble_eq_true rfl) rfl rfl 75 (Nat.le_of_ble_eq_true rfl) (hts _ (vA_in _ _ (in_25 _ (zs1 (zs0))))) (fun _ h9 => h9) (th_v0 hKp hI0 0 (Nat.le_of_ble_eq_true rfl) rfl (Nat.le_of_ble_eq_true rfl) rfl rfl) dX13_count_100 ?_
    rw [hQ]
    exact W.iret (v := (xi (E 0) 75)) hx hb hr (fun t ht hW => ⟨⟨(xi (E 0) 75), E1, rfl, ⟨hI, hKp, ⟨fun q9 => by omega, fun q9 => by omega, fun q9 => by omega, fun q9 => by omega, fun q9 => by omega, fun q9 => by omega, fun q9 => by omega, fun q9 => by omega, fun q9 => by omega, fun q9 => by omega, fun q9 => by exfalso; omega, fun q9 => by omega⟩⟩, by show va_P (dC, dI) vwCl (WX 72 ad E1) t.heap; rw [ht]; exact hP⟩, hS.F ht⟩) hS.2.2 dX13_count_103
  · --8
    refine lv_tableIn (off := 98) (tgt := 104) hx hb dX13_count_6 (by omega) (by omega) (by rw [c3]; rfl) (by decide) ?_
    refine lv_aload_n hx hb dX13_count_104 rfl (lv_at hl 0 rfl) ?_
    have i12 : 0 ≤ (xi (E 0) 16).toInt ∧ (xi (E 0) 16).toInt ≤ 200 := hI0.iv 0 (Nat.le_of_ble_eq_true rfl) rfl (Nat.le_of_ble_eq_true rfl) rfl
    refine th_get (ci := 14) (C := RX13) (T := TX13) (N := 97) (v := .int (xi (E 0) 16)) hx hb hts hinX13 hown hK hP hI 0 (Nat.le_of_ble_eq_true rfl) rfl rfl 16 (Nat.le_of_ble_eq_true rfl) (hts _ (vA_in _ _ (in_30 _ (zs16 (zs4 (zs0)))))) (fun _ h9 => h9) (th_v0 hKp hI0 0 (Nat.le_of_ble_eq_true rfl) rfl (Nat.le_of_ble_eq_true rfl) rfl rfl) dX13_count_105 ?_
    rw [hQ]
    exact W.iret (v := (xi (E 0) 16)) hx hb hr (fun t ht hW => ⟨⟨(xi (E 0) 16), E1, rfl, ⟨hI, hKp, ⟨fun q9 => by omega, fun q9 => by omega, fun q9 => by omega, fun q9 => by omega, fun q9 => by omega, fun q9 => by omega, fun q9 => by omega, fun q9 => by omega, fun q9 => by omega, fun q9 => by omega, fun q9 => by exfalso; omega, fun q9 => by omega⟩⟩, by show va_P (dC, dI) vwCl (WX 72 ad E1) t.heap; rw [ht]; exact hP⟩, hS.F ht⟩) hS.2.2 dX13_count_108
  · --9
    refine lv_tableIn (off := 103) (tgt := 109) hx hb dX13_count_6 (by omega) (by omega) (by rw [c3]; rfl) (by decide) ?_
    refine lv_aload_n hx hb dX13_count_109 rfl (lv_at hl 0 rfl) ?_
    have i13 : 0 ≤ (xi (E 0) 48).toInt ∧ (xi (E 0) 48).toInt ≤ 20 := hI0.iv 0 (Nat.le_of_ble_eq_true rfl) rfl (Nat.le_of_ble_eq_true rfl) rfl
    refine th_get (ci := 14) (C := RX13) (T := TX13) (N := 97) (v := .int (xi (E 0) 48)) hx hb hts hinX13 hown hK hP hI 0 (Nat.le_of_ble_eq_true rfl) rfl rfl 48 (Nat.le_of_ble_eq_true rfl) (hts _ (vA_in _ _ (in_30 _ (zs16 (zs4 (zs1 (zs0))))))) (fun _ h9 => h9) (th_v0 hKp hI0 0 (Nat.le_of_ble_eq_true rfl) rfl (Nat.le_of_ble_eq_true rfl) rfl rfl) dX13_count_110 ?_
    rw [hQ]
    exact W.iret (v := (xi (E 0) 48)) hx hb hr (fun t ht hW => ⟨⟨(xi (E 0) 48), E1, rfl, ⟨hI, hKp, ⟨fun q9 => by omega, fun q9 => by omega, fun q9 => by omega, fun q9 => by omega, fun q9 => by omega, fun q9 => by omega, fun q9 => by omega, fun q9 => by omega, fun q9 => by omega, fun q9 => by omega, fun q9 => by exfalso; omega, fun q9 => by omega⟩⟩, by show va_P (dC, dI) vwCl (WX 72 ad E1) t.heap; rw [ht]; exact hP⟩, hS.F ht⟩) hS.2.2 dX13_count_113
  · --10
    refine lv_tableIn (off := 108) (tgt := 114) hx hb dX13_count_6 (by omega) (by omega) (by rw [c3]; rfl) (by decide) ?_
    refine lv_iconst (v := 0) hx hb dX13_count_114 (by decide) ?_
    refine lv_istore_n (lv' := [(2, .int 0), (0, .ref (ad 0)), (1, .int a0)]) hx hb dX13_count_115 rfl hl (by decide) rfl (fun ls hl => ?_)
    refine lv_iconst (v := 0) hx hb dX13_count_116 (by decide) ?_
    refine lv_istore_n (lv' := [(3, .int 0), (2, .int 0), (0, .ref (ad 0)), (1, .int a0)]) hx hb dX13_count_117 rfl hl (by decide) rfl (fun ls hl => ?_)
    have hL118 : ∀ d : Nat, ∀ (v118_3 : Int32) (v118_2 : Int32) (H : Heap) (locs : List Loc) (ls : Array Slot), 0 ≤ v118_3.toInt ∧ v118_3.toInt ≤ 20 → 0 ≤ v118_2.toInt ∧ v118_2.toInt ≤ 320 → Cn2 (fun r9 b9 => OutMx E ((r9 : Nat) : Int) ((b9 : Nat) : Int) (xi (E 0) 1).toInt) (xi (E 0) 8).toNatClampNeg v118_3.toNatClampNeg v118_2.toInt → v118_3.toInt ≤ (xi (E 0) 46).toInt → 0 ≤ v118_2.toInt ∧ v118_2.toInt ≤ 16 * v118_3.toInt → 20 - v118_3.toInt < (d : Int) → va_P (dC, dI) vwCl (WX 72 ad E1) H → va_S A s.heap H locs → lv_has ls 5 [(3, .int v118_3), (2, .int v118_2), (0, .ref (ad 0)), (1, .int a0)] → W p l e (headSpec v_countM rm_countM).room s m args below meth c H locs 0 0 Q (F0 m 118 ls []) := by
      intro d
      induction d with
      | zero =>
        intro v118_3 v118_2 H locs ls hv118_3 hv118_2 hx118_0 hx118_1 hx118_2 hx118_3 hP hS hl
        exact absurd hx118_3 (by first | exact ms_zu hv118_3.2 | omega)
      | succ d ih118 =>
        intro v118_3 v118_2 H locs ls hv118_3 hv118_2 hx118_0 hx118_1 hx118_2 hx118_3 hP hS hl
        refine lv_iload_n hx hb dX13_count_118 rfl (lv_at hl 0 rfl) ?_
        refine lv_aload_n hx hb dX13_count_119 rfl (lv_at hl 2 rfl) ?_
        have i14 : 0 ≤ (xi (E 0) 46).toInt ∧ (xi (E 0) 46).toInt ≤ 20 := hI0.iv 0 (Nat.le_of_ble_eq_true rfl) rfl (Nat.le_of_ble_eq_true rfl) rfl
        refine th_get (ci := 14) (C := RX13) (T := TX13) (N := 97) (v := .int (xi (E 0) 46)) hx hb hts hinX13 hown hK hP hI 0 (Nat.le_of_ble_eq_true rfl) rfl rfl 46 (Nat.le_of_ble_eq_true rfl) (hts _ (vA_in _ _ (in_24 _ (zs16 (zs1 (zs0)))))) (fun _ h9 => h9) (th_v0 hKp hI0 0 (Nat.le_of_ble_eq_true rfl) rfl (Nat.le_of_ble_eq_true rfl) rfl rfl) dX13_count_120 ?_
        refine lv_icmp_ge (tgt := 172) hx hb dX13_count_123 (by decide) (fun c15 => ?_) (fun c15 => ?_)
        · --123 taken
          have t16 : (xi (E 0) 46).toInt ≤ v118_3.toInt := ti_le c15
          refine lv_iload_n hx hb dX13_count_172 rfl (lv_at hl 1 rfl) ?_
          rw [hQ]
          exact W.iret (v := v118_2) hx hb hr (fun t ht hW => ⟨⟨v118_2, E1, rfl, ⟨hI, hKp, ⟨fun q9 => by omega, fun q9 => by omega, fun q9 => by omega, fun q9 => by omega, fun q9 => by omega, fun q9 => by omega, fun q9 => by omega, fun q9 => by omega, fun q9 => by omega, fun q9 => by omega, fun _ => by have h9 := hx118_0; rw [show v118_3.toNatClampNeg = (xi (E 0) 46).toNatClampNeg by rw [tn_, tn_]; omega] at h9; exact h9, fun q9 => by omega⟩⟩, by show va_P (dC, dI) vwCl (WX 72 ad E1) t.heap; rw [ht]; exact hP⟩, hS.F ht⟩) hS.2.2 dX13_count_173
        · --123 not
          have t17 : v118_3.toInt < (xi (E 0) 46).toInt := ti_nle c15
          have i18 : 0 ≤ v118_3.toInt ∧ v118_3.toInt ≤ 19 := iv_lt_l t17 hv118_3 i14 (by decide)
          have i19 : 1 ≤ (xi (E 0) 46).toInt ∧ (xi (E 0) 46).toInt ≤ 20 := iv_lt_r t17 hv118_3 i14 (by decide)
          refine lv_iconst (v := 0) hx hb dX13_count_126 (by decide) ?_
          refine lv_istore (lv' := [(4, .int 0), (3, .int v118_3), (2, .int v118_2), (0, .ref (ad 0)), (1, .int a0)]) hx hb dX13_count_127 hl (by decide) rfl (fun ls hl => ?_)
          have hL129 : ∀ d : Nat, ∀ (v129_4 : Int32) (v129_2 : Int32) (H : Heap) (locs : List Loc) (ls : Array Slot), 0 ≤ v129_4.toInt ∧ v129_4.toInt ≤ 16 → 0 ≤ v129_2.toInt ∧ v129_2.toInt ≤ 320 → (∃ d9 : Int, Cn2 (fun r9 b9 => OutMx E ((r9 : Nat) : Int) ((b9 : Nat) : Int) (xi (E 0) 1).toInt) (xi (E 0) 8).toNatClampNeg v118_3.toNatClampNeg (v129_2.toInt - d9) ∧ CnR ((fun r9 b9 => OutMx E ((r9 : Nat) : Int) ((b9 : Nat) : Int) (xi (E 0) 1).toInt) v118_3.toNatClampNeg) v129_4.toNatClampNeg d9) → v129_4.toInt ≤ (xi (E 0) 8).toInt → 0 ≤ v129_2.toInt ∧ v129_2.toInt ≤ 16 * v118_3.toInt + v129_4.toInt → 16 - v129_4.toInt < (d : Int) → va_P (dC, dI) vwCl (WX 72 ad E1) H → va_S A s.heap H locs → lv_has ls 5 [(4, .int v129_4), (3, .int v118_3), (2, .int v129_2), (0, .ref (ad 0)), (1, .int a0)] → W p l e (headSpec v_countM rm_countM).room s m args below meth c H locs 0 0 Q (F0 m 129 ls []) := by
            intro d
            induction d with
            | zero =>
              intro v129_4 v129_2 H locs ls hv129_4 hv129_2 hx129_0 hx129_1 hx129_2 hx129_3 hP hS hl
              exact absurd hx129_3 (by first | exact ms_zu hv129_4.2 | omega)
            | succ d ih129 =>
              intro v129_4 v129_2 H locs ls hv129_4 hv129_2 hx129_0 hx129_1 hx129_2 hx129_3 hP hS hl
              refine lv_iload hx hb dX13_count_129 (lv_at hl 0 rfl) ?_
              refine lv_aload_n hx hb dX13_count_131 rfl (lv_at hl 3 rfl) ?_
              have i20 : 0 ≤ (xi (E 0) 8).toInt ∧ (xi (E 0) 8).toInt ≤ 16 := hI0.iv 0 (Nat.le_of_ble_eq_true rfl) rfl (Nat.le_of_ble_eq_true rfl) rfl
              refine th_get (ci := 14) (C := RX13) (T := TX13) (N := 97) (v := .int (xi (E 0) 8)) hx hb hts hinX13 hown hK hP hI 0 (Nat.le_of_ble_eq_true rfl) rfl rfl 8 (Nat.le_of_ble_eq_true rfl) (hts _ (vA_in _ _ (in_24 _ (zs16 (zs4 (zs1 (zs1 (zs0)))))))) (fun _ h9 => h9) (th_v0 hKp hI0 0 (Nat.le_of_ble_eq_true rfl) rfl (Nat.le_of_ble_eq_true rfl) rfl rfl) dX13_count_132 ?_
              refine lv_icmp_ge (tgt := 166) hx hb dX13_count_135 (by decide) (fun c21 => ?_) (fun c21 => ?_)
              · --135 taken
                have t22 : (xi (E 0) 8).toInt ≤ v129_4.toInt := ti_le c21
                obtain ⟨y23, ey23⟩ : ∃ y : Int32, y = v118_3 + (1 : Int32) := ⟨_, rfl⟩
                obtain ⟨ty23, iy23⟩ := ti_add (e := 1) (f := 20) i18 ln_1 ey23 (by decide)
                have ty23 : y23.toInt = v118_3.toInt + 1 := ty23
                have iy23 : 1 ≤ y23.toInt ∧ y23.toInt ≤ 20 := iy23
                refine lv_iinc (v := y23) (lv' := [(3, .int y23), (4, .int v129_4), (2, .int v129_2), (0, .ref (ad 0)), (1, .int a0)]) hx hb dX13_count_166 hl (k := 1) rfl (by rw [ey23]; rfl) (by decide) rfl (fun ls hl => ?_)
                refine lv_goto (tgt := 118) hx hb dX13_count_169 (by decide) ?_
                exact ih118 y23 v129_2 _ _ _ (iv_w iy23 (by decide)) hv129_2 (by obtain ⟨d9, h8, h9⟩ := hx129_0; rw [show v129_4.toNatClampNeg = (xi (E 0) 8).toNatClampNeg by rw [tn_, tn_]; omega] at h9; exact h8.next h9 (by omega) (by rw [tn_, tn_]; omega)) (by omega) (by omega) (by first | exact ms_su hx118_3 ty23 (by decide) | omega) hP hS (lv_sub hl [0, 2, 3, 4] rfl)
              · --135 not
                have t24 : v129_4.toInt < (xi (E 0) 8).toInt := ti_nle c21
                have i25 : 0 ≤ v129_4.toInt ∧ v129_4.toInt ≤ 15 := iv_lt_l t24 hv129_4 i20 (by decide)
                have i26 : 1 ≤ (xi (E 0) 8).toInt ∧ (xi (E 0) 8).toInt ≤ 16 := iv_lt_r t24 hv129_4 i20 (by decide)
                have i27 : 0 ≤ v129_2.toInt ∧ v129_2.toInt ≤ 319 := by omega
                refine lv_iload_n hx hb dX13_count_138 rfl (lv_at hl 2 rfl) ?_
                refine lv_aload_n hx hb dX13_count_139 rfl (lv_at hl 3 rfl) ?_
                refine lv_iload_n hx hb dX13_count_140 rfl (lv_at hl 1 rfl) ?_
                refine lv_iload hx hb dX13_count_141 (lv_at hl 0 rfl) ?_
                refine lv_aload_n hx hb dX13_count_143 rfl (lv_at hl 3 rfl) ?_
                have i28 : 0 ≤ (xi (E 0) 1).toInt ∧ (xi (E 0) 1).toInt ≤ 400 := hI0.iv 0 (Nat.le_of_ble_eq_true rfl) rfl (Nat.le_of_ble_eq_true rfl) rfl
                refine th_get (ci := 14) (C := RX13) (T := TX13) (N := 97) (v := .int (xi (E 0) 1)) hx hb hts hinX13 hown hK hP hI 0 (Nat.le_of_ble_eq_true rfl) rfl rfl 1 (Nat.le_of_ble_eq_true rfl) (hts _ (vA_in _ _ (in_24 _ (zs16 (zs4 (zs4 (zs1 (zs1 (zs1 (zs0)))))))))) (fun _ h9 => h9) (th_v0 hKp hI0 0 (Nat.le_of_ble_eq_true rfl) rfl (Nat.le_of_ble_eq_true rfl) rfl rfl) dX13_count_144 ?_
                refine th_ri (va_runV (As := [.int v118_3, .int v129_4, .int (xi (E 0) 1)]) (rest := [.int v129_2]) ⟨hx, hb, hml, hown, hts⟩ (q_isOutM l dC dI cT ad E1 H.size v118_3 v129_4 (xi (E 0) 1) hI) (cwV 3 hts (gi_V (in_28 _ (zs1 (zs0))) (in_28 _ (zs1 (zs1 (zs0)))) (in_28 _ (zs1 (zs1 (zs1 (zs0))))) (in_24 _ (zs4 (zs4 (zs4 (zs1 (zs1 (zs1 (zs0)))))))) (in_28 _ (zs4 (zs0)))) rfl rfl rfl ⟨rfl, hz_yX13_isOut_3⟩ ⟨Nat.le_of_ble_eq_true rfl, Nat.le_of_ble_eq_true rfl⟩) ⟨HW_bl, va_recv hK hP (ci := 14) (q0 := 0) rfl (hI.ob 0 (Nat.le_of_ble_eq_true rfl) rfl), (HW_wi hP hK (WX_D hD) hS hA hEV)⟩ rfl rfl hl.1 rfl (lv_room (Nat.le_of_ble_eq_true rfl)) dX13_count_147 ⟨Nat.le_of_ble_eq_true rfl, Nat.le_of_ble_eq_true rfl⟩) hS hP (fun r29 H locs hw hP hS => ?_)
                rcases hw with hw | hw
                · -- isOutM, case 0
                  obtain ⟨rfl, f30⟩ := hw
                  have i31 : 0 ≤ (xi (E 0) 75).toInt ∧ (xi (E 0) 75).toInt ≤ 30 := (show 0 ≤ (xi (E 0) 75).toInt ∧ (xi (E 0) 75).toInt ≤ 30 from hI0.iv 0 (Nat.le_of_ble_eq_true rfl) rfl (Nat.le_of_ble_eq_true rfl) rfl)
                  have k32 : (fun r9 b9 => OutMx E ((r9 : Nat) : Int) ((b9 : Nat) : Int) (xi (E 0) 1).toInt) v118_3.toNatClampNeg v129_4.toNatClampNeg := by show OutMx E ((v118_3.toNatClampNeg : Nat) : Int) ((v129_4.toNatClampNeg : Nat) : Int) (xi (E 0) 1).toInt; rw [show ((v118_3.toNatClampNeg : Nat) : Int) = v118_3.toInt by rw [tn_]; omega, show ((v129_4.toNatClampNeg : Nat) : Int) = v129_4.toInt by rw [tn_]; omega, ← OutMx_kp hKp rfl rfl]; exact f30
                  refine lv_if_eq (tgt := 157) hx hb dX13_count_150 (by decide) (fun c33 => ?_) (fun c33 => ?_)
                  · --150 taken
                    exact absurd c33 (by decide)
                  · --150 not
                    refine lv_iconst (v := 1) hx hb dX13_count_153 (by decide) ?_
                    refine lv_goto (tgt := 158) hx hb dX13_count_154 (by decide) ?_
                    refine lv_iadd hx hb dX13_count_158 ?_
                    refine lv_topi (fun y34 ey34 => ?_)
                    obtain ⟨ty34, iy34⟩ := ti_add (e := 1) (f := 320) i27 ln_1 ey34 (by decide)
                    have ty34 : y34.toInt = v129_2.toInt + 1 := ty34
                    have iy34 : 1 ≤ y34.toInt ∧ y34.toInt ≤ 320 := iy34
                    refine lv_istore_n (lv' := [(2, .int y34), (4, .int v129_4), (3, .int v118_3), (0, .ref (ad 0)), (1, .int a0)]) hx hb dX13_count_159 rfl hl (by decide) rfl (fun ls hl => ?_)
                    obtain ⟨y35, ey35⟩ : ∃ y : Int32, y = v129_4 + (1 : Int32) := ⟨_, rfl⟩
                    obtain ⟨ty35, iy35⟩ := ti_add (e := 1) (f := 16) i25 ln_1 ey35 (by decide)
                    have ty35 : y35.toInt = v129_4.toInt + 1 := ty35
                    have iy35 : 1 ≤ y35.toInt ∧ y35.toInt ≤ 16 := iy35
                    refine lv_iinc (v := y35) (lv' := [(4, .int y35), (2, .int y34), (3, .int v118_3), (0, .ref (ad 0)), (1, .int a0)]) hx hb dX13_count_160 hl (k := 1) rfl (by rw [ey35]; rfl) (by decide) rfl (fun ls hl => ?_)
                    refine lv_goto (tgt := 129) hx hb dX13_count_163 (by decide) ?_
                    exact ih129 y35 y34 _ _ _ (iv_w iy35 (by decide)) (iv_w iy34 (by decide)) (by obtain ⟨d9, h8, h9⟩ := hx129_0; exact ⟨d9 + 1, (by rw [show y34.toInt - (d9 + 1) = v129_2.toInt - d9 by omega]; exact h8), h9.one k32 rfl (by rw [tn_ y35, tn_ v129_4]; omega)⟩) (by omega) (by omega) (by first | exact ms_su hx129_3 ty35 (by decide) | omega) hP hS (lv_sub hl [0, 2, 1, 3, 4] rfl)
                · -- isOutM, case 1
                  obtain ⟨rfl, f36⟩ := hw
                  have i37 : 0 ≤ (xi (E 0) 75).toInt ∧ (xi (E 0) 75).toInt ≤ 30 := (show 0 ≤ (xi (E 0) 75).toInt ∧ (xi (E 0) 75).toInt ≤ 30 from hI0.iv 0 (Nat.le_of_ble_eq_true rfl) rfl (Nat.le_of_ble_eq_true rfl) rfl)
                  have k38 : ¬ (fun r9 b9 => OutMx E ((r9 : Nat) : Int) ((b9 : Nat) : Int) (xi (E 0) 1).toInt) v118_3.toNatClampNeg v129_4.toNatClampNeg := by show ¬ OutMx E ((v118_3.toNatClampNeg : Nat) : Int) ((v129_4.toNatClampNeg : Nat) : Int) (xi (E 0) 1).toInt; rw [show ((v118_3.toNatClampNeg : Nat) : Int) = v118_3.toInt by rw [tn_]; omega, show ((v129_4.toNatClampNeg : Nat) : Int) = v129_4.toInt by rw [tn_]; omega, ← OutMx_kp hKp rfl rfl]; exact f36
                  refine lv_if_eq (tgt := 157) hx hb dX13_count_150 (by decide) (fun c39 => ?_) (fun c39 => ?_)
                  · --150 taken
                    refine lv_iconst (v := 0) hx hb dX13_count_157 (by decide) ?_
                    refine lv_iadd hx hb dX13_count_158 ?_
                    refine lv_topi (fun y40 ey40 => ?_)
                    obtain ⟨ty40, iy40⟩ := ti_add (e := 0) (f := 319) i27 ln_0 ey40 (by decide)
                    have ty40 : y40.toInt = v129_2.toInt + 0 := ty40
                    have iy40 : 0 ≤ y40.toInt ∧ y40.toInt ≤ 319 := iy40
                    refine lv_istore_n (lv' := [(2, .int y40), (4, .int v129_4), (3, .int v118_3), (0, .ref (ad 0)), (1, .int a0)]) hx hb dX13_count_159 rfl hl (by decide) rfl (fun ls hl => ?_)
                    obtain ⟨y41, ey41⟩ : ∃ y : Int32, y = v129_4 + (1 : Int32) := ⟨_, rfl⟩
                    obtain ⟨ty41, iy41⟩ := ti_add (e := 1) (f := 16) i25 ln_1 ey41 (by decide)
                    have ty41 : y41.toInt = v129_4.toInt + 1 := ty41
                    have iy41 : 1 ≤ y41.toInt ∧ y41.toInt ≤ 16 := iy41
                    refine lv_iinc (v := y41) (lv' := [(4, .int y41), (2, .int y40), (3, .int v118_3), (0, .ref (ad 0)), (1, .int a0)]) hx hb dX13_count_160 hl (k := 1) rfl (by rw [ey41]; rfl) (by decide) rfl (fun ls hl => ?_)
                    refine lv_goto (tgt := 129) hx hb dX13_count_163 (by decide) ?_
                    exact ih129 y41 y40 _ _ _ (iv_w iy41 (by decide)) (iv_w iy40 (by decide)) (by obtain ⟨d9, h8, h9⟩ := hx129_0; exact ⟨d9, (by rw [show y40.toInt - d9 = v129_2.toInt - d9 by omega]; exact h8), h9.no k38 rfl (by rw [tn_ y41, tn_ v129_4]; omega)⟩) (by omega) (by omega) (by first | exact ms_su hx129_3 ty41 (by decide) | omega) hP hS (lv_sub hl [0, 2, 1, 3, 4] rfl)
                  · --150 not
                    exact absurd c39 (by decide)
          exact hL129 (17) (0 : Int32) v118_2 _ _ _ (iv_w ln_0 (by decide)) hv118_2 ⟨0, by rw [Int.sub_zero]; exact hx118_0, rfl⟩ (by omega) (by omega) (by have h9 := ln_0; first | exact ms_bu h9.1 (by decide) | omega) hP hS (lv_sub hl [0, 1, 2, 3, 4] rfl)
    exact hL118 (21) (0 : Int32) (0 : Int32) _ _ _ (iv_w ln_0 (by decide)) (iv_w ln_0 (by decide)) (show Cn2 (fun r9 b9 => OutMx E ((r9 : Nat) : Int) ((b9 : Nat) : Int) (xi (E 0) 1).toInt) (xi (E 0) 8).toNatClampNeg 0 0 from rfl) (by omega) (by omega) (by have h9 := ln_0; first | exact ms_bu h9.1 (by decide) | omega) hP hS (lv_sub hl [0, 1, 2, 3] rfl)
