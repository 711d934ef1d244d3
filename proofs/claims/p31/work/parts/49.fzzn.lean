set_option maxRecDepth 100000 in
theorem zh_dX8_boatAt_0_0 : zc cX8_boatAt 0 [3, 61, 28, 42, 180, 0, 34, 180, 0, 84, 162, 0, 80, 42, 180, 0] = true := by decide +kernel
set_option maxRecDepth 100000 in
theorem zh_dX8_boatAt_14_16 : zc cX8_boatAt 16 [22, 28, 51, 154, 0, 6, 167, 0, 62, 3, 62, 3, 54, 4, 21, 4] = true := by decide +kernel
set_option maxRecDepth 100000 in
theorem zh_dX8_boatAt_32_32 : zc cX8_boatAt 32 [42, 180, 0, 34, 180, 0, 84, 162, 0, 38, 21, 4, 28, 159, 0, 26] = true := by decide +kernel
set_option maxRecDepth 100000 in
theorem zh_dX8_boatAt_48_48 : zc cX8_boatAt 48 [42, 180, 0, 22, 21, 4, 51, 153, 0, 16, 42, 21, 4, 28, 182, 0] = true := by decide +kernel
set_option maxRecDepth 100000 in
theorem zh_dX8_boatAt_62_64 : zc cX8_boatAt 64 [120, 153, 0, 6, 132, 3, 1, 132, 4, 1, 167, 255, 212, 29, 27, 160] = true := by decide +kernel
set_option maxRecDepth 100000 in
theorem zh_dX8_boatAt_79_80 : zc cX8_boatAt 80 [0, 5, 28, 172, 132, 2, 1, 167, 255, 171, 2, 172] = true := by decide +kernel
set_option maxRecDepth 100000 in
theorem zh_dX8_isBetter_0_0 : zc cX8_isBetter 0 [42, 180, 0, 25, 27, 46, 42, 180, 0, 25, 28, 46, 159, 0, 24, 42] = true := by decide +kernel
set_option maxRecDepth 100000 in
theorem zh_dX8_isBetter_16_16 : zc cX8_isBetter 16 [180, 0, 25, 27, 46, 42, 180, 0, 25, 28, 46, 162, 0, 7, 4, 167] = true := by decide +kernel
set_option maxRecDepth 100000 in
theorem zh_dX8_isBetter_31_32 : zc cX8_isBetter 32 [0, 4, 3, 172, 42, 27, 42, 180, 0, 28, 182, 0, 123, 62, 42, 28] = true := by decide +kernel
set_option maxRecDepth 100000 in
theorem zh_dX8_isBetter_48_48 : zc cX8_isBetter 48 [42, 180, 0, 31, 182, 0, 123, 87, 3, 54, 4, 21, 4, 29, 162, 0] = true := by decide +kernel
set_option maxRecDepth 100000 in
theorem zh_dX8_isBetter_62_64 : zc cX8_isBetter 64 [49, 42, 180, 0, 28, 21, 4, 46, 42, 180, 0, 31, 21, 4, 46, 159] = true := by decide +kernel
set_option maxRecDepth 100000 in
theorem zh_dX8_isBetter_79_80 : zc cX8_isBetter 80 [0, 26, 42, 180, 0, 28, 21, 4, 46, 42, 180, 0, 31, 21, 4, 46] = true := by decide +kernel
set_option maxRecDepth 100000 in
theorem zh_dX8_isBetter_96_96 : zc cX8_isBetter 96 [162, 0, 7, 4, 167, 0, 4, 3, 172, 132, 4, 1, 167, 255, 207, 42] = true := by decide +kernel
set_option maxRecDepth 100000 in
theorem zh_dX8_isBetter_112_112 : zc cX8_isBetter 112 [180, 0, 73, 4, 100, 54, 4, 21, 4, 155, 0, 55, 42, 180, 0, 15] = true := by decide +kernel
set_option maxRecDepth 100000 in
theorem zh_dX8_isBetter_128_128 : zc cX8_isBetter 128 [21, 4, 27, 184, 0, 76, 46, 54, 5, 42, 180, 0, 15, 21, 4, 28] = true := by decide +kernel
set_option maxRecDepth 100000 in
theorem zh_dX8_isBetter_144_144 : zc cX8_isBetter 144 [184, 0, 76, 46, 54, 6, 21, 5, 21, 6, 159, 0, 16, 21, 5, 21] = true := by decide +kernel
set_option maxRecDepth 100000 in
theorem zh_dX8_isBetter_159_160 : zc cX8_isBetter 160 [6, 162, 0, 7, 4, 167, 0, 4, 3, 172, 132, 4, 255, 167, 255, 202] = true := by decide +kernel
set_option maxRecDepth 100000 in
theorem zh_dX8_isBetter_176_176 : zc cX8_isBetter 176 [27, 28, 162, 0, 7, 4, 167, 0, 4, 3, 172] = true := by decide +kernel
set_option maxRecDepth 100000 in
theorem zh_dX8_sortKept_0_0 : zc cX8_sortKept 0 [3, 62, 3, 54, 4, 21, 4, 42, 180, 0, 73, 162, 0, 43, 42, 180] = true := by decide +kernel
set_option maxRecDepth 100000 in
theorem zh_dX8_sortKept_15_16 : zc cX8_sortKept 16 [0, 18, 21, 4, 27, 184, 0, 76, 51, 153, 0, 6, 167, 0, 20, 42] = true := by decide +kernel
set_option maxRecDepth 100000 in
theorem zh_dX8_sortKept_32_32 : zc cX8_sortKept 32 [180, 0, 15, 21, 4, 27, 184, 0, 76, 46, 44, 29, 184, 0, 127, 62] = true := by decide +kernel
set_option maxRecDepth 100000 in
theorem zh_dX8_sortKept_48_48 : zc cX8_sortKept 48 [132, 4, 1, 167, 255, 210, 29, 172] = true := by decide +kernel
theorem dX8_boatAt_0 : decode cX8_boatAt 0 = .ok (.iconst 0, 1) := zo_3 (zi_at zh_dX8_boatAt_0_0 0 rfl)
theorem dX8_boatAt_1 : decode cX8_boatAt 1 = .ok (.istore_n 2, 1) := zo_61 (zi_at zh_dX8_boatAt_0_0 1 rfl)
theorem dX8_boatAt_2 : decode cX8_boatAt 2 = .ok (.iload_n 2, 1) := zo_28 (zi_at zh_dX8_boatAt_0_0 2 rfl)
theorem dX8_boatAt_3 : decode cX8_boatAt 3 = .ok (.aload_n 0, 1) := zo_42 (zi_at zh_dX8_boatAt_0_0 3 rfl)
theorem dX8_boatAt_4 : decode cX8_boatAt 4 = .ok (.getfield 34, 3) := zo_180 (zi_at zh_dX8_boatAt_0_0 4 rfl) (zi_at zh_dX8_boatAt_0_0 5 rfl) (zi_at zh_dX8_boatAt_0_0 6 rfl) rfl
theorem dX8_boatAt_7 : decode cX8_boatAt 7 = .ok (.getfield 84, 3) := zo_180 (zi_at zh_dX8_boatAt_0_0 7 rfl) (zi_at zh_dX8_boatAt_0_0 8 rfl) (zi_at zh_dX8_boatAt_0_0 9 rfl) rfl
theorem dX8_boatAt_10 : decode cX8_boatAt 10 = .ok (.if_icmp .ge 80, 3) := zo_162 (zi_at zh_dX8_boatAt_0_0 10 rfl) (zi_at zh_dX8_boatAt_0_0 11 rfl) (zi_at zh_dX8_boatAt_0_0 12 rfl) rfl
theorem dX8_boatAt_13 : decode cX8_boatAt 13 = .ok (.aload_n 0, 1) := zo_42 (zi_at zh_dX8_boatAt_0_0 13 rfl)
theorem dX8_boatAt_14 : decode cX8_boatAt 14 = .ok (.getfield 22, 3) := zo_180 (zi_at zh_dX8_boatAt_0_0 14 rfl) (zi_at zh_dX8_boatAt_0_0 15 rfl) (zi_at zh_dX8_boatAt_14_16 0 rfl) rfl
theorem dX8_boatAt_17 : decode cX8_boatAt 17 = .ok (.iload_n 2, 1) := zo_28 (zi_at zh_dX8_boatAt_14_16 1 rfl)
theorem dX8_boatAt_18 : decode cX8_boatAt 18 = .ok (.baload, 1) := zo_51 (zi_at zh_dX8_boatAt_14_16 2 rfl)
theorem dX8_boatAt_19 : decode cX8_boatAt 19 = .ok (.ifCond .ne 6, 3) := zo_154 (zi_at zh_dX8_boatAt_14_16 3 rfl) (zi_at zh_dX8_boatAt_14_16 4 rfl) (zi_at zh_dX8_boatAt_14_16 5 rfl) rfl
theorem dX8_boatAt_22 : decode cX8_boatAt 22 = .ok (.goto 62, 3) := zo_167 (zi_at zh_dX8_boatAt_14_16 6 rfl) (zi_at zh_dX8_boatAt_14_16 7 rfl) (zi_at zh_dX8_boatAt_14_16 8 rfl) rfl
theorem dX8_boatAt_25 : decode cX8_boatAt 25 = .ok (.iconst 0, 1) := zo_3 (zi_at zh_dX8_boatAt_14_16 9 rfl)
theorem dX8_boatAt_26 : decode cX8_boatAt 26 = .ok (.istore_n 3, 1) := zo_62 (zi_at zh_dX8_boatAt_14_16 10 rfl)
theorem dX8_boatAt_27 : decode cX8_boatAt 27 = .ok (.iconst 0, 1) := zo_3 (zi_at zh_dX8_boatAt_14_16 11 rfl)
theorem dX8_boatAt_28 : decode cX8_boatAt 28 = .ok (.istore 4, 2) := zo_54 (zi_at zh_dX8_boatAt_14_16 12 rfl) (zi_at zh_dX8_boatAt_14_16 13 rfl)
theorem dX8_boatAt_30 : decode cX8_boatAt 30 = .ok (.iload 4, 2) := zo_21 (zi_at zh_dX8_boatAt_14_16 14 rfl) (zi_at zh_dX8_boatAt_14_16 15 rfl)
theorem dX8_boatAt_32 : decode cX8_boatAt 32 = .ok (.aload_n 0, 1) := zo_42 (zi_at zh_dX8_boatAt_32_32 0 rfl)
theorem dX8_boatAt_33 : decode cX8_boatAt 33 = .ok (.getfield 34, 3) := zo_180 (zi_at zh_dX8_boatAt_32_32 1 rfl) (zi_at zh_dX8_boatAt_32_32 2 rfl) (zi_at zh_dX8_boatAt_32_32 3 rfl) rfl
theorem dX8_boatAt_36 : decode cX8_boatAt 36 = .ok (.getfield 84, 3) := zo_180 (zi_at zh_dX8_boatAt_32_32 4 rfl) (zi_at zh_dX8_boatAt_32_32 5 rfl) (zi_at zh_dX8_boatAt_32_32 6 rfl) rfl
theorem dX8_boatAt_39 : decode cX8_boatAt 39 = .ok (.if_icmp .ge 38, 3) := zo_162 (zi_at zh_dX8_boatAt_32_32 7 rfl) (zi_at zh_dX8_boatAt_32_32 8 rfl) (zi_at zh_dX8_boatAt_32_32 9 rfl) rfl
theorem dX8_boatAt_42 : decode cX8_boatAt 42 = .ok (.iload 4, 2) := zo_21 (zi_at zh_dX8_boatAt_32_32 10 rfl) (zi_at zh_dX8_boatAt_32_32 11 rfl)
theorem dX8_boatAt_44 : decode cX8_boatAt 44 = .ok (.iload_n 2, 1) := zo_28 (zi_at zh_dX8_boatAt_32_32 12 rfl)
theorem dX8_boatAt_45 : decode cX8_boatAt 45 = .ok (.if_icmp .eq 26, 3) := zo_159 (zi_at zh_dX8_boatAt_32_32 13 rfl) (zi_at zh_dX8_boatAt_32_32 14 rfl) (zi_at zh_dX8_boatAt_32_32 15 rfl) rfl
theorem dX8_boatAt_48 : decode cX8_boatAt 48 = .ok (.aload_n 0, 1) := zo_42 (zi_at zh_dX8_boatAt_48_48 0 rfl)
theorem dX8_boatAt_49 : decode cX8_boatAt 49 = .ok (.getfield 22, 3) := zo_180 (zi_at zh_dX8_boatAt_48_48 1 rfl) (zi_at zh_dX8_boatAt_48_48 2 rfl) (zi_at zh_dX8_boatAt_48_48 3 rfl) rfl
theorem dX8_boatAt_52 : decode cX8_boatAt 52 = .ok (.iload 4, 2) := zo_21 (zi_at zh_dX8_boatAt_48_48 4 rfl) (zi_at zh_dX8_boatAt_48_48 5 rfl)
theorem dX8_boatAt_54 : decode cX8_boatAt 54 = .ok (.baload, 1) := zo_51 (zi_at zh_dX8_boatAt_48_48 6 rfl)
theorem dX8_boatAt_55 : decode cX8_boatAt 55 = .ok (.ifCond .eq 16, 3) := zo_153 (zi_at zh_dX8_boatAt_48_48 7 rfl) (zi_at zh_dX8_boatAt_48_48 8 rfl) (zi_at zh_dX8_boatAt_48_48 9 rfl) rfl
theorem dX8_boatAt_58 : decode cX8_boatAt 58 = .ok (.aload_n 0, 1) := zo_42 (zi_at zh_dX8_boatAt_48_48 10 rfl)
theorem dX8_boatAt_59 : decode cX8_boatAt 59 = .ok (.iload 4, 2) := zo_21 (zi_at zh_dX8_boatAt_48_48 11 rfl) (zi_at zh_dX8_boatAt_48_48 12 rfl)
theorem dX8_boatAt_61 : decode cX8_boatAt 61 = .ok (.iload_n 2, 1) := zo_28 (zi_at zh_dX8_boatAt_48_48 13 rfl)
theorem dX8_boatAt_62 : decode cX8_boatAt 62 = .ok (.invokevirtual 120, 3) := zo_182 (zi_at zh_dX8_boatAt_48_48 14 rfl) (zi_at zh_dX8_boatAt_48_48 15 rfl) (zi_at zh_dX8_boatAt_62_64 0 rfl) rfl
theorem dX8_boatAt_65 : decode cX8_boatAt 65 = .ok (.ifCond .eq 6, 3) := zo_153 (zi_at zh_dX8_boatAt_62_64 1 rfl) (zi_at zh_dX8_boatAt_62_64 2 rfl) (zi_at zh_dX8_boatAt_62_64 3 rfl) rfl
theorem dX8_boatAt_68 : decode cX8_boatAt 68 = .ok (.iinc 3 1, 3) := zo_132 (zi_at zh_dX8_boatAt_62_64 4 rfl) (zi_at zh_dX8_boatAt_62_64 5 rfl) (zi_at zh_dX8_boatAt_62_64 6 rfl) rfl
theorem dX8_boatAt_71 : decode cX8_boatAt 71 = .ok (.iinc 4 1, 3) := zo_132 (zi_at zh_dX8_boatAt_62_64 7 rfl) (zi_at zh_dX8_boatAt_62_64 8 rfl) (zi_at zh_dX8_boatAt_62_64 9 rfl) rfl
theorem dX8_boatAt_74 : decode cX8_boatAt 74 = .ok (.goto (-44), 3) := zo_167 (zi_at zh_dX8_boatAt_62_64 10 rfl) (zi_at zh_dX8_boatAt_62_64 11 rfl) (zi_at zh_dX8_boatAt_62_64 12 rfl) rfl
theorem dX8_boatAt_77 : decode cX8_boatAt 77 = .ok (.iload_n 3, 1) := zo_29 (zi_at zh_dX8_boatAt_62_64 13 rfl)
theorem dX8_boatAt_78 : decode cX8_boatAt 78 = .ok (.iload_n 1, 1) := zo_27 (zi_at zh_dX8_boatAt_62_64 14 rfl)
theorem dX8_boatAt_79 : decode cX8_boatAt 79 = .ok (.if_icmp .ne 5, 3) := zo_160 (zi_at zh_dX8_boatAt_62_64 15 rfl) (zi_at zh_dX8_boatAt_79_80 0 rfl) (zi_at zh_dX8_boatAt_79_80 1 rfl) rfl
theorem dX8_boatAt_82 : decode cX8_boatAt 82 = .ok (.iload_n 2, 1) := zo_28 (zi_at zh_dX8_boatAt_79_80 2 rfl)
theorem dX8_boatAt_83 : decode cX8_boatAt 83 = .ok (.ireturn, 1) := zo_172 (zi_at zh_dX8_boatAt_79_80 3 rfl)
theorem dX8_boatAt_84 : decode cX8_boatAt 84 = .ok (.iinc 2 1, 3) := zo_132 (zi_at zh_dX8_boatAt_79_80 4 rfl) (zi_at zh_dX8_boatAt_79_80 5 rfl) (zi_at zh_dX8_boatAt_79_80 6 rfl) rfl
theorem dX8_boatAt_87 : decode cX8_boatAt 87 = .ok (.goto (-85), 3) := zo_167 (zi_at zh_dX8_boatAt_79_80 7 rfl) (zi_at zh_dX8_boatAt_79_80 8 rfl) (zi_at zh_dX8_boatAt_79_80 9 rfl) rfl
theorem dX8_boatAt_90 : decode cX8_boatAt 90 = .ok (.iconst (-1), 1) := zo_2 (zi_at zh_dX8_boatAt_79_80 10 rfl)
theorem dX8_boatAt_91 : decode cX8_boatAt 91 = .ok (.ireturn, 1) := zo_172 (zi_at zh_dX8_boatAt_79_80 11 rfl)
theorem dX8_isBetter_0 : decode cX8_isBetter 0 = .ok (.aload_n 0, 1) := zo_42 (zi_at zh_dX8_isBetter_0_0 0 rfl)
theorem dX8_isBetter_1 : decode cX8_isBetter 1 = .ok (.getfield 25, 3) := zo_180 (zi_at zh_dX8_isBetter_0_0 1 rfl) (zi_at zh_dX8_isBetter_0_0 2 rfl) (zi_at zh_dX8_isBetter_0_0 3 rfl) rfl
theorem dX8_isBetter_4 : decode cX8_isBetter 4 = .ok (.iload_n 1, 1) := zo_27 (zi_at zh_dX8_isBetter_0_0 4 rfl)
theorem dX8_isBetter_5 : decode cX8_isBetter 5 = .ok (.iaload, 1) := zo_46 (zi_at zh_dX8_isBetter_0_0 5 rfl)
theorem dX8_isBetter_6 : decode cX8_isBetter 6 = .ok (.aload_n 0, 1) := zo_42 (zi_at zh_dX8_isBetter_0_0 6 rfl)
theorem dX8_isBetter_7 : decode cX8_isBetter 7 = .ok (.getfield 25, 3) := zo_180 (zi_at zh_dX8_isBetter_0_0 7 rfl) (zi_at zh_dX8_isBetter_0_0 8 rfl) (zi_at zh_dX8_isBetter_0_0 9 rfl) rfl
theorem dX8_isBetter_10 : decode cX8_isBetter 10 = .ok (.iload_n 2, 1) := zo_28 (zi_at zh_dX8_isBetter_0_0 10 rfl)
theorem dX8_isBetter_11 : decode cX8_isBetter 11 = .ok (.iaload, 1) := zo_46 (zi_at zh_dX8_isBetter_0_0 11 rfl)
theorem dX8_isBetter_12 : decode cX8_isBetter 12 = .ok (.if_icmp .eq 24, 3) := zo_159 (zi_at zh_dX8_isBetter_0_0 12 rfl) (zi_at zh_dX8_isBetter_0_0 13 rfl) (zi_at zh_dX8_isBetter_0_0 14 rfl) rfl
theorem dX8_isBetter_15 : decode cX8_isBetter 15 = .ok (.aload_n 0, 1) := zo_42 (zi_at zh_dX8_isBetter_0_0 15 rfl)
theorem dX8_isBetter_16 : decode cX8_isBetter 16 = .ok (.getfield 25, 3) := zo_180 (zi_at zh_dX8_isBetter_16_16 0 rfl) (zi_at zh_dX8_isBetter_16_16 1 rfl) (zi_at zh_dX8_isBetter_16_16 2 rfl) rfl
theorem dX8_isBetter_19 : decode cX8_isBetter 19 = .ok (.iload_n 1, 1) := zo_27 (zi_at zh_dX8_isBetter_16_16 3 rfl)
theorem dX8_isBetter_20 : decode cX8_isBetter 20 = .ok (.iaload, 1) := zo_46 (zi_at zh_dX8_isBetter_16_16 4 rfl)
theorem dX8_isBetter_21 : decode cX8_isBetter 21 = .ok (.aload_n 0, 1) := zo_42 (zi_at zh_dX8_isBetter_16_16 5 rfl)
theorem dX8_isBetter_22 : decode cX8_isBetter 22 = .ok (.getfield 25, 3) := zo_180 (zi_at zh_dX8_isBetter_16_16 6 rfl) (zi_at zh_dX8_isBetter_16_16 7 rfl) (zi_at zh_dX8_isBetter_16_16 8 rfl) rfl
theorem dX8_isBetter_25 : decode cX8_isBetter 25 = .ok (.iload_n 2, 1) := zo_28 (zi_at zh_dX8_isBetter_16_16 9 rfl)
theorem dX8_isBetter_26 : decode cX8_isBetter 26 = .ok (.iaload, 1) := zo_46 (zi_at zh_dX8_isBetter_16_16 10 rfl)
theorem dX8_isBetter_27 : decode cX8_isBetter 27 = .ok (.if_icmp .ge 7, 3) := zo_162 (zi_at zh_dX8_isBetter_16_16 11 rfl) (zi_at zh_dX8_isBetter_16_16 12 rfl) (zi_at zh_dX8_isBetter_16_16 13 rfl) rfl
theorem dX8_isBetter_30 : decode cX8_isBetter 30 = .ok (.iconst 1, 1) := zo_4 (zi_at zh_dX8_isBetter_16_16 14 rfl)
theorem dX8_isBetter_31 : decode cX8_isBetter 31 = .ok (.goto 4, 3) := zo_167 (zi_at zh_dX8_isBetter_16_16 15 rfl) (zi_at zh_dX8_isBetter_31_32 0 rfl) (zi_at zh_dX8_isBetter_31_32 1 rfl) rfl
theorem dX8_isBetter_34 : decode cX8_isBetter 34 = .ok (.iconst 0, 1) := zo_3 (zi_at zh_dX8_isBetter_31_32 2 rfl)
theorem dX8_isBetter_35 : decode cX8_isBetter 35 = .ok (.ireturn, 1) := zo_172 (zi_at zh_dX8_isBetter_31_32 3 rfl)
theorem dX8_isBetter_36 : decode cX8_isBetter 36 = .ok (.aload_n 0, 1) := zo_42 (zi_at zh_dX8_isBetter_31_32 4 rfl)
theorem dX8_isBetter_37 : decode cX8_isBetter 37 = .ok (.iload_n 1, 1) := zo_27 (zi_at zh_dX8_isBetter_31_32 5 rfl)
theorem dX8_isBetter_38 : decode cX8_isBetter 38 = .ok (.aload_n 0, 1) := zo_42 (zi_at zh_dX8_isBetter_31_32 6 rfl)
theorem dX8_isBetter_39 : decode cX8_isBetter 39 = .ok (.getfield 28, 3) := zo_180 (zi_at zh_dX8_isBetter_31_32 7 rfl) (zi_at zh_dX8_isBetter_31_32 8 rfl) (zi_at zh_dX8_isBetter_31_32 9 rfl) rfl
theorem dX8_isBetter_42 : decode cX8_isBetter 42 = .ok (.invokevirtual 123, 3) := zo_182 (zi_at zh_dX8_isBetter_31_32 10 rfl) (zi_at zh_dX8_isBetter_31_32 11 rfl) (zi_at zh_dX8_isBetter_31_32 12 rfl) rfl
theorem dX8_isBetter_45 : decode cX8_isBetter 45 = .ok (.istore_n 3, 1) := zo_62 (zi_at zh_dX8_isBetter_31_32 13 rfl)
theorem dX8_isBetter_46 : decode cX8_isBetter 46 = .ok (.aload_n 0, 1) := zo_42 (zi_at zh_dX8_isBetter_31_32 14 rfl)
theorem dX8_isBetter_47 : decode cX8_isBetter 47 = .ok (.iload_n 2, 1) := zo_28 (zi_at zh_dX8_isBetter_31_32 15 rfl)
theorem dX8_isBetter_48 : decode cX8_isBetter 48 = .ok (.aload_n 0, 1) := zo_42 (zi_at zh_dX8_isBetter_48_48 0 rfl)
theorem dX8_isBetter_49 : decode cX8_isBetter 49 = .ok (.getfield 31, 3) := zo_180 (zi_at zh_dX8_isBetter_48_48 1 rfl) (zi_at zh_dX8_isBetter_48_48 2 rfl) (zi_at zh_dX8_isBetter_48_48 3 rfl) rfl
theorem dX8_isBetter_52 : decode cX8_isBetter 52 = .ok (.invokevirtual 123, 3) := zo_182 (zi_at zh_dX8_isBetter_48_48 4 rfl) (zi_at zh_dX8_isBetter_48_48 5 rfl) (zi_at zh_dX8_isBetter_48_48 6 rfl) rfl
theorem dX8_isBetter_55 : decode cX8_isBetter 55 = .ok (.pop, 1) := zo_87 (zi_at zh_dX8_isBetter_48_48 7 rfl)
theorem dX8_isBetter_56 : decode cX8_isBetter 56 = .ok (.iconst 0, 1) := zo_3 (zi_at zh_dX8_isBetter_48_48 8 rfl)
theorem dX8_isBetter_57 : decode cX8_isBetter 57 = .ok (.istore 4, 2) := zo_54 (zi_at zh_dX8_isBetter_48_48 9 rfl) (zi_at zh_dX8_isBetter_48_48 10 rfl)
theorem dX8_isBetter_59 : decode cX8_isBetter 59 = .ok (.iload 4, 2) := zo_21 (zi_at zh_dX8_isBetter_48_48 11 rfl) (zi_at zh_dX8_isBetter_48_48 12 rfl)
theorem dX8_isBetter_61 : decode cX8_isBetter 61 = .ok (.iload_n 3, 1) := zo_29 (zi_at zh_dX8_isBetter_48_48 13 rfl)
theorem dX8_isBetter_62 : decode cX8_isBetter 62 = .ok (.if_icmp .ge 49, 3) := zo_162 (zi_at zh_dX8_isBetter_48_48 14 rfl) (zi_at zh_dX8_isBetter_48_48 15 rfl) (zi_at zh_dX8_isBetter_62_64 0 rfl) rfl
theorem dX8_isBetter_65 : decode cX8_isBetter 65 = .ok (.aload_n 0, 1) := zo_42 (zi_at zh_dX8_isBetter_62_64 1 rfl)
theorem dX8_isBetter_66 : decode cX8_isBetter 66 = .ok (.getfield 28, 3) := zo_180 (zi_at zh_dX8_isBetter_62_64 2 rfl) (zi_at zh_dX8_isBetter_62_64 3 rfl) (zi_at zh_dX8_isBetter_62_64 4 rfl) rfl
theorem dX8_isBetter_69 : decode cX8_isBetter 69 = .ok (.iload 4, 2) := zo_21 (zi_at zh_dX8_isBetter_62_64 5 rfl) (zi_at zh_dX8_isBetter_62_64 6 rfl)
theorem dX8_isBetter_71 : decode cX8_isBetter 71 = .ok (.iaload, 1) := zo_46 (zi_at zh_dX8_isBetter_62_64 7 rfl)
theorem dX8_isBetter_72 : decode cX8_isBetter 72 = .ok (.aload_n 0, 1) := zo_42 (zi_at zh_dX8_isBetter_62_64 8 rfl)
theorem dX8_isBetter_73 : decode cX8_isBetter 73 = .ok (.getfield 31, 3) := zo_180 (zi_at zh_dX8_isBetter_62_64 9 rfl) (zi_at zh_dX8_isBetter_62_64 10 rfl) (zi_at zh_dX8_isBetter_62_64 11 rfl) rfl
theorem dX8_isBetter_76 : decode cX8_isBetter 76 = .ok (.iload 4, 2) := zo_21 (zi_at zh_dX8_isBetter_62_64 12 rfl) (zi_at zh_dX8_isBetter_62_64 13 rfl)
theorem dX8_isBetter_78 : decode cX8_isBetter 78 = .ok (.iaload, 1) := zo_46 (zi_at zh_dX8_isBetter_62_64 14 rfl)
theorem dX8_isBetter_79 : decode cX8_isBetter 79 = .ok (.if_icmp .eq 26, 3) := zo_159 (zi_at zh_dX8_isBetter_62_64 15 rfl) (zi_at zh_dX8_isBetter_79_80 0 rfl) (zi_at zh_dX8_isBetter_79_80 1 rfl) rfl
theorem dX8_isBetter_82 : decode cX8_isBetter 82 = .ok (.aload_n 0, 1) := zo_42 (zi_at zh_dX8_isBetter_79_80 2 rfl)
theorem dX8_isBetter_83 : decode cX8_isBetter 83 = .ok (.getfield 28, 3) := zo_180 (zi_at zh_dX8_isBetter_79_80 3 rfl) (zi_at zh_dX8_isBetter_79_80 4 rfl) (zi_at zh_dX8_isBetter_79_80 5 rfl) rfl
theorem dX8_isBetter_86 : decode cX8_isBetter 86 = .ok (.iload 4, 2) := zo_21 (zi_at zh_dX8_isBetter_79_80 6 rfl) (zi_at zh_dX8_isBetter_79_80 7 rfl)
theorem dX8_isBetter_88 : decode cX8_isBetter 88 = .ok (.iaload, 1) := zo_46 (zi_at zh_dX8_isBetter_79_80 8 rfl)
theorem dX8_isBetter_89 : decode cX8_isBetter 89 = .ok (.aload_n 0, 1) := zo_42 (zi_at zh_dX8_isBetter_79_80 9 rfl)
theorem dX8_isBetter_90 : decode cX8_isBetter 90 = .ok (.getfield 31, 3) := zo_180 (zi_at zh_dX8_isBetter_79_80 10 rfl) (zi_at zh_dX8_isBetter_79_80 11 rfl) (zi_at zh_dX8_isBetter_79_80 12 rfl) rfl
theorem dX8_isBetter_93 : decode cX8_isBetter 93 = .ok (.iload 4, 2) := zo_21 (zi_at zh_dX8_isBetter_79_80 13 rfl) (zi_at zh_dX8_isBetter_79_80 14 rfl)
theorem dX8_isBetter_95 : decode cX8_isBetter 95 = .ok (.iaload, 1) := zo_46 (zi_at zh_dX8_isBetter_79_80 15 rfl)
theorem dX8_isBetter_96 : decode cX8_isBetter 96 = .ok (.if_icmp .ge 7, 3) := zo_162 (zi_at zh_dX8_isBetter_96_96 0 rfl) (zi_at zh_dX8_isBetter_96_96 1 rfl) (zi_at zh_dX8_isBetter_96_96 2 rfl) rfl
theorem dX8_isBetter_99 : decode cX8_isBetter 99 = .ok (.iconst 1, 1) := zo_4 (zi_at zh_dX8_isBetter_96_96 3 rfl)
theorem dX8_isBetter_100 : decode cX8_isBetter 100 = .ok (.goto 4, 3) := zo_167 (zi_at zh_dX8_isBetter_96_96 4 rfl) (zi_at zh_dX8_isBetter_96_96 5 rfl) (zi_at zh_dX8_isBetter_96_96 6 rfl) rfl
theorem dX8_isBetter_103 : decode cX8_isBetter 103 = .ok (.iconst 0, 1) := zo_3 (zi_at zh_dX8_isBetter_96_96 7 rfl)
theorem dX8_isBetter_104 : decode cX8_isBetter 104 = .ok (.ireturn, 1) := zo_172 (zi_at zh_dX8_isBetter_96_96 8 rfl)
theorem dX8_isBetter_105 : decode cX8_isBetter 105 = .ok (.iinc 4 1, 3) := zo_132 (zi_at zh_dX8_isBetter_96_96 9 rfl) (zi_at zh_dX8_isBetter_96_96 10 rfl) (zi_at zh_dX8_isBetter_96_96 11 rfl) rfl
theorem dX8_isBetter_108 : decode cX8_isBetter 108 = .ok (.goto (-49), 3) := zo_167 (zi_at zh_dX8_isBetter_96_96 12 rfl) (zi_at zh_dX8_isBetter_96_96 13 rfl) (zi_at zh_dX8_isBetter_96_96 14 rfl) rfl
theorem dX8_isBetter_111 : decode cX8_isBetter 111 = .ok (.aload_n 0, 1) := zo_42 (zi_at zh_dX8_isBetter_96_96 15 rfl)
theorem dX8_isBetter_112 : decode cX8_isBetter 112 = .ok (.getfield 73, 3) := zo_180 (zi_at zh_dX8_isBetter_112_112 0 rfl) (zi_at zh_dX8_isBetter_112_112 1 rfl) (zi_at zh_dX8_isBetter_112_112 2 rfl) rfl
theorem dX8_isBetter_115 : decode cX8_isBetter 115 = .ok (.iconst 1, 1) := zo_4 (zi_at zh_dX8_isBetter_112_112 3 rfl)
theorem dX8_isBetter_116 : decode cX8_isBetter 116 = .ok (.isub, 1) := zo_100 (zi_at zh_dX8_isBetter_112_112 4 rfl)
theorem dX8_isBetter_117 : decode cX8_isBetter 117 = .ok (.istore 4, 2) := zo_54 (zi_at zh_dX8_isBetter_112_112 5 rfl) (zi_at zh_dX8_isBetter_112_112 6 rfl)
theorem dX8_isBetter_119 : decode cX8_isBetter 119 = .ok (.iload 4, 2) := zo_21 (zi_at zh_dX8_isBetter_112_112 7 rfl) (zi_at zh_dX8_isBetter_112_112 8 rfl)
theorem dX8_isBetter_121 : decode cX8_isBetter 121 = .ok (.ifCond .lt 55, 3) := zo_155 (zi_at zh_dX8_isBetter_112_112 9 rfl) (zi_at zh_dX8_isBetter_112_112 10 rfl) (zi_at zh_dX8_isBetter_112_112 11 rfl) rfl
theorem dX8_isBetter_124 : decode cX8_isBetter 124 = .ok (.aload_n 0, 1) := zo_42 (zi_at zh_dX8_isBetter_112_112 12 rfl)
theorem dX8_isBetter_125 : decode cX8_isBetter 125 = .ok (.getfield 15, 3) := zo_180 (zi_at zh_dX8_isBetter_112_112 13 rfl) (zi_at zh_dX8_isBetter_112_112 14 rfl) (zi_at zh_dX8_isBetter_112_112 15 rfl) rfl
theorem dX8_isBetter_128 : decode cX8_isBetter 128 = .ok (.iload 4, 2) := zo_21 (zi_at zh_dX8_isBetter_128_128 0 rfl) (zi_at zh_dX8_isBetter_128_128 1 rfl)
theorem dX8_isBetter_130 : decode cX8_isBetter 130 = .ok (.iload_n 1, 1) := zo_27 (zi_at zh_dX8_isBetter_128_128 2 rfl)
theorem dX8_isBetter_131 : decode cX8_isBetter 131 = .ok (.invokestatic 76, 3) := zo_184 (zi_at zh_dX8_isBetter_128_128 3 rfl) (zi_at zh_dX8_isBetter_128_128 4 rfl) (zi_at zh_dX8_isBetter_128_128 5 rfl) rfl
theorem dX8_isBetter_134 : decode cX8_isBetter 134 = .ok (.iaload, 1) := zo_46 (zi_at zh_dX8_isBetter_128_128 6 rfl)
theorem dX8_isBetter_135 : decode cX8_isBetter 135 = .ok (.istore 5, 2) := zo_54 (zi_at zh_dX8_isBetter_128_128 7 rfl) (zi_at zh_dX8_isBetter_128_128 8 rfl)
theorem dX8_isBetter_137 : decode cX8_isBetter 137 = .ok (.aload_n 0, 1) := zo_42 (zi_at zh_dX8_isBetter_128_128 9 rfl)
theorem dX8_isBetter_138 : decode cX8_isBetter 138 = .ok (.getfield 15, 3) := zo_180 (zi_at zh_dX8_isBetter_128_128 10 rfl) (zi_at zh_dX8_isBetter_128_128 11 rfl) (zi_at zh_dX8_isBetter_128_128 12 rfl) rfl
theorem dX8_isBetter_141 : decode cX8_isBetter 141 = .ok (.iload 4, 2) := zo_21 (zi_at zh_dX8_isBetter_128_128 13 rfl) (zi_at zh_dX8_isBetter_128_128 14 rfl)
theorem dX8_isBetter_143 : decode cX8_isBetter 143 = .ok (.iload_n 2, 1) := zo_28 (zi_at zh_dX8_isBetter_128_128 15 rfl)
theorem dX8_isBetter_144 : decode cX8_isBetter 144 = .ok (.invokestatic 76, 3) := zo_184 (zi_at zh_dX8_isBetter_144_144 0 rfl) (zi_at zh_dX8_isBetter_144_144 1 rfl) (zi_at zh_dX8_isBetter_144_144 2 rfl) rfl
theorem dX8_isBetter_147 : decode cX8_isBetter 147 = .ok (.iaload, 1) := zo_46 (zi_at zh_dX8_isBetter_144_144 3 rfl)
theorem dX8_isBetter_148 : decode cX8_isBetter 148 = .ok (.istore 6, 2) := zo_54 (zi_at zh_dX8_isBetter_144_144 4 rfl) (zi_at zh_dX8_isBetter_144_144 5 rfl)
theorem dX8_isBetter_150 : decode cX8_isBetter 150 = .ok (.iload 5, 2) := zo_21 (zi_at zh_dX8_isBetter_144_144 6 rfl) (zi_at zh_dX8_isBetter_144_144 7 rfl)
theorem dX8_isBetter_152 : decode cX8_isBetter 152 = .ok (.iload 6, 2) := zo_21 (zi_at zh_dX8_isBetter_144_144 8 rfl) (zi_at zh_dX8_isBetter_144_144 9 rfl)
theorem dX8_isBetter_154 : decode cX8_isBetter 154 = .ok (.if_icmp .eq 16, 3) := zo_159 (zi_at zh_dX8_isBetter_144_144 10 rfl) (zi_at zh_dX8_isBetter_144_144 11 rfl) (zi_at zh_dX8_isBetter_144_144 12 rfl) rfl
theorem dX8_isBetter_157 : decode cX8_isBetter 157 = .ok (.iload 5, 2) := zo_21 (zi_at zh_dX8_isBetter_144_144 13 rfl) (zi_at zh_dX8_isBetter_144_144 14 rfl)
theorem dX8_isBetter_159 : decode cX8_isBetter 159 = .ok (.iload 6, 2) := zo_21 (zi_at zh_dX8_isBetter_144_144 15 rfl) (zi_at zh_dX8_isBetter_159_160 0 rfl)
theorem dX8_isBetter_161 : decode cX8_isBetter 161 = .ok (.if_icmp .ge 7, 3) := zo_162 (zi_at zh_dX8_isBetter_159_160 1 rfl) (zi_at zh_dX8_isBetter_159_160 2 rfl) (zi_at zh_dX8_isBetter_159_160 3 rfl) rfl
theorem dX8_isBetter_164 : decode cX8_isBetter 164 = .ok (.iconst 1, 1) := zo_4 (zi_at zh_dX8_isBetter_159_160 4 rfl)
theorem dX8_isBetter_165 : decode cX8_isBetter 165 = .ok (.goto 4, 3) := zo_167 (zi_at zh_dX8_isBetter_159_160 5 rfl) (zi_at zh_dX8_isBetter_159_160 6 rfl) (zi_at zh_dX8_isBetter_159_160 7 rfl) rfl
theorem dX8_isBetter_168 : decode cX8_isBetter 168 = .ok (.iconst 0, 1) := zo_3 (zi_at zh_dX8_isBetter_159_160 8 rfl)
theorem dX8_isBetter_169 : decode cX8_isBetter 169 = .ok (.ireturn, 1) := zo_172 (zi_at zh_dX8_isBetter_159_160 9 rfl)
theorem dX8_isBetter_170 : decode cX8_isBetter 170 = .ok (.iinc 4 (-1), 3) := zo_132 (zi_at zh_dX8_isBetter_159_160 10 rfl) (zi_at zh_dX8_isBetter_159_160 11 rfl) (zi_at zh_dX8_isBetter_159_160 12 rfl) rfl
theorem dX8_isBetter_173 : decode cX8_isBetter 173 = .ok (.goto (-54), 3) := zo_167 (zi_at zh_dX8_isBetter_159_160 13 rfl) (zi_at zh_dX8_isBetter_159_160 14 rfl) (zi_at zh_dX8_isBetter_159_160 15 rfl) rfl
theorem dX8_isBetter_176 : decode cX8_isBetter 176 = .ok (.iload_n 1, 1) := zo_27 (zi_at zh_dX8_isBetter_176_176 0 rfl)
theorem dX8_isBetter_177 : decode cX8_isBetter 177 = .ok (.iload_n 2, 1) := zo_28 (zi_at zh_dX8_isBetter_176_176 1 rfl)
theorem dX8_isBetter_178 : decode cX8_isBetter 178 = .ok (.if_icmp .ge 7, 3) := zo_162 (zi_at zh_dX8_isBetter_176_176 2 rfl) (zi_at zh_dX8_isBetter_176_176 3 rfl) (zi_at zh_dX8_isBetter_176_176 4 rfl) rfl
theorem dX8_isBetter_181 : decode cX8_isBetter 181 = .ok (.iconst 1, 1) := zo_4 (zi_at zh_dX8_isBetter_176_176 5 rfl)
theorem dX8_isBetter_182 : decode cX8_isBetter 182 = .ok (.goto 4, 3) := zo_167 (zi_at zh_dX8_isBetter_176_176 6 rfl) (zi_at zh_dX8_isBetter_176_176 7 rfl) (zi_at zh_dX8_isBetter_176_176 8 rfl) rfl
theorem dX8_isBetter_185 : decode cX8_isBetter 185 = .ok (.iconst 0, 1) := zo_3 (zi_at zh_dX8_isBetter_176_176 9 rfl)
theorem dX8_isBetter_186 : decode cX8_isBetter 186 = .ok (.ireturn, 1) := zo_172 (zi_at zh_dX8_isBetter_176_176 10 rfl)
theorem dX8_sortKept_0 : decode cX8_sortKept 0 = .ok (.iconst 0, 1) := zo_3 (zi_at zh_dX8_sortKept_0_0 0 rfl)
theorem dX8_sortKept_1 : decode cX8_sortKept 1 = .ok (.istore_n 3, 1) := zo_62 (zi_at zh_dX8_sortKept_0_0 1 rfl)
theorem dX8_sortKept_2 : decode cX8_sortKept 2 = .ok (.iconst 0, 1) := zo_3 (zi_at zh_dX8_sortKept_0_0 2 rfl)
theorem dX8_sortKept_3 : decode cX8_sortKept 3 = .ok (.istore 4, 2) := zo_54 (zi_at zh_dX8_sortKept_0_0 3 rfl) (zi_at zh_dX8_sortKept_0_0 4 rfl)
theorem dX8_sortKept_5 : decode cX8_sortKept 5 = .ok (.iload 4, 2) := zo_21 (zi_at zh_dX8_sortKept_0_0 5 rfl) (zi_at zh_dX8_sortKept_0_0 6 rfl)
theorem dX8_sortKept_7 : decode cX8_sortKept 7 = .ok (.aload_n 0, 1) := zo_42 (zi_at zh_dX8_sortKept_0_0 7 rfl)
theorem dX8_sortKept_8 : decode cX8_sortKept 8 = .ok (.getfield 73, 3) := zo_180 (zi_at zh_dX8_sortKept_0_0 8 rfl) (zi_at zh_dX8_sortKept_0_0 9 rfl) (zi_at zh_dX8_sortKept_0_0 10 rfl) rfl
theorem dX8_sortKept_11 : decode cX8_sortKept 11 = .ok (.if_icmp .ge 43, 3) := zo_162 (zi_at zh_dX8_sortKept_0_0 11 rfl) (zi_at zh_dX8_sortKept_0_0 12 rfl) (zi_at zh_dX8_sortKept_0_0 13 rfl) rfl
theorem dX8_sortKept_14 : decode cX8_sortKept 14 = .ok (.aload_n 0, 1) := zo_42 (zi_at zh_dX8_sortKept_0_0 14 rfl)
theorem dX8_sortKept_15 : decode cX8_sortKept 15 = .ok (.getfield 18, 3) := zo_180 (zi_at zh_dX8_sortKept_0_0 15 rfl) (zi_at zh_dX8_sortKept_15_16 0 rfl) (zi_at zh_dX8_sortKept_15_16 1 rfl) rfl
theorem dX8_sortKept_18 : decode cX8_sortKept 18 = .ok (.iload 4, 2) := zo_21 (zi_at zh_dX8_sortKept_15_16 2 rfl) (zi_at zh_dX8_sortKept_15_16 3 rfl)
theorem dX8_sortKept_20 : decode cX8_sortKept 20 = .ok (.iload_n 1, 1) := zo_27 (zi_at zh_dX8_sortKept_15_16 4 rfl)
theorem dX8_sortKept_21 : decode cX8_sortKept 21 = .ok (.invokestatic 76, 3) := zo_184 (zi_at zh_dX8_sortKept_15_16 5 rfl) (zi_at zh_dX8_sortKept_15_16 6 rfl) (zi_at zh_dX8_sortKept_15_16 7 rfl) rfl
theorem dX8_sortKept_24 : decode cX8_sortKept 24 = .ok (.baload, 1) := zo_51 (zi_at zh_dX8_sortKept_15_16 8 rfl)
theorem dX8_sortKept_25 : decode cX8_sortKept 25 = .ok (.ifCond .eq 6, 3) := zo_153 (zi_at zh_dX8_sortKept_15_16 9 rfl) (zi_at zh_dX8_sortKept_15_16 10 rfl) (zi_at zh_dX8_sortKept_15_16 11 rfl) rfl
theorem dX8_sortKept_28 : decode cX8_sortKept 28 = .ok (.goto 20, 3) := zo_167 (zi_at zh_dX8_sortKept_15_16 12 rfl) (zi_at zh_dX8_sortKept_15_16 13 rfl) (zi_at zh_dX8_sortKept_15_16 14 rfl) rfl
theorem dX8_sortKept_31 : decode cX8_sortKept 31 = .ok (.aload_n 0, 1) := zo_42 (zi_at zh_dX8_sortKept_15_16 15 rfl)
theorem dX8_sortKept_32 : decode cX8_sortKept 32 = .ok (.getfield 15, 3) := zo_180 (zi_at zh_dX8_sortKept_32_32 0 rfl) (zi_at zh_dX8_sortKept_32_32 1 rfl) (zi_at zh_dX8_sortKept_32_32 2 rfl) rfl
theorem dX8_sortKept_35 : decode cX8_sortKept 35 = .ok (.iload 4, 2) := zo_21 (zi_at zh_dX8_sortKept_32_32 3 rfl) (zi_at zh_dX8_sortKept_32_32 4 rfl)
theorem dX8_sortKept_37 : decode cX8_sortKept 37 = .ok (.iload_n 1, 1) := zo_27 (zi_at zh_dX8_sortKept_32_32 5 rfl)
theorem dX8_sortKept_38 : decode cX8_sortKept 38 = .ok (.invokestatic 76, 3) := zo_184 (zi_at zh_dX8_sortKept_32_32 6 rfl) (zi_at zh_dX8_sortKept_32_32 7 rfl) (zi_at zh_dX8_sortKept_32_32 8 rfl) rfl
theorem dX8_sortKept_41 : decode cX8_sortKept 41 = .ok (.iaload, 1) := zo_46 (zi_at zh_dX8_sortKept_32_32 9 rfl)
theorem dX8_sortKept_42 : decode cX8_sortKept 42 = .ok (.aload_n 2, 1) := zo_44 (zi_at zh_dX8_sortKept_32_32 10 rfl)
theorem dX8_sortKept_43 : decode cX8_sortKept 43 = .ok (.iload_n 3, 1) := zo_29 (zi_at zh_dX8_sortKept_32_32 11 rfl)
theorem dX8_sortKept_44 : decode cX8_sortKept 44 = .ok (.invokestatic 127, 3) := zo_184 (zi_at zh_dX8_sortKept_32_32 12 rfl) (zi_at zh_dX8_sortKept_32_32 13 rfl) (zi_at zh_dX8_sortKept_32_32 14 rfl) rfl
theorem dX8_sortKept_47 : decode cX8_sortKept 47 = .ok (.istore_n 3, 1) := zo_62 (zi_at zh_dX8_sortKept_32_32 15 rfl)
theorem dX8_sortKept_48 : decode cX8_sortKept 48 = .ok (.iinc 4 1, 3) := zo_132 (zi_at zh_dX8_sortKept_48_48 0 rfl) (zi_at zh_dX8_sortKept_48_48 1 rfl) (zi_at zh_dX8_sortKept_48_48 2 rfl) rfl
theorem dX8_sortKept_51 : decode cX8_sortKept 51 = .ok (.goto (-46), 3) := zo_167 (zi_at zh_dX8_sortKept_48_48 3 rfl) (zi_at zh_dX8_sortKept_48_48 4 rfl) (zi_at zh_dX8_sortKept_48_48 5 rfl) rfl
theorem dX8_sortKept_54 : decode cX8_sortKept 54 = .ok (.iload_n 3, 1) := zo_29 (zi_at zh_dX8_sortKept_48_48 6 rfl)
theorem dX8_sortKept_55 : decode cX8_sortKept 55 = .ok (.ireturn, 1) := zo_172 (zi_at zh_dX8_sortKept_48_48 7 rfl)
theorem hz_yX8_sortKept_2 : yX8_sortKept.cls ≠ "java/lang/invoke/MethodHandle" ∧ yX8_sortKept.cls ≠ "java/lang/invoke/VarHandle" ∧ (parseMethodDescriptor yX8_sortKept.desc).map (fun d => d.parameters.length) = some 2 := by decide +kernel
theorem hz_yX8_isBetter_2 : yX8_isBetter.cls ≠ "java/lang/invoke/MethodHandle" ∧ yX8_isBetter.cls ≠ "java/lang/invoke/VarHandle" ∧ (parseMethodDescriptor yX8_isBetter.desc).map (fun d => d.parameters.length) = some 2 := by decide +kernel

def v_sortIn36X : List Cond := .code yX12_sortIn cX12_sortIn 4 (some .int) :: vA
abbrev rm_sortIn36X : Room := { frames := 0, cells := 0, slots := 0, locals := 0 }
def w_sortIn36X : Nat → Nat → Bool := wl [36] []
set_option maxHeartbeats 4000000 in
set_option maxRecDepth 100000 in
theorem q_sortIn36X (l : Launch) (dC : Nat → ClassId) (dI : Nat → Nat → Nat) (cT : Nat → ClassId) (cf : Nat → Nat) (hC : CF cf) (ad : Nat → Nat) (E : Nat → va_E) (sz : Nat) (a0 : Int32) (a1 : Int32) (hI0 : IXL cT (shC cf) (spC cf) (LC cf) ad E) (hh0 : 0 ≤ a1.toInt ∧ a1.toInt ≤ 20) : Met l yX12_sortIn v_sortIn36X rm_sortIn36X (va_Pc [.int a0, .ref (ad 36), .int a1] (HWL dC dI (TYC cT) cf ad E sz)) (va_Qi (S := Nat → va_E) (fun r u => IXL cT (shC cf) (spC cf) (LC cf) ad u ∧ Kp w_sortIn36X E u ∧ ((0 ≤ r.toInt ∧ r.toInt ≤ 20) ∧ (r.toInt ≤ a1.toInt + 1) ∧ (a1.toInt < 20 → r.toInt = a1.toInt + 1 ∧ xi (u 36) = shf (xi (E 36)) a0 a1.toNatClampNeg))) (HBL dC dI (LC cf) ad) (va_A (WL (LC cf) ad E) sz)) 0 0 (va_A (WL (LC cf) ad E) sz) := by
  obtain ⟨⟨hc0, hc1, hc2, hc3, hc4, hc5⟩, hcr⟩ := id hC
  refine Met.ofW (cc := cX12_sortIn) (maxL := 4) (ret := (some .int)) (by decide) rfl ?_
  intro p e s m args below meth c s₁ B hml hv
  obtain ⟨hargs, hsz, hP, hK, hD0, hEV⟩ := hv
  subst hsz
  have hx := B.exec
  have hb := B.bytes
  have hr := B.returns
  have hts := atoms_spec (ws := v_sortIn36X) B.pre
  have hown : s.vm.findClass RX12 = some m.cls := findClass_of_methodNamed B.named
  have hlocks := B.notSynchronized
  generalize hAe : va_A (WL (LC cf) ad E) s.heap.size = A at hEV ⊢
  have hA : ∀ q : Nat, s.heap.size ≤ q → A q := fun q h => by rw [← hAe]; exact Or.inr h
  have hD : va_D A (WL (LC cf) ad E) := by rw [← hAe]; exact hD0.self
  have hS : va_S A s.heap s.heap [] := va_S.rf
  have hI := hI0
  have hKp : Kp w_sortIn36X E E := Kp.rf
  have hl := lv_entry ([.int a0, .ref (ad 36), .int a1]) (n := 4) (Nat.le_of_ble_eq_true rfl)
  obtain ⟨Q, hQ⟩ : ∃ Q, Q = MQ below (va_Qi (S := Nat → va_E) (fun r u => IXL cT (shC cf) (spC cf) (LC cf) ad u ∧ Kp w_sortIn36X E u ∧ ((0 ≤ r.toInt ∧ r.toInt ≤ 20) ∧ (r.toInt ≤ a1.toInt + 1) ∧ (a1.toInt < 20 → r.toInt = a1.toInt + 1 ∧ xi (u 36) = shf (xi (E 36)) a0 a1.toNatClampNeg))) (HBL dC dI (LC cf) ad) (A)) args s 0 0 (A) := ⟨_, rfl⟩
  rw [← hQ, show entryFrame m args 4 = _ from (congrArg (fun z => entryFrame m z 4) hargs).trans (lg_entry_eq _ _ _)]
  generalize (lg_sl ([.int a0, .ref (ad 36), .int a1]) ++ List.replicate (4 - (lg_sl ([.int a0, .ref (ad 36), .int a1])).length) Slot.unset).toArray = ls at hl ⊢
  have hl : lv_has ls 4 [(0, .int a0), (1, .ref (ad 36)), (2, .int a1)] := hl
  obtain ⟨g1, hg1⟩ : ∃ g, xi (E 36) = g := ⟨_, rfl⟩
  have z0z : (0 : Int32).toInt = 0 := rfl
  refine lv_iload_n hx hb dX12_sortIn_0 rfl (lv_at hl 2 rfl) ?_
  refine lv_aload_n hx hb dX12_sortIn_1 rfl (lv_at hl 1 rfl) ?_
  refine va_alen (v := 20) hx hb hK hP (posL 36 (LC cf)) 0 (hI.ar 36 (mF 36 rfl) rfl) rfl rfl dX12_sortIn_2 ?_
  refine lv_icmp_lt (tgt := 8) hx hb dX12_sortIn_3 (by decide) (fun c2 => ?_) (fun c2 => ?_)
  · --3 taken
    have t3 : a1.toInt < 20 := ti_lt c2
    have i4 : 0 ≤ a1.toInt ∧ a1.toInt ≤ 19 := iv_lt_l t3 hh0 (il_ 20) (by decide)
    refine lv_iload_n hx hb dX12_sortIn_8 rfl (lv_at hl 2 rfl) ?_
    refine lv_istore_n (lv' := [(3, .int a1), (0, .int a0), (1, .ref (ad 36)), (2, .int a1)]) hx hb dX12_sortIn_9 rfl hl (by decide) rfl (fun ls hl => ?_)
    have hL10 : ∀ d : Nat, ∀ (g10_36 : Nat → Int32) (v10_3 : Int32) (E10_ : Nat → va_E) (H : Heap) (locs : List Loc) (ls : Array Slot), 0 ≤ v10_3.toInt ∧ v10_3.toInt ≤ 19 → shf g1 a0 a1.toNatClampNeg = shf g10_36 a0 v10_3.toNatClampNeg → v10_3.toInt ≤ a1.toInt → v10_3.toInt - 0 < (d : Int) → IXL cT (shC cf) (spC cf) (LC cf) ad E10_ → Kp w_sortIn36X E E10_ → xi (E10_ 36) = g10_36 → va_P (dC, dI) vwCl (WL (LC cf) ad E10_) H → va_S A s.heap H locs → lv_has ls 4 [(3, .int v10_3), (0, .int a0), (1, .ref (ad 36)), (2, .int a1)] → W p l e (headSpec v_sortIn36X rm_sortIn36X).room s m args below meth c H locs 0 0 Q (F0 m 10 ls []) := by
      intro d
      induction d with
      | zero =>
        intro g10_36 v10_3 E10_ H locs ls hv10_3 hx10_0 hx10_1 hx10_2 hI hKp hr10_36 hP hS hl
        exact absurd hx10_2 (by first | exact ms_zd hv10_3.1 | omega)
      | succ d ih10 =>
        intro g10_36 v10_3 E10_ H locs ls hv10_3 hx10_0 hx10_1 hx10_2 hI hKp hr10_36 hP hS hl
        refine lv_iload_n hx hb dX12_sortIn_10 rfl (lv_at hl 0 rfl) ?_
        refine lv_if_le (tgt := 37) hx hb dX12_sortIn_11 (by decide) (fun c5 => ?_) (fun c5 => ?_)
        · --11 taken
          have t6 : v10_3.toInt ≤ 0 := ti_le c5
          have i7 : 0 ≤ v10_3.toInt ∧ v10_3.toInt ≤ 0 := iv_le_l t6 hv10_3 (il_ 0) (by decide)
          refine lv_aload_n hx hb dX12_sortIn_37 rfl (lv_at hl 2 rfl) ?_
          refine lv_iload_n hx hb dX12_sortIn_38 rfl (lv_at hl 0 rfl) ?_
          refine lv_iload_n hx hb dX12_sortIn_39 rfl (lv_at hl 1 rfl) ?_
          have n8 : vp_in v10_3 20 := (iv_in (n := 20) i7 (by decide))
          refine th_iastL hx hb hK hP (WL_D hD) hS hI 36 (mF 36 rfl) rfl rfl n8 (okI rfl (iv_all _)) dX12_sortIn_40 (fun H locs E9 pw10 hI hP hS => ?_)
          have hKp := hKp.pw pw10 rfl
          obtain ⟨g11, eg11⟩ : ∃ z : Nat → Int32, z = upd g10_36 v10_3.toNatClampNeg a0 := ⟨_, rfl⟩
          have hg11 : xi (E9 36) = g11 := by rw [pw10.eu, hr10_36, eg11]
          refine lv_iload_n hx hb dX12_sortIn_41 rfl (lv_at hl 3 rfl) ?_
          refine lv_iconst (v := 1) hx hb dX12_sortIn_42 (by decide) ?_
          refine lv_iadd hx hb dX12_sortIn_43 ?_
          refine lv_topi (fun y12 ey12 => ?_)
          obtain ⟨ty12, iy12⟩ := ti_add (e := 1) (f := 20) i4 ln_1 ey12 (by decide)
          have ty12 : y12.toInt = a1.toInt + 1 := ty12
          have iy12 : 1 ≤ y12.toInt ∧ y12.toInt ≤ 20 := iy12
          rw [hQ]
          exact W.iret (v := y12) hx hb hr (fun t ht hW => ⟨⟨y12, E9, rfl, ⟨hI, hKp, ⟨(iv_w iy12 (by decide)), by all_goals omega, (fun _ => ⟨by omega, (show xi (E9 36) = g11 from hg11).trans (eg11.trans (Eq.symm (by rw [show xi (E 36) = g1 from hg1, hx10_0]; rw [show v10_3.toNatClampNeg = 0 by rw [tn_]; omega]; exact shf_0)))⟩)⟩⟩, by show va_P (dC, dI) vwCl (WL (LC cf) ad E9) t.heap; rw [ht]; exact hP⟩, hS.F ht⟩) hS.2.2 dX12_sortIn_44
        · --11 not
          have t13 : (0 : Int) < v10_3.toInt := ti_nle c5
          have i14 : 1 ≤ v10_3.toInt ∧ v10_3.toInt ≤ 19 := iv_lt_r t13 (il_ 0) hv10_3 (by decide)
          refine lv_aload_n hx hb dX12_sortIn_14 rfl (lv_at hl 2 rfl) ?_
          refine lv_iload_n hx hb dX12_sortIn_15 rfl (lv_at hl 0 rfl) ?_
          refine lv_iconst (v := 1) hx hb dX12_sortIn_16 (by decide) ?_
          refine lv_isub hx hb dX12_sortIn_17 ?_
          refine lv_topi (fun y15 ey15 => ?_)
          obtain ⟨ty15, iy15⟩ := ti_sub (e := 0) (f := 18) i14 ln_1 ey15 (by decide)
          have ty15 : y15.toInt = v10_3.toInt - 1 := ty15
          have iy15 : 0 ≤ y15.toInt ∧ y15.toInt ≤ 18 := iy15
          have n17 : vp_in y15 20 := (iv_in (n := 20) iy15 (by decide))
          refine th_ialdL hx hb hK hP hI 36 (mF 36 rfl) rfl rfl n17 dX12_sortIn_18 (fun y16 ey16 => ?_)
          have ey16 := ey16.trans (congrFun hr10_36 _)
          refine lv_iload_n hx hb dX12_sortIn_19 rfl (lv_at hl 1 rfl) ?_
          refine lv_icmp_le (tgt := 37) hx hb dX12_sortIn_20 (by decide) (fun c18 => ?_) (fun c18 => ?_)
          · --20 taken
            have t19 : y16.toInt ≤ a0.toInt := ti_le c18
            refine lv_aload_n hx hb dX12_sortIn_37 rfl (lv_at hl 2 rfl) ?_
            refine lv_iload_n hx hb dX12_sortIn_38 rfl (lv_at hl 0 rfl) ?_
            refine lv_iload_n hx hb dX12_sortIn_39 rfl (lv_at hl 1 rfl) ?_
            have n20 : vp_in v10_3 20 := (iv_in (n := 20) i14 (by decide))
            refine th_iastL hx hb hK hP (WL_D hD) hS hI 36 (mF 36 rfl) rfl rfl n20 (okI rfl (iv_all _)) dX12_sortIn_40 (fun H locs E21 pw22 hI hP hS => ?_)
            have hKp := hKp.pw pw22 rfl
            obtain ⟨g23, eg23⟩ : ∃ z : Nat → Int32, z = upd g10_36 v10_3.toNatClampNeg a0 := ⟨_, rfl⟩
            have hg23 : xi (E21 36) = g23 := by rw [pw22.eu, hr10_36, eg23]
            refine lv_iload_n hx hb dX12_sortIn_41 rfl (lv_at hl 3 rfl) ?_
            refine lv_iconst (v := 1) hx hb dX12_sortIn_42 (by decide) ?_
            refine lv_iadd hx hb dX12_sortIn_43 ?_
            refine lv_topi (fun y24 ey24 => ?_)
            obtain ⟨ty24, iy24⟩ := ti_add (e := 1) (f := 20) i4 ln_1 ey24 (by decide)
            have ty24 : y24.toInt = a1.toInt + 1 := ty24
            have iy24 : 1 ≤ y24.toInt ∧ y24.toInt ≤ 20 := iy24
            rw [hQ]
            exact W.iret (v := y24) hx hb hr (fun t ht hW => ⟨⟨y24, E21, rfl, ⟨hI, hKp, ⟨(iv_w iy24 (by decide)), by all_goals omega, (fun _ => ⟨by omega, (show xi (E21 36) = g23 from hg23).trans (eg23.trans (Eq.symm (by rw [show xi (E 36) = g1 from hg1, hx10_0]; rw [(show v10_3.toNatClampNeg = y15.toNatClampNeg + 1 by rw [tn_ v10_3, tn_ y15]; omega)]; exact shf_e (by rw [← ey16]; omega))))⟩)⟩⟩, by show va_P (dC, dI) vwCl (WL (LC cf) ad E21) t.heap; rw [ht]; exact hP⟩, hS.F ht⟩) hS.2.2 dX12_sortIn_44
          · --20 not
            have t25 : a0.toInt < y16.toInt := ti_nle c18
            have i26 : -2147483648 ≤ a0.toInt ∧ a0.toInt ≤ 2147483646 := iv_lt_l t25 (iv_all _) (iv_all _) (by decide)
            have i27 : -2147483647 ≤ y16.toInt ∧ y16.toInt ≤ 2147483647 := iv_lt_r t25 (iv_all _) (iv_all _) (by decide)
            refine lv_aload_n hx hb dX12_sortIn_23 rfl (lv_at hl 2 rfl) ?_
            refine lv_iload_n hx hb dX12_sortIn_24 rfl (lv_at hl 0 rfl) ?_
            refine lv_aload_n hx hb dX12_sortIn_25 rfl (lv_at hl 2 rfl) ?_
            refine lv_iload_n hx hb dX12_sortIn_26 rfl (lv_at hl 0 rfl) ?_
            refine lv_iconst (v := 1) hx hb dX12_sortIn_27 (by decide) ?_
            refine lv_isub hx hb dX12_sortIn_28 ?_
            refine lv_topi (fun y28 ey28 => ?_)
            obtain ⟨ty28, iy28⟩ := ti_sub (e := 0) (f := 18) i14 ln_1 ey28 (by decide)
            have ty28 : y28.toInt = v10_3.toInt - 1 := ty28
            have iy28 : 0 ≤ y28.toInt ∧ y28.toInt ≤ 18 := iy28
            have n30 : vp_in y28 20 := (iv_in (n := 20) iy28 (by decide))
            refine th_ialdL hx hb hK hP hI 36 (mF 36 rfl) rfl rfl n30 dX12_sortIn_29 (fun y29 ey29 => ?_)
            have ey29 := ey29.trans (congrFun hr10_36 _)
            have n31 : vp_in v10_3 20 := (iv_in (n := 20) i14 (by decide))
            refine th_iastL hx hb hK hP (WL_D hD) hS hI 36 (mF 36 rfl) rfl rfl n31 (okI rfl (iv_all _)) dX12_sortIn_30 (fun H locs E32 pw33 hI hP hS => ?_)
            have hKp := hKp.pw pw33 rfl
            obtain ⟨g34, eg34⟩ : ∃ z : Nat → Int32, z = upd g10_36 v10_3.toNatClampNeg y29 := ⟨_, rfl⟩
            have hg34 : xi (E32 36) = g34 := by rw [pw33.eu, hr10_36, eg34]
            obtain ⟨y35, ey35⟩ : ∃ y : Int32, y = v10_3 + (-1 : Int32) := ⟨_, rfl⟩
            obtain ⟨ty35, iy35⟩ := ti_add (e := 0) (f := 18) i14 ln_m1 ey35 (by decide)
            have ty35 : y35.toInt = v10_3.toInt + (-1) := ty35
            have iy35 : 0 ≤ y35.toInt ∧ y35.toInt ≤ 18 := iy35
            refine lv_iinc (v := y35) (lv' := [(3, .int y35), (0, .int a0), (1, .ref (ad 36)), (2, .int a1)]) hx hb dX12_sortIn_31 hl (k := 0) rfl (by rw [ey35]; rfl) (by decide) rfl (fun ls hl => ?_)
            refine lv_goto (tgt := 10) hx hb dX12_sortIn_34 (by decide) ?_
            exact ih10 g34 y35 E32 _ _ _ (iv_w iy35 (by decide)) (by rw [hx10_0, (show v10_3.toNatClampNeg = y35.toNatClampNeg + 1 by rw [tn_ v10_3, tn_ y35]; omega), shf_s (show a0.toInt < (g10_36 y35.toNatClampNeg).toInt by rw [← (show y15.toNatClampNeg = y35.toNatClampNeg by rw [tn_ y15, tn_ y35]; omega), ← ey16]; omega)]; congr 1; rw [eg34, (show v10_3.toNatClampNeg = y35.toNatClampNeg + 1 by rw [tn_ v10_3, tn_ y35]; omega), ey29, (show y28.toNatClampNeg = y35.toNatClampNeg by rw [tn_ y28, tn_ y35]; omega)]) (by omega) (by first | exact ms_sd hx10_2 ty35 (by decide) | exact ms_sd2 hx10_2 ty35 | omega) hI hKp hg34 hP hS (lv_sub hl [0, 1, 2, 3] rfl)
    exact hL10 (20) g1 a1 E _ _ _ i4 rfl (by omega) (by have h9 := i4; first | exact ms_bd h9.2 (by decide) | omega) hI hKp hg1 hP hS (lv_sub hl [0, 1, 2, 3] rfl)
  · --3 not
    have t36 : (20 : Int) ≤ a1.toInt := ti_nlt c2
    have i37 : 20 ≤ a1.toInt ∧ a1.toInt ≤ 20 := iv_le_r t36 (il_ 20) hh0 (by decide)
    refine lv_iload_n hx hb dX12_sortIn_6 rfl (lv_at hl 2 rfl) ?_
    rw [hQ]
    exact W.iret (v := a1) hx hb hr (fun t ht hW => ⟨⟨a1, E, rfl, ⟨hI, hKp, ⟨(iv_w i37 (by decide)), by all_goals omega, (fun q9 => by exfalso; omega)⟩⟩, by show va_P (dC, dI) vwCl (WL (LC cf) ad E) t.heap; rw [ht]; exact hP⟩, hS.F ht⟩) hS.2.2 dX12_sortIn_7
def v_sortIn37X : List Cond := .code yX12_sortIn cX12_sortIn 4 (some .int) :: vA
abbrev rm_sortIn37X : Room := { frames := 0, cells := 0, slots := 0, locals := 0 }
def w_sortIn37X : Nat → Nat → Bool := wl [37] []
set_option maxHeartbeats 4000000 in
set_option maxRecDepth 100000 in
theorem q_sortIn37X (l : Launch) (dC : Nat → ClassId) (dI : Nat → Nat → Nat) (cT : Nat → ClassId) (cf : Nat → Nat) (hC : CF cf) (ad : Nat → Nat) (E : Nat → va_E) (sz : Nat) (a0 : Int32) (a1 : Int32) (hI0 : IXL cT (shC cf) (spC cf) (LC cf) ad E) (hh0 : 0 ≤ a1.toInt ∧ a1.toInt ≤ 20) : Met l yX12_sortIn v_sortIn37X rm_sortIn37X (va_Pc [.int a0, .ref (ad 37), .int a1] (HWL dC dI (TYC cT) cf ad E sz)) (va_Qi (S := Nat → va_E) (fun r u => IXL cT (shC cf) (spC cf) (LC cf) ad u ∧ Kp w_sortIn37X E u ∧ ((0 ≤ r.toInt ∧ r.toInt ≤ 20) ∧ (r.toInt ≤ a1.toInt + 1) ∧ (a1.toInt < 20 → r.toInt = a1.toInt + 1 ∧ xi (u 37) = shf (xi (E 37)) a0 a1.toNatClampNeg))) (HBL dC dI (LC cf) ad) (va_A (WL (LC cf) ad E) sz)) 0 0 (va_A (WL (LC cf) ad E) sz) := by
  obtain ⟨⟨hc0, hc1, hc2, hc3, hc4, hc5⟩, hcr⟩ := id hC
  refine Met.ofW (cc := cX12_sortIn) (maxL := 4) (ret := (some .int)) (by decide) rfl ?_
  intro p e s m args below meth c s₁ B hml hv
  obtain ⟨hargs, hsz, hP, hK, hD0, hEV⟩ := hv
  subst hsz
  have hx := B.exec
  have hb := B.bytes
  have hr := B.returns
  have hts := atoms_spec (ws := v_sortIn37X) B.pre
  have hown : s.vm.findClass RX12 = some m.cls := findClass_of_methodNamed B.named
  have hlocks := B.notSynchronized
  generalize hAe : va_A (WL (LC cf) ad E) s.heap.size = A at hEV ⊢
  have hA : ∀ q : Nat, s.heap.size ≤ q → A q := fun q h => by rw [← hAe]; exact Or.inr h
  have hD : va_D A (WL (LC cf) ad E) := by rw [← hAe]; exact hD0.self
  have hS : va_S A s.heap s.heap [] := va_S.rf
  have hI := hI0
  have hKp : Kp w_sortIn37X E E := Kp.rf
  have hl := lv_entry ([.int a0, .ref (ad 37), .int a1]) (n := 4) (Nat.le_of_ble_eq_true rfl)
  obtain ⟨Q, hQ⟩ : ∃ Q, Q = MQ below (va_Qi (S := Nat → va_E) (fun r u => IXL cT (shC cf) (spC cf) (LC cf) ad u ∧ Kp w_sortIn37X E u ∧ ((0 ≤ r.toInt ∧ r.toInt ≤ 20) ∧ (r.toInt ≤ a1.toInt + 1) ∧ (a1.toInt < 20 → r.toInt = a1.toInt + 1 ∧ xi (u 37) = shf (xi (E 37)) a0 a1.toNatClampNeg))) (HBL dC dI (LC cf) ad) (A)) args s 0 0 (A) := ⟨_, rfl⟩
  rw [← hQ, show entryFrame m args 4 = _ from (congrArg (fun z => entryFrame m z 4) hargs).trans (lg_entry_eq _ _ _)]
  generalize (lg_sl ([.int a0, .ref (ad 37), .int a1]) ++ List.replicate (4 - (lg_sl ([.int a0, .ref (ad 37), .int a1])).length) Slot.unset).toArray = ls at hl ⊢
  have hl : lv_has ls 4 [(0, .int a0), (1, .ref (ad 37)), (2, .int a1)] := hl
  obtain ⟨g1, hg1⟩ : ∃ g, xi (E 37) = g := ⟨_, rfl⟩
  have z0z : (0 : Int32).toInt = 0 := rfl
  refine lv_iload_n hx hb dX12_sortIn_0 rfl (lv_at hl 2 rfl) ?_
  refine lv_aload_n hx hb dX12_sortIn_1 rfl (lv_at hl 1 rfl) ?_
  refine va_alen (v := 20) hx hb hK hP (posL 37 (LC cf)) 0 (hI.ar 37 (mF 37 rfl) rfl) rfl rfl dX12_sortIn_2 ?_
  refine lv_icmp_lt (tgt := 8) hx hb dX12_sortIn_3 (by decide) (fun c2 => ?_) (fun c2 => ?_)
  · --3 taken
    have t3 : a1.toInt < 20 := ti_lt c2
    have i4 : 0 ≤ a1.toInt ∧ a1.toInt ≤ 19 := iv_lt_l t3 hh0 (il_ 20) (by decide)
    refine lv_iload_n hx hb dX12_sortIn_8 rfl (lv_at hl 2 rfl) ?_
    refine lv_istore_n (lv' := [(3, .int a1), (0, .int a0), (1, .ref (ad 37)), (2, .int a1)]) hx hb dX12_sortIn_9 rfl hl (by decide) rfl (fun ls hl => ?_)
    have hL10 : ∀ d : Nat, ∀ (g10_37 : Nat → Int32) (v10_3 : Int32) (E10_ : Nat → va_E) (H : Heap) (locs : List Loc) (ls : Array Slot), 0 ≤ v10_3.toInt ∧ v10_3.toInt ≤ 19 → shf g1 a0 a1.toNatClampNeg = shf g10_37 a0 v10_3.toNatClampNeg → v10_3.toInt ≤ a1.toInt → v10_3.toInt - 0 < (d : Int) → IXL cT (shC cf) (spC cf) (LC cf) ad E10_ → Kp w_sortIn37X E E10_ → xi (E10_ 37) = g10_37 → va_P (dC, dI) vwCl (WL (LC cf) ad E10_) H → va_S A s.heap H locs → lv_has ls 4 [(3, .int v10_3), (0, .int a0), (1, .ref (ad 37)), (2, .int a1)] → W p l e (headSpec v_sortIn37X rm_sortIn37X).room s m args below meth c H locs 0 0 Q (F0 m 10 ls []) := by
      intro d
      induction d with
      | zero =>
        intro g10_37 v10_3 E10_ H locs ls hv10_3 hx10_0 hx10_1 hx10_2 hI hKp hr10_37 hP hS hl
        exact absurd hx10_2 (by first | exact ms_zd hv10_3.1 | omega)
      | succ d ih10 =>
        intro g10_37 v10_3 E10_ H locs ls hv10_3 hx10_0 hx10_1 hx10_2 hI hKp hr10_37 hP hS hl
        refine lv_iload_n hx hb dX12_sortIn_10 rfl (lv_at hl 0 rfl) ?_
        refine lv_if_le (tgt := 37) hx hb dX12_sortIn_11 (by decide) (fun c5 => ?_) (fun c5 => ?_)
        · --11 taken
          have t6 : v10_3.toInt ≤ 0 := ti_le c5
          have i7 : 0 ≤ v10_3.toInt ∧ v10_3.toInt ≤ 0 := iv_le_l t6 hv10_3 (il_ 0) (by decide)
          refine lv_aload_n hx hb dX12_sortIn_37 rfl (lv_at hl 2 rfl) ?_
          refine lv_iload_n hx hb dX12_sortIn_38 rfl (lv_at hl 0 rfl) ?_
          refine lv_iload_n hx hb dX12_sortIn_39 rfl (lv_at hl 1 rfl) ?_
          have n8 : vp_in v10_3 20 := (iv_in (n := 20) i7 (by decide))
          refine th_iastL hx hb hK hP (WL_D hD) hS hI 37 (mF 37 rfl) rfl rfl n8 (okI rfl (iv_all _)) dX12_sortIn_40 (fun H locs E9 pw10 hI hP hS => ?_)
          have hKp := hKp.pw pw10 rfl
          obtain ⟨g11, eg11⟩ : ∃ z : Nat → Int32, z = upd g10_37 v10_3.toNatClampNeg a0 := ⟨_, rfl⟩
          have hg11 : xi (E9 37) = g11 := by rw [pw10.eu, hr10_37, eg11]
          refine lv_iload_n hx hb dX12_sortIn_41 rfl (lv_at hl 3 rfl) ?_
          refine lv_iconst (v := 1) hx hb dX12_sortIn_42 (by decide) ?_
          refine lv_iadd hx hb dX12_sortIn_43 ?_
          refine lv_topi (fun y12 ey12 => ?_)
          obtain ⟨ty12, iy12⟩ := ti_add (e := 1) (f := 20) i4 ln_1 ey12 (by decide)
          have ty12 : y12.toInt = a1.toInt + 1 := ty12
          have iy12 : 1 ≤ y12.toInt ∧ y12.toInt ≤ 20 := iy12
          rw [hQ]
          exact W.iret (v := y12) hx hb hr (fun t ht hW => ⟨⟨y12, E9, rfl, ⟨hI, hKp, ⟨(iv_w iy12 (by decide)), by all_goals omega, (fun _ => ⟨by omega, (show xi (E9 37) = g11 from hg11).trans (eg11.trans (Eq.symm (by rw [show xi (E 37) = g1 from hg1, hx10_0]; rw [show v10_3.toNatClampNeg = 0 by rw [tn_]; omega]; exact shf_0)))⟩)⟩⟩, by show va_P (dC, dI) vwCl (WL (LC cf) ad E9) t.heap; rw [ht]; exact hP⟩, hS.F ht⟩) hS.2.2 dX12_sortIn_44
        · --11 not
          have t13 : (0 : Int) < v10_3.toInt := ti_nle c5
          have i14 : 1 ≤ v10_3.toInt ∧ v10_3.toInt ≤ 19 := iv_lt_r t13 (il_ 0) hv10_3 (by decide)
          refine lv_aload_n hx hb dX12_sortIn_14 rfl (lv_at hl 2 rfl) ?_
          refine lv_iload_n hx hb dX12_sortIn_15 rfl (lv_at hl 0 rfl) ?_
          refine lv_iconst (v := 1) hx hb dX12_sortIn_16 (by decide) ?_
          refine lv_isub hx hb dX12_sortIn_17 ?_
          refine lv_topi (fun y15 ey15 => ?_)
          obtain ⟨ty15, iy15⟩ := ti_sub (e := 0) (f := 18) i14 ln_1 ey15 (by decide)
          have ty15 : y15.toInt = v10_3.toInt - 1 := ty15
          have iy15 : 0 ≤ y15.toInt ∧ y15.toInt ≤ 18 := iy15
          have n17 : vp_in y15 20 := (iv_in (n := 20) iy15 (by decide))
          refine th_ialdL hx hb hK hP hI 37 (mF 37 rfl) rfl rfl n17 dX12_sortIn_18 (fun y16 ey16 => ?_)
          have ey16 := ey16.trans (congrFun hr10_37 _)
          refine lv_iload_n hx hb dX12_sortIn_19 rfl (lv_at hl 1 rfl) ?_
          refine lv_icmp_le (tgt := 37) hx hb dX12_sortIn_20 (by decide) (fun c18 => ?_) (fun c18 => ?_)
          · --20 taken
            have t19 : y16.toInt ≤ a0.toInt := ti_le c18
            refine lv_aload_n hx hb dX12_sortIn_37 rfl (lv_at hl 2 rfl) ?_
            refine lv_iload_n hx hb dX12_sortIn_38 rfl (lv_at hl 0 rfl) ?_
            refine lv_iload_n hx hb dX12_sortIn_39 rfl (lv_at hl 1 rfl) ?_
            have n20 : vp_in v10_3 20 := (iv_in (n := 20) i14 (by decide))
            refine th_iastL hx hb hK hP (WL_D hD) hS hI 37 (mF 37 rfl) rfl rfl n20 (okI rfl (iv_all _)) dX12_sortIn_40 (fun H locs E21 pw22 hI hP hS => ?_)
            have hKp := hKp.pw pw22 rfl
            obtain ⟨g23, eg23⟩ : ∃ z : Nat → Int32, z = upd g10_37 v10_3.toNatClampNeg a0 := ⟨_, rfl⟩
            have hg23 : xi (E21 37) = g23 := by rw [pw22.eu, hr10_37, eg23]
            refine lv_iload_n hx hb dX12_sortIn_41 rfl (lv_at hl 3 rfl) ?_
            refine lv_iconst (v := 1) hx hb dX12_sortIn_42 (by decide) ?_
            refine lv_iadd hx hb dX12_sortIn_43 ?_
            refine lv_topi (fun y24 ey24 => ?_)
            obtain ⟨ty24, iy24⟩ := ti_add (e := 1) (f := 20) i4 ln_1 ey24 (by decide)
            have ty24 : y24.toInt = a1.toInt + 1 := ty24
            have iy24 : 1 ≤ y24.toInt ∧ y24.toInt ≤ 20 := iy24
            rw [hQ]
            exact W.iret (v := y24) hx hb hr (fun t ht hW => ⟨⟨y24, E21, rfl, ⟨hI, hKp, ⟨(iv_w iy24 (by decide)), by all_goals omega, (fun _ => ⟨by omega, (show xi (E21 37) = g23 from hg23).trans (eg23.trans (Eq.symm (by rw [show xi (E 37) = g1 from hg1, hx10_0]; rw [(show v10_3.toNatClampNeg = y15.toNatClampNeg + 1 by rw [tn_ v10_3, tn_ y15]; omega)]; exact shf_e (by rw [← ey16]; omega))))⟩)⟩⟩, by show va_P (dC, dI) vwCl (WL (LC cf) ad E21) t.heap; rw [ht]; exact hP⟩, hS.F ht⟩) hS.2.2 dX12_sortIn_44
          · --20 not
            have t25 : a0.toInt < y16.toInt := ti_nle c18
            have i26 : -2147483648 ≤ a0.toInt ∧ a0.toInt ≤ 2147483646 := iv_lt_l t25 (iv_all _) (iv_all _) (by decide)
            have i27 : -2147483647 ≤ y16.toInt ∧ y16.toInt ≤ 2147483647 := iv_lt_r t25 (iv_all _) (iv_all _) (by decide)
            refine lv_aload_n hx hb dX12_sortIn_23 rfl (lv_at hl 2 rfl) ?_
            refine lv_iload_n hx hb dX12_sortIn_24 rfl (lv_at hl 0 rfl) ?_
            refine lv_aload_n hx hb dX12_sortIn_25 rfl (lv_at hl 2 rfl) ?_
            refine lv_iload_n hx hb dX12_sortIn_26 rfl (lv_at hl 0 rfl) ?_
            refine lv_iconst (v := 1) hx hb dX12_sortIn_27 (by decide) ?_
            refine lv_isub hx hb dX12_sortIn_28 ?_
            refine lv_topi (fun y28 ey28 => ?_)
            obtain ⟨ty28, iy28⟩ := ti_sub (e := 0) (f := 18) i14 ln_1 ey28 (by decide)
            have ty28 : y28.toInt = v10_3.toInt - 1 := ty28
            have iy28 : 0 ≤ y28.toInt ∧ y28.toInt ≤ 18 := iy28
            have n30 : vp_in y28 20 := (iv_in (n := 20) iy28 (by decide))
            refine th_ialdL hx hb hK hP hI 37 (mF 37 rfl) rfl rfl n30 dX12_sortIn_29 (fun y29 ey29 => ?_)
            have ey29 := ey29.trans (congrFun hr10_37 _)
            have n31 : vp_in v10_3 20 := (iv_in (n := 20) i14 (by decide))
            refine th_iastL hx hb hK hP (WL_D hD) hS hI 37 (mF 37 rfl) rfl rfl n31 (okI rfl (iv_all _)) dX12_sortIn_30 (fun H locs E32 pw33 hI hP hS => ?_)
            have hKp := hKp.pw pw33 rfl
            obtain ⟨g34, eg34⟩ : ∃ z : Nat → Int32, z = upd g10_37 v10_3.toNatClampNeg y29 := ⟨_, rfl⟩
            have hg34 : xi (E32 37) = g34 := by rw [pw33.eu, hr10_37, eg34]
            obtain ⟨y35, ey35⟩ : ∃ y : Int32, y = v10_3 + (-1 : Int32) := ⟨_, rfl⟩
            obtain ⟨ty35, iy35⟩ := ti_add (e := 0) (f := 18) i14 ln_m1 ey35 (by decide)
            have ty35 : y35.toInt = v10_3.toInt + (-1) := ty35
            have iy35 : 0 ≤ y35.toInt ∧ y35.toInt ≤ 18 := iy35
            refine lv_iinc (v := y35) (lv' := [(3, .int y35), (0, .int a0), (1, .ref (ad 37)), (2, .int a1)]) hx hb dX12_sortIn_31 hl (k := 0) rfl (by rw [ey35]; rfl) (by decide) rfl (fun ls hl => ?_)
            refine lv_goto (tgt := 10) hx hb dX12_sortIn_34 (by decide) ?_
            exact ih10 g34 y35 E32 _ _ _ (iv_w iy35 (by decide)) (by rw [hx10_0, (show v10_3.toNatClampNeg = y35.toNatClampNeg + 1 by rw [tn_ v10_3, tn_ y35]; omega), shf_s (show a0.toInt < (g10_37 y35.toNatClampNeg).toInt by rw [← (show y15.toNatClampNeg = y35.toNatClampNeg by rw [tn_ y15, tn_ y35]; omega), ← ey16]; omega)]; congr 1; rw [eg34, (show v10_3.toNatClampNeg = y35.toNatClampNeg + 1 by rw [tn_ v10_3, tn_ y35]; omega), ey29, (show y28.toNatClampNeg = y35.toNatClampNeg by rw [tn_ y28, tn_ y35]; omega)]) (by omega) (by first | exact ms_sd hx10_2 ty35 (by decide) | exact ms_sd2 hx10_2 ty35 | omega) hI hKp hg34 hP hS (lv_sub hl [0, 1, 2, 3] rfl)
    exact hL10 (20) g1 a1 E _ _ _ i4 rfl (by omega) (by have h9 := i4; first | exact ms_bd h9.2 (by decide) | omega) hI hKp hg1 hP hS (lv_sub hl [0, 1, 2, 3] rfl)
  · --3 not
    have t36 : (20 : Int) ≤ a1.toInt := ti_nlt c2
    have i37 : 20 ≤ a1.toInt ∧ a1.toInt ≤ 20 := iv_le_r t36 (il_ 20) hh0 (by decide)
    refine lv_iload_n hx hb dX12_sortIn_6 rfl (lv_at hl 2 rfl) ?_
    rw [hQ]
    exact W.iret (v := a1) hx hb hr (fun t ht hW => ⟨⟨a1, E, rfl, ⟨hI, hKp, ⟨(iv_w i37 (by decide)), by all_goals omega, (fun q9 => by exfalso; omega)⟩⟩, by show va_P (dC, dI) vwCl (WL (LC cf) ad E) t.heap; rw [ht]; exact hP⟩, hS.F ht⟩) hS.2.2 dX12_sortIn_7
def v_keptMX : List Cond := .code yX8_sortKept cX8_sortKept 5 (some .int) :: vA
abbrev rm_keptMX : Room := { frames := 1, cells := 0, slots := 0, locals := 40 }
def w_keptMX : Nat → Nat → Bool := wl [36] []
set_option maxHeartbeats 4000000 in
set_option maxRecDepth 100000 in
theorem q_keptMX (l : Launch) (dC : Nat → ClassId) (dI : Nat → Nat → Nat) (cT : Nat → ClassId) (cf : Nat → Nat) (hC : CF cf) (ad : Nat → Nat) (E : Nat → va_E) (sz : Nat) (a0 : Int32) (hI0 : IXL cT (shC cf) (spC cf) (LC cf) ad E) (hh0 : 0 ≤ a0.toInt ∧ a0.toInt ≤ 15) : Met l yX8_sortKept v_keptMX rm_keptMX (va_Pc [.ref (ad 4), .int a0, .ref (ad 36)] (HWL dC dI (TYC cT) cf ad E sz)) (va_Qi (S := Nat → va_E) (fun r u => IXL cT (shC cf) (spC cf) (LC cf) ad u ∧ Kp w_keptMX E u ∧ ((0 ≤ r.toInt ∧ r.toInt ≤ 20) ∧ (KpR (xi (E 32)) (xi (E 33)) (xi (E 4) 2).toNatClampNeg a0.toNatClampNeg r.toNatClampNeg (xi (u 36))))) (HBL dC dI (LC cf) ad) (va_A (WL (LC cf) ad E) sz)) 0 0 (va_A (WL (LC cf) ad E) sz) := by
  obtain ⟨⟨hc0, hc1, hc2, hc3, hc4, hc5⟩, hcr⟩ := id hC
  refine Met.ofW (cc := cX8_sortKept) (maxL := 5) (ret := (some .int)) (by decide) rfl ?_
  intro p e s m args below meth c s₁ B hml hv
  obtain ⟨hargs, hsz, hP, hK, hD0, hEV⟩ := hv
  subst hsz
  have hx := B.exec
  have hb := B.bytes
  have hr := B.returns
  have hts := atoms_spec (ws := v_keptMX) B.pre
  have hown : s.vm.findClass RX8 = some m.cls := findClass_of_methodNamed B.named
  have hlocks := B.notSynchronized
  have hinX8 : ∀ w ∈ u_ws RX8 TX8 10, w ∈ v_keptMX := fun w h => vA_in _ w (in_X8 w h)
  generalize hAe : va_A (WL (LC cf) ad E) s.heap.size = A at hEV ⊢
  have hA : ∀ q : Nat, s.heap.size ≤ q → A q := fun q h => by rw [← hAe]; exact Or.inr h
  have hD : va_D A (WL (LC cf) ad E) := by rw [← hAe]; exact hD0.self
  have hS : va_S A s.heap s.heap [] := va_S.rf
  have hI := hI0
  have hKp : Kp w_keptMX E E := Kp.rf
  have hl := lv_entry ([.ref (ad 4), .int a0, .ref (ad 36)]) (n := 5) (Nat.le_of_ble_eq_true rfl)
  obtain ⟨Q, hQ⟩ : ∃ Q, Q = MQ below (va_Qi (S := Nat → va_E) (fun r u => IXL cT (shC cf) (spC cf) (LC cf) ad u ∧ Kp w_keptMX E u ∧ ((0 ≤ r.toInt ∧ r.toInt ≤ 20) ∧ (KpR (xi (E 32)) (xi (E 33)) (xi (E 4) 2).toNatClampNeg a0.toNatClampNeg r.toNatClampNeg (xi (u 36))))) (HBL dC dI (LC cf) ad) (A)) args s 0 0 (A) := ⟨_, rfl⟩
  rw [← hQ, show entryFrame m args 5 = _ from (congrArg (fun z => entryFrame m z 5) hargs).trans (lg_entry_eq _ _ _)]
  generalize (lg_sl ([.ref (ad 4), .int a0, .ref (ad 36)]) ++ List.replicate (5 - (lg_sl ([.ref (ad 4), .int a0, .ref (ad 36)])).length) Slot.unset).toArray = ls at hl ⊢
  have hl : lv_has ls 5 [(0, .ref (ad 4)), (1, .int a0), (2, .ref (ad 36))] := hl
  have z0z : (0 : Int32).toInt = 0 := rfl
  have irc : 0 ≤ (xi (E 4) 2).toInt ∧ (xi (E 4) 2).toInt ≤ ((cf 2 : Nat) : Int) := hI0.iv 4 (mF 4 rfl) rfl (Nat.le_of_ble_eq_true rfl) rfl
  refine lv_iconst (v := 0) hx hb dX8_sortKept_0 (by decide) ?_
  refine lv_istore_n (lv' := [(3, .int 0), (0, .ref (ad 4)), (1, .int a0), (2, .ref (ad 36))]) hx hb dX8_sortKept_1 rfl hl (by decide) rfl (fun ls hl => ?_)
  refine lv_iconst (v := 0) hx hb dX8_sortKept_2 (by decide) ?_
  refine lv_istore (lv' := [(4, .int 0), (3, .int 0), (0, .ref (ad 4)), (1, .int a0), (2, .ref (ad 36))]) hx hb dX8_sortKept_3 hl (by decide) rfl (fun ls hl => ?_)
  have hL5 : ∀ d : Nat, ∀ (v5_4 : Int32) (v5_3 : Int32) (E5_ : Nat → va_E) (H : Heap) (locs : List Loc) (ls : Array Slot), 0 ≤ v5_4.toInt ∧ v5_4.toInt ≤ 20 → 0 ≤ v5_3.toInt ∧ v5_3.toInt ≤ 20 → (∃ g9 : Nat → Int32, MR (fun r9 : Nat => xi (E 33) (16 * r9 + a0.toNatClampNeg) = 0) (fun r9 : Nat => xi (E 32) (16 * r9 + a0.toNatClampNeg)) 99 v5_4.toNatClampNeg v5_3.toNatClampNeg g9 ∧ xi (E5_ 36) = g9) → v5_3.toInt ≤ v5_4.toInt → v5_4.toInt ≤ (xi (E 4) 2).toInt → 20 - v5_4.toInt < (d : Int) → IXL cT (shC cf) (spC cf) (LC cf) ad E5_ → Kp w_keptMX E E5_ → va_P (dC, dI) vwCl (WL (LC cf) ad E5_) H → va_S A s.heap H locs → lv_has ls 5 [(4, .int v5_4), (3, .int v5_3), (0, .ref (ad 4)), (1, .int a0), (2, .ref (ad 36))] → W p l e (headSpec v_keptMX rm_keptMX).room s m args below meth c H locs 0 0 Q (F0 m 5 ls []) := by
    intro d
    induction d with
    | zero =>
      intro v5_4 v5_3 E5_ H locs ls hv5_4 hv5_3 hx5_0 hx5_1 hx5_2 hx5_3 hI hKp hP hS hl
      exact absurd hx5_3 (by first | exact ms_zu hv5_4.2 | omega)
    | succ d ih5 =>
      intro v5_4 v5_3 E5_ H locs ls hv5_4 hv5_3 hx5_0 hx5_1 hx5_2 hx5_3 hI hKp hP hS hl
      refine lv_iload hx hb dX8_sortKept_5 (lv_at hl 0 rfl) ?_
      refine lv_aload_n hx hb dX8_sortKept_7 rfl (lv_at hl 2 rfl) ?_
      have j2 : 0 ≤ (xi (E 4) 2).toInt ∧ (xi (E 4) 2).toInt ≤ ((cf 2 : Nat) : Int) := hI0.iv 4 (mF 4 rfl) rfl (Nat.le_of_ble_eq_true rfl) rfl
      have i1 : 0 ≤ (xi (E 4) 2).toInt ∧ (xi (E 4) 2).toInt ≤ 20 := by omega
      refine th_getL (ci := 9) (C := RX8) (T := TX8) (N := 10) (v := .int (xi (E 4) 2)) hx hb hts hinX8 hown hK hP hI 4 (mF 4 rfl) rfl rfl 2 (Nat.le_of_ble_eq_true rfl) (hts _ (vA_in _ _ (in_20 _ (zs4 (zs4 (zs4 (zs0))))))) (fun _ h9 => h9) (th_v0L hKp hI0 4 (mF 4 rfl) rfl (Nat.le_of_ble_eq_true rfl) rfl rfl) dX8_sortKept_8 ?_
      refine lv_icmp_ge (tgt := 54) hx hb dX8_sortKept_11 (by decide) (fun c3 => ?_) (fun c3 => ?_)
      · --11 taken
        have t4 : (xi (E 4) 2).toInt ≤ v5_4.toInt := ti_le c3
        refine lv_iload_n hx hb dX8_sortKept_54 rfl (lv_at hl 1 rfl) ?_
        rw [hQ]
        exact W.iret (v := v5_3) hx hb hr (fun t ht hW => ⟨⟨v5_3, E5_, rfl, ⟨hI, hKp, ⟨hv5_3, (by obtain ⟨g9, h8, h9⟩ := hx5_0; rw [show v5_4.toNatClampNeg = (xi (E 4) 2).toNatClampNeg by rw [tn_, tn_]; omega] at h8; unfold KpR; rw [h9]; exact h8)⟩⟩, by show va_P (dC, dI) vwCl (WL (LC cf) ad E5_) t.heap; rw [ht]; exact hP⟩, hS.F ht⟩) hS.2.2 dX8_sortKept_55
      · --11 not
        have t5 : v5_4.toInt < (xi (E 4) 2).toInt := ti_nle c3
        have i6 : 0 ≤ v5_4.toInt ∧ v5_4.toInt ≤ 19 := iv_lt_l t5 hv5_4 i1 (by decide)
        have i7 : 1 ≤ (xi (E 4) 2).toInt ∧ (xi (E 4) 2).toInt ≤ 20 := iv_lt_r t5 hv5_4 i1 (by decide)
        refine lv_aload_n hx hb dX8_sortKept_14 rfl (lv_at hl 2 rfl) ?_
        refine th_getL (ci := 9) (C := RX8) (T := TX8) (N := 10) (v := .ref (ad 33)) hx hb hts hinX8 hown hK hP hI 4 (mF 4 rfl) rfl rfl 5 (Nat.le_of_ble_eq_true rfl) (hts _ (vA_in _ _ (in_19 _ (zs4 (zs4 (zs1 (zs1 (zs1 (zs0))))))))) (fun _ h9 => h9) (hI.fr 4 (mF 4 rfl) rfl (Nat.le_of_ble_eq_true rfl) 33 rfl) dX8_sortKept_15 ?_
        refine lv_iload hx hb dX8_sortKept_18 (lv_at hl 0 rfl) ?_
        refine lv_iload_n hx hb dX8_sortKept_20 rfl (lv_at hl 3 rfl) ?_
        refine th_pi (va_runSN (As := [.int v5_4, .int a0]) (rest := [.ref (ad 33)]) ⟨hx, hb, hml, hown, hts⟩ (q_ccell l v5_4 a0 i6 hh0) ⟨va_cnB 2 hts (gi_0 (in_10 _ (zs16 (zs4 (zs0))))) rfl rfl rfl (hEV.1.1 _ (List.mem_of_getElem? (i := 10) rfl)) (hts _ (vA_in _ _ (in_4 _ (zs16 (zs4 (zs1 (zs1 (zs1 (zs0))))))))) hz_yX12_cell_2 ⟨Nat.le_of_ble_eq_true rfl, Nat.le_of_ble_eq_true rfl⟩, (hts _ (vA_in _ _ (in_13 _ (zs1 (zs0))))), trivial⟩ ⟨fun _ _ _ _ q => q, fun _ _ _ => ⟨rfl, trivial⟩⟩ rfl rfl hl.1 rfl (lv_room (Nat.le_of_ble_eq_true rfl)) dX8_sortKept_21 ⟨Nat.le_of_ble_eq_true rfl, Nat.le_of_ble_eq_true rfl⟩) hS (fun r8 H1 locs1 hw hk1 hS => ?_)
        have hP := ub_keep hP hk1
        generalize H1 = H at hP hS ⊢
        generalize locs1 = locs at hS ⊢
        obtain ⟨f9, f10⟩ := hw
        have n12 : vp_in r8 320 := (iv_in (n := 320) f9 (by decide))
        refine th_zaldL hx hb hK hP hI 33 (mF 33 rfl) rfl rfl n12 dX8_sortKept_24 (fun y11 ey11 => ?_)
        have iy11 : 0 ≤ y11.toInt ∧ y11.toInt ≤ 1 := hI.el 33 (mF 33 rfl) rfl n12 (fun _ => rfl) ey11
        have ey11 := ey11.trans (hKp.ei 33 _ rfl)
        have i13 : 0 ≤ v5_3.toInt ∧ v5_3.toInt ≤ 19 := by omega
        refine lv_if_eq (tgt := 31) hx hb dX8_sortKept_25 (by decide) (fun c14 => ?_) (fun c14 => ?_)
        · --25 taken
          have t15 : y11.toInt = 0 := ti_eq c14
          have i16 : 0 ≤ y11.toInt ∧ y11.toInt ≤ 0 := iv_eqi t15 iy11 (il_ 0) (by decide)
          refine lv_aload_n hx hb dX8_sortKept_31 rfl (lv_at hl 2 rfl) ?_
          refine th_getL (ci := 9) (C := RX8) (T := TX8) (N := 10) (v := .ref (ad 32)) hx hb hts hinX8 hown hK hP hI 4 (mF 4 rfl) rfl rfl 4 (Nat.le_of_ble_eq_true rfl) (hts _ (vA_in _ _ (in_19 _ (zs4 (zs4 (zs1 (zs0))))))) (fun _ h9 => h9) (hI.fr 4 (mF 4 rfl) rfl (Nat.le_of_ble_eq_true rfl) 32 rfl) dX8_sortKept_32 ?_
          refine lv_iload hx hb dX8_sortKept_35 (lv_at hl 0 rfl) ?_
          refine lv_iload_n hx hb dX8_sortKept_37 rfl (lv_at hl 3 rfl) ?_
          refine th_pi (va_runSN (As := [.int v5_4, .int a0]) (rest := [.ref (ad 32)]) ⟨hx, hb, hml, hown, hts⟩ (q_ccell l v5_4 a0 i6 hh0) ⟨va_cnB 2 hts (gi_0 (in_10 _ (zs16 (zs4 (zs0))))) rfl rfl rfl (hEV.1.1 _ (List.mem_of_getElem? (i := 10) rfl)) (hts _ (vA_in _ _ (in_4 _ (zs16 (zs4 (zs1 (zs1 (zs1 (zs0))))))))) hz_yX12_cell_2 ⟨Nat.le_of_ble_eq_true rfl, Nat.le_of_ble_eq_true rfl⟩, (hts _ (vA_in _ _ (in_13 _ (zs1 (zs0))))), trivial⟩ ⟨fun _ _ _ _ q => q, fun _ _ _ => ⟨rfl, trivial⟩⟩ rfl rfl hl.1 rfl (lv_room (Nat.le_of_ble_eq_true rfl)) dX8_sortKept_38 ⟨Nat.le_of_ble_eq_true rfl, Nat.le_of_ble_eq_true rfl⟩) hS (fun r17 H1 locs1 hw hk1 hS => ?_)
          have hP := ub_keep hP hk1
          generalize H1 = H at hP hS ⊢
          generalize locs1 = locs at hS ⊢
          obtain ⟨f18, f19⟩ := hw
          have n21 : vp_in r17 320 := (iv_in (n := 320) f18 (by decide))
          refine th_ialdL hx hb hK hP hI 32 (mF 32 rfl) rfl rfl n21 dX8_sortKept_41 (fun y20 ey20 => ?_)
          have ey20 := ey20.trans (hKp.ei 32 _ rfl)
          refine lv_aload_n hx hb dX8_sortKept_42 rfl (lv_at hl 4 rfl) ?_
          refine lv_iload_n hx hb dX8_sortKept_43 rfl (lv_at hl 1 rfl) ?_
          refine th_iL (va_runSN (As := [.int y20, .ref (ad 36), .int v5_3]) (rest := []) ⟨hx, hb, hml, hown, hts⟩ (q_sortIn36X l dC dI cT cf hC ad E5_ H.size y20 v5_3 hI (iv_w i13 (by decide))) ⟨va_cnB 3 hts (gi_0 (in_17 _ (zs16 (zs4 (zs4 (zs0)))))) rfl rfl rfl (hEV.1.1 _ (List.mem_of_getElem? (i := 9) rfl)) (hts _ (vA_in _ _ (in_4 _ (zs16 (zs4 (zs1 (zs1 (zs1 (zs0))))))))) hz_yX12_sortIn_3 ⟨Nat.le_of_ble_eq_true rfl, Nat.le_of_ble_eq_true rfl⟩, (hts _ (vA_in _ _ (in_17 _ (zs16 (zs4 (zs1 (zs1 (zs1 (zs0))))))))), trivial⟩ ⟨HWL_bl, (HWL_wi hP hK (WL_D hD) hS hA hEV)⟩ rfl rfl hl.1 rfl (lv_room (Nat.le_of_ble_eq_true rfl)) dX8_sortKept_44 ⟨Nat.le_of_ble_eq_true rfl, Nat.le_of_ble_eq_true rfl⟩) (WL_D hD) hS hA (fun r22 E23 H locs hw hP hS => ?_)
          obtain ⟨hI, kq24, hw⟩ := hw
          have hKb := hKp
          have hKp := hKp.tr kq24 (wl_sub rfl rfl)
          obtain ⟨f25, f26, f27⟩ := hw
          refine lv_istore_n (lv' := [(3, .int r22), (4, .int v5_4), (0, .ref (ad 4)), (1, .int a0), (2, .ref (ad 36))]) hx hb dX8_sortKept_47 rfl hl (by decide) rfl (fun ls hl => ?_)
          obtain ⟨y28, ey28⟩ : ∃ y : Int32, y = v5_4 + (1 : Int32) := ⟨_, rfl⟩
          obtain ⟨ty28, iy28⟩ := ti_add (e := 1) (f := 20) i6 ln_1 ey28 (by decide)
          have ty28 : y28.toInt = v5_4.toInt + 1 := ty28
          have iy28 : 1 ≤ y28.toInt ∧ y28.toInt ≤ 20 := iy28
          refine lv_iinc (v := y28) (lv' := [(4, .int y28), (3, .int r22), (0, .ref (ad 4)), (1, .int a0), (2, .ref (ad 36))]) hx hb dX8_sortKept_48 hl (k := 1) rfl (by rw [ey28]; rfl) (by decide) rfl (fun ls hl => ?_)
          refine lv_goto (tgt := 5) hx hb dX8_sortKept_51 (by decide) ?_
          exact ih5 y28 r22 E23 _ _ _ (iv_w iy28 (by decide)) f25 (by obtain ⟨g9, h8, h9⟩ := hx5_0; exact ⟨_, h8.one (g' := xi (E23 36)) ⟨(by rw [tn_]; omega), (show xi (E 33) (16 * v5_4.toNatClampNeg + a0.toNatClampNeg) = 0 by rw [← (show y11 = xi (E 33) (16 * v5_4.toNatClampNeg + a0.toNatClampNeg) by rw [ey11, (show r8.toNatClampNeg = 16 * v5_4.toNatClampNeg + a0.toNatClampNeg by rw [tn_ r8, tn_ v5_4, tn_ a0]; omega)])]; exact Int32.toInt_inj.mp (show y11.toInt = (0 : Int32).toInt by have z9 : (0 : Int32).toInt = 0 := rfl; omega))⟩ (fun i9 _ => by rw [(f27 (by omega)).2, h9]; show shf g9 y20 _ _ = shf g9 (xi (E 32) (16 * v5_4.toNatClampNeg + a0.toNatClampNeg)) _ _; rw [(show y20 = xi (E 32) (16 * v5_4.toNatClampNeg + a0.toNatClampNeg) by rw [ey20, (show r17.toNatClampNeg = 16 * v5_4.toNatClampNeg + a0.toNatClampNeg by rw [tn_ r17, tn_ v5_4, tn_ a0]; omega)])]) (by rw [tn_ r22, tn_ v5_3]; omega) (by rw [tn_ y28, tn_ v5_4]; omega), rfl⟩) (by omega) (by omega) (by first | exact ms_su hx5_3 ty28 (by decide) | omega) hI hKp hP hS (lv_sub hl [0, 1, 2, 3, 4] rfl)
        · --25 not
          have t29 : ¬ y11.toInt = 0 := ti_ne c14
          have i30 : 1 ≤ y11.toInt ∧ y11.toInt ≤ 1 := iv_ne_l t29 iy11 (il_ 0)
          refine lv_goto (tgt := 48) hx hb dX8_sortKept_28 (by decide) ?_
          obtain ⟨y31, ey31⟩ : ∃ y : Int32, y = v5_4 + (1 : Int32) := ⟨_, rfl⟩
          obtain ⟨ty31, iy31⟩ := ti_add (e := 1) (f := 20) i6 ln_1 ey31 (by decide)
          have ty31 : y31.toInt = v5_4.toInt + 1 := ty31
          have iy31 : 1 ≤ y31.toInt ∧ y31.toInt ≤ 20 := iy31
          refine lv_iinc (v := y31) (lv' := [(4, .int y31), (3, .int v5_3), (0, .ref (ad 4)), (1, .int a0), (2, .ref (ad 36))]) hx hb dX8_sortKept_48 hl (k := 0) rfl (by rw [ey31]; rfl) (by decide) rfl (fun ls hl => ?_)
          refine lv_goto (tgt := 5) hx hb dX8_sortKept_51 (by decide) ?_
          exact ih5 y31 v5_3 E5_ _ _ _ (iv_w iy31 (by decide)) (iv_w i13 (by decide)) (by obtain ⟨g9, h8, h9⟩ := hx5_0; exact ⟨g9, h8.no (fun q9 => by have q8 : xi (E 33) (16 * v5_4.toNatClampNeg + a0.toNatClampNeg) = 0 := q9.2; have q7 := congrArg Int32.toInt ((show y11 = xi (E 33) (16 * v5_4.toNatClampNeg + a0.toNatClampNeg) by rw [ey11, (show r8.toNatClampNeg = 16 * v5_4.toNatClampNeg + a0.toNatClampNeg by rw [tn_ r8, tn_ v5_4, tn_ a0]; omega)]).trans q8); have z9 : (0 : Int32).toInt = 0 := rfl; omega) (by rw [tn_ y31, tn_ v5_4]; omega), h9⟩) (by omega) (by omega) (by first | exact ms_su hx5_3 ty31 (by decide) | omega) hI hKp hP hS (lv_sub hl [0, 1, 2, 3, 4] rfl)
  exact hL5 (21) (0 : Int32) (0 : Int32) E _ _ _ (iv_w ln_0 (by decide)) (iv_w ln_0 (by decide)) ⟨_, (show MR (fun r9 : Nat => xi (E 33) (16 * r9 + a0.toNatClampNeg) = 0) (fun r9 : Nat => xi (E 32) (16 * r9 + a0.toNatClampNeg)) 99 0 0 _ from rfl), rfl⟩ (by omega) (by omega) (by have h9 := ln_0; first | exact ms_bu h9.1 (by decide) | omega) hI hKp hP hS (lv_sub hl [0, 1, 2, 3, 4] rfl)
def v_keptTX : List Cond := .code yX8_sortKept cX8_sortKept 5 (some .int) :: vA
abbrev rm_keptTX : Room := { frames := 1, cells := 0, slots := 0, locals := 40 }
def w_keptTX : Nat → Nat → Bool := wl [37] []
set_option maxHeartbeats 4000000 in
set_option maxRecDepth 100000 in
theorem q_keptTX (l : Launch) (dC : Nat → ClassId) (dI : Nat → Nat → Nat) (cT : Nat → ClassId) (cf : Nat → Nat) (hC : CF cf) (ad : Nat → Nat) (E : Nat → va_E) (sz : Nat) (a0 : Int32) (hI0 : IXL cT (shC cf) (spC cf) (LC cf) ad E) (hh0 : 0 ≤ a0.toInt ∧ a0.toInt ≤ 15) : Met l yX8_sortKept v_keptTX rm_keptTX (va_Pc [.ref (ad 4), .int a0, .ref (ad 37)] (HWL dC dI (TYC cT) cf ad E sz)) (va_Qi (S := Nat → va_E) (fun r u => IXL cT (shC cf) (spC cf) (LC cf) ad u ∧ Kp w_keptTX E u ∧ ((0 ≤ r.toInt ∧ r.toInt ≤ 20) ∧ (KpR (xi (E 32)) (xi (E 33)) (xi (E 4) 2).toNatClampNeg a0.toNatClampNeg r.toNatClampNeg (xi (u 37))))) (HBL dC dI (LC cf) ad) (va_A (WL (LC cf) ad E) sz)) 0 0 (va_A (WL (LC cf) ad E) sz) := by
  obtain ⟨⟨hc0, hc1, hc2, hc3, hc4, hc5⟩, hcr⟩ := id hC
  refine Met.ofW (cc := cX8_sortKept) (maxL := 5) (ret := (some .int)) (by decide) rfl ?_
  intro p e s m args below meth c s₁ B hml hv
  obtain ⟨hargs, hsz, hP, hK, hD0, hEV⟩ := hv
  subst hsz
  have hx := B.exec
  have hb := B.bytes
  have hr := B.returns
  have hts := atoms_spec (ws := v_keptTX) B.pre
  have hown : s.vm.findClass RX8 = some m.cls := findClass_of_methodNamed B.named
  have hlocks := B.notSynchronized
  have hinX8 : ∀ w ∈ u_ws RX8 TX8 10, w ∈ v_keptTX := fun w h => vA_in _ w (in_X8 w h)
  generalize hAe : va_A (WL (LC cf) ad E) s.heap.size = A at hEV ⊢
  have hA : ∀ q : Nat, s.heap.size ≤ q → A q := fun q h => by rw [← hAe]; exact Or.inr h
  have hD : va_D A (WL (LC cf) ad E) := by rw [← hAe]; exact hD0.self
  have hS : va_S A s.heap s.heap [] := va_S.rf
  have hI := hI0
  have hKp : Kp w_keptTX E E := Kp.rf
  have hl := lv_entry ([.ref (ad 4), .int a0, .ref (ad 37)]) (n := 5) (Nat.le_of_ble_eq_true rfl)
  obtain ⟨Q, hQ⟩ : ∃ Q, Q = MQ below (va_Qi (S := Nat → va_E) (fun r u => IXL cT (shC cf) (spC cf) (LC cf) ad u ∧ Kp w_keptTX E u ∧ ((0 ≤ r.toInt ∧ r.toInt ≤ 20) ∧ (KpR (xi (E 32)) (xi (E 33)) (xi (E 4) 2).toNatClampNeg a0.toNatClampNeg r.toNatClampNeg (xi (u 37))))) (HBL dC dI (LC cf) ad) (A)) args s 0 0 (A) := ⟨_, rfl⟩
  rw [← hQ, show entryFrame m args 5 = _ from (congrArg (fun z => entryFrame m z 5) hargs).trans (lg_entry_eq _ _ _)]
  generalize (lg_sl ([.ref (ad 4), .int a0, .ref (ad 37)]) ++ List.replicate (5 - (lg_sl ([.ref (ad 4), .int a0, .ref (ad 37)])).length) Slot.unset).toArray = ls at hl ⊢
  have hl : lv_has ls 5 [(0, .ref (ad 4)), (1, .int a0), (2, .ref (ad 37))] := hl
  have z0z : (0 : Int32).toInt = 0 := rfl
  have irc : 0 ≤ (xi (E 4) 2).toInt ∧ (xi (E 4) 2).toInt ≤ ((cf 2 : Nat) : Int) := hI0.iv 4 (mF 4 rfl) rfl (Nat.le_of_ble_eq_true rfl) rfl
  refine lv_iconst (v := 0) hx hb dX8_sortKept_0 (by decide) ?_
  refine lv_istore_n (lv' := [(3, .int 0), (0, .ref (ad 4)), (1, .int a0), (2, .ref (ad 37))]) hx hb dX8_sortKept_1 rfl hl (by decide) rfl (fun ls hl => ?_)
  refine lv_iconst (v := 0) hx hb dX8_sortKept_2 (by decide) ?_
  refine lv_istore (lv' := [(4, .int 0), (3, .int 0), (0, .ref (ad 4)), (1, .int a0), (2, .ref (ad 37))]) hx hb dX8_sortKept_3 hl (by decide) rfl (fun ls hl => ?_)
  have hL5 : ∀ d : Nat, ∀ (v5_4 : Int32) (v5_3 : Int32) (E5_ : Nat → va_E) (H : Heap) (locs : List Loc) (ls : Array Slot), 0 ≤ v5_4.toInt ∧ v5_4.toInt ≤ 20 → 0 ≤ v5_3.toInt ∧ v5_3.toInt ≤ 20 → (∃ g9 : Nat → Int32, MR (fun r9 : Nat => xi (E 33) (16 * r9 + a0.toNatClampNeg) = 0) (fun r9 : Nat => xi (E 32) (16 * r9 + a0.toNatClampNeg)) 99 v5_4.toNatClampNeg v5_3.toNatClampNeg g9 ∧ xi (E5_ 37) = g9) → v5_3.toInt ≤ v5_4.toInt → v5_4.toInt ≤ (xi (E 4) 2).toInt → 20 - v5_4.toInt < (d : Int) → IXL cT (shC cf) (spC cf) (LC cf) ad E5_ → Kp w_keptTX E E5_ → va_P (dC, dI) vwCl (WL (LC cf) ad E5_) H → va_S A s.heap H locs → lv_has ls 5 [(4, .int v5_4), (3, .int v5_3), (0, .ref (ad 4)), (1, .int a0), (2, .ref (ad 37))] → W p l e (headSpec v_keptTX rm_keptTX).room s m args below meth c H locs 0 0 Q (F0 m 5 ls []) := by
    intro d
    induction d with
    | zero =>
      intro v5_4 v5_3 E5_ H locs ls hv5_4 hv5_3 hx5_0 hx5_1 hx5_2 hx5_3 hI hKp hP hS hl
      exact absurd hx5_3 (by first | exact ms_zu hv5_4.2 | omega)
    | succ d ih5 =>
      intro v5_4 v5_3 E5_ H locs ls hv5_4 hv5_3 hx5_0 hx5_1 hx5_2 hx5_3 hI hKp hP hS hl
      refine lv_iload hx hb dX8_sortKept_5 (lv_at hl 0 rfl) ?_
      refine lv_aload_n hx hb dX8_sortKept_7 rfl (lv_at hl 2 rfl) ?_
      have j2 : 0 ≤ (xi (E 4) 2).toInt ∧ (xi (E 4) 2).toInt ≤ ((cf 2 : Nat) : Int) := hI0.iv 4 (mF 4 rfl) rfl (Nat.le_of_ble_eq_true rfl) rfl
      have i1 : 0 ≤ (xi (E 4) 2).toInt ∧ (xi (E 4) 2).toInt ≤ 20 := by omega
      refine th_getL (ci := 9) (C := RX8) (T := TX8) (N := 10) (v := .int (xi (E 4) 2)) hx hb hts hinX8 hown hK hP hI 4 (mF 4 rfl) rfl rfl 2 (Nat.le_of_ble_eq_true rfl) (hts _ (vA_in _ _ (in_20 _ (zs4 (zs4 (zs4 (zs0))))))) (fun _ h9 => h9) (th_v0L hKp hI0 4 (mF 4 rfl) rfl (Nat.le_of_ble_eq_true rfl) rfl rfl) dX8_sortKept_8 ?_
      refine lv_icmp_ge (tgt := 54) hx hb dX8_sortKept_11 (by decide) (fun c3 => ?_) (fun c3 => ?_)
      · --11 taken
        have t4 : (xi (E 4) 2).toInt ≤ v5_4.toInt := ti_le c3
        refine lv_iload_n hx hb dX8_sortKept_54 rfl (lv_at hl 1 rfl) ?_
        rw [hQ]
        exact W.iret (v := v5_3) hx hb hr (fun t ht hW => ⟨⟨v5_3, E5_, rfl, ⟨hI, hKp, ⟨hv5_3, (by obtain ⟨g9, h8, h9⟩ := hx5_0; rw [show v5_4.toNatClampNeg = (xi (E 4) 2).toNatClampNeg by rw [tn_, tn_]; omega] at h8; unfold KpR; rw [h9]; exact h8)⟩⟩, by show va_P (dC, dI) vwCl (WL (LC cf) ad E5_) t.heap; rw [ht]; exact hP⟩, hS.F ht⟩) hS.2.2 dX8_sortKept_55
      · --11 not
        have t5 : v5_4.toInt < (xi (E 4) 2).toInt := ti_nle c3
        have i6 : 0 ≤ v5_4.toInt ∧ v5_4.toInt ≤ 19 := iv_lt_l t5 hv5_4 i1 (by decide)
        have i7 : 1 ≤ (xi (E 4) 2).toInt ∧ (xi (E 4) 2).toInt ≤ 20 := iv_lt_r t5 hv5_4 i1 (by decide)
        refine lv_aload_n hx hb dX8_sortKept_14 rfl (lv_at hl 2 rfl) ?_
        refine th_getL (ci := 9) (C := RX8) (T := TX8) (N := 10) (v := .ref (ad 33)) hx hb hts hinX8 hown hK hP hI 4 (mF 4 rfl) rfl rfl 5 (Nat.le_of_ble_eq_true rfl) (hts _ (vA_in _ _ (in_19 _ (zs4 (zs4 (zs1 (zs1 (zs1 (zs0))))))))) (fun _ h9 => h9) (hI.fr 4 (mF 4 rfl) rfl (Nat.le_of_ble_eq_true rfl) 33 rfl) dX8_sortKept_15 ?_
        refine lv_iload hx hb dX8_sortKept_18 (lv_at hl 0 rfl) ?_
        refine lv_iload_n hx hb dX8_sortKept_20 rfl (lv_at hl 3 rfl) ?_
        refine th_pi (va_runSN (As := [.int v5_4, .int a0]) (rest := [.ref (ad 33)]) ⟨hx, hb, hml, hown, hts⟩ (q_ccell l v5_4 a0 i6 hh0) ⟨va_cnB 2 hts (gi_0 (in_10 _ (zs16 (zs4 (zs0))))) rfl rfl rfl (hEV.1.1 _ (List.mem_of_getElem? (i := 10) rfl)) (hts _ (vA_in _ _ (in_4 _ (zs16 (zs4 (zs1 (zs1 (zs1 (zs0))))))))) hz_yX12_cell_2 ⟨Nat.le_of_ble_eq_true rfl, Nat.le_of_ble_eq_true rfl⟩, (hts _ (vA_in _ _ (in_13 _ (zs1 (zs0))))), trivial⟩ ⟨fun _ _ _ _ q => q, fun _ _ _ => ⟨rfl, trivial⟩⟩ rfl rfl hl.1 rfl (lv_room (Nat.le_of_ble_eq_true rfl)) dX8_sortKept_21 ⟨Nat.le_of_ble_eq_true rfl, Nat.le_of_ble_eq_true rfl⟩) hS (fun r8 H1 locs1 hw hk1 hS => ?_)
        have hP := ub_keep hP hk1
        generalize H1 = H at hP hS ⊢
        generalize locs1 = locs at hS ⊢
        obtain ⟨f9, f10⟩ := hw
        have n12 : vp_in r8 320 := (iv_in (n := 320) f9 (by decide))
        refine th_zaldL hx hb hK hP hI 33 (mF 33 rfl) rfl rfl n12 dX8_sortKept_24 (fun y11 ey11 => ?_)
        have iy11 : 0 ≤ y11.toInt ∧ y11.toInt ≤ 1 := hI.el 33 (mF 33 rfl) rfl n12 (fun _ => rfl) ey11
        have ey11 := ey11.trans (hKp.ei 33 _ rfl)
        have i13 : 0 ≤ v5_3.toInt ∧ v5_3.toInt ≤ 19 := by omega
        refine lv_if_eq (tgt := 31) hx hb dX8_sortKept_25 (by decide) (fun c14 => ?_) (fun c14 => ?_)
        · --25 taken
          have t15 : y11.toInt = 0 := ti_eq c14
          have i16 : 0 ≤ y11.toInt ∧ y11.toInt ≤ 0 := iv_eqi t15 iy11 (il_ 0) (by decide)
          refine lv_aload_n hx hb dX8_sortKept_31 rfl (lv_at hl 2 rfl) ?_
          refine th_getL (ci := 9) (C := RX8) (T := TX8) (N := 10) (v := .ref (ad 32)) hx hb hts hinX8 hown hK hP hI 4 (mF 4 rfl) rfl rfl 4 (Nat.le_of_ble_eq_true rfl) (hts _ (vA_in _ _ (in_19 _ (zs4 (zs4 (zs1 (zs0))))))) (fun _ h9 => h9) (hI.fr 4 (mF 4 rfl) rfl (Nat.le_of_ble_eq_true rfl) 32 rfl) dX8_sortKept_32 ?_
          refine lv_iload hx hb dX8_sortKept_35 (lv_at hl 0 rfl) ?_
          refine lv_iload_n hx hb dX8_sortKept_37 rfl (lv_at hl 3 rfl) ?_
          refine th_pi (va_runSN (As := [.int v5_4, .int a0]) (rest := [.ref (ad 32)]) ⟨hx, hb, hml, hown, hts⟩ (q_ccell l v5_4 a0 i6 hh0) ⟨va_cnB 2 hts (gi_0 (in_10 _ (zs16 (zs4 (zs0))))) rfl rfl rfl (hEV.1.1 _ (List.mem_of_getElem? (i := 10) rfl)) (hts _ (vA_in _ _ (in_4 _ (zs16 (zs4 (zs1 (zs1 (zs1 (zs0))))))))) hz_yX12_cell_2 ⟨Nat.le_of_ble_eq_true rfl, Nat.le_of_ble_eq_true rfl⟩, (hts _ (vA_in _ _ (in_13 _ (zs1 (zs0))))), trivial⟩ ⟨fun _ _ _ _ q => q, fun _ _ _ => ⟨rfl, trivial⟩⟩ rfl rfl hl.1 rfl (lv_room (Nat.le_of_ble_eq_true rfl)) dX8_sortKept_38 ⟨Nat.le_of_ble_eq_true rfl, Nat.le_of_ble_eq_true rfl⟩) hS (fun r17 H1 locs1 hw hk1 hS => ?_)
          have hP := ub_keep hP hk1
          generalize H1 = H at hP hS ⊢
          generalize locs1 = locs at hS ⊢
          obtain ⟨f18, f19⟩ := hw
          have n21 : vp_in r17 320 := (iv_in (n := 320) f18 (by decide))
          refine th_ialdL hx hb hK hP hI 32 (mF 32 rfl) rfl rfl n21 dX8_sortKept_41 (fun y20 ey20 => ?_)
          have ey20 := ey20.trans (hKp.ei 32 _ rfl)
          refine lv_aload_n hx hb dX8_sortKept_42 rfl (lv_at hl 4 rfl) ?_
          refine lv_iload_n hx hb dX8_sortKept_43 rfl (lv_at hl 1 rfl) ?_
          refine th_iL (va_runSN (As := [.int y20, .ref (ad 37), .int v5_3]) (rest := []) ⟨hx, hb, hml, hown, hts⟩ (q_sortIn37X l dC dI cT cf hC ad E5_ H.size y20 v5_3 hI (iv_w i13 (by decide))) ⟨va_cnB 3 hts (gi_0 (in_17 _ (zs16 (zs4 (zs4 (zs0)))))) rfl rfl rfl (hEV.1.1 _ (List.mem_of_getElem? (i := 9) rfl)) (hts _ (vA_in _ _ (in_4 _ (zs16 (zs4 (zs1 (zs1 (zs1 (zs0))))))))) hz_yX12_sortIn_3 ⟨Nat.le_of_ble_eq_true rfl, Nat.le_of_ble_eq_true rfl⟩, (hts _ (vA_in _ _ (in_17 _ (zs16 (zs4 (zs1 (zs1 (zs1 (zs0))))))))), trivial⟩ ⟨HWL_bl, (HWL_wi hP hK (WL_D hD) hS hA hEV)⟩ rfl rfl hl.1 rfl (lv_room (Nat.le_of_ble_eq_true rfl)) dX8_sortKept_44 ⟨Nat.le_of_ble_eq_true rfl, Nat.le_of_ble_eq_true rfl⟩) (WL_D hD) hS hA (fun r22 E23 H locs hw hP hS => ?_)
          obtain ⟨hI, kq24, hw⟩ := hw
          have hKb := hKp
          have hKp := hKp.tr kq24 (wl_sub rfl rfl)
          obtain ⟨f25, f26, f27⟩ := hw
          refine lv_istore_n (lv' := [(3, .int r22), (4, .int v5_4), (0, .ref (ad 4)), (1, .int a0), (2, .ref (ad 37))]) hx hb dX8_sortKept_47 rfl hl (by decide) rfl (fun ls hl => ?_)
          obtain ⟨y28, ey28⟩ : ∃ y : Int32, y = v5_4 + (1 : Int32) := ⟨_, rfl⟩
          obtain ⟨ty28, iy28⟩ := ti_add (e := 1) (f := 20) i6 ln_1 ey28 (by decide)
          have ty28 : y28.toInt = v5_4.toInt + 1 := ty28
          have iy28 : 1 ≤ y28.toInt ∧ y28.toInt ≤ 20 := iy28
          refine lv_iinc (v := y28) (lv' := [(4, .int y28), (3, .int r22), (0, .ref (ad 4)), (1, .int a0), (2, .ref (ad 37))]) hx hb dX8_sortKept_48 hl (k := 1) rfl (by rw [ey28]; rfl) (by decide) rfl (fun ls hl => ?_)
          refine lv_goto (tgt := 5) hx hb dX8_sortKept_51 (by decide) ?_
          exact ih5 y28 r22 E23 _ _ _ (iv_w iy28 (by decide)) f25 (by obtain ⟨g9, h8, h9⟩ := hx5_0; exact ⟨_, h8.one (g' := xi (E23 37)) ⟨(by rw [tn_]; omega), (show xi (E 33) (16 * v5_4.toNatClampNeg + a0.toNatClampNeg) = 0 by rw [← (show y11 = xi (E 33) (16 * v5_4.toNatClampNeg + a0.toNatClampNeg) by rw [ey11, (show r8.toNatClampNeg = 16 * v5_4.toNatClampNeg + a0.toNatClampNeg by rw [tn_ r8, tn_ v5_4, tn_ a0]; omega)])]; exact Int32.toInt_inj.mp (show y11.toInt = (0 : Int32).toInt by have z9 : (0 : Int32).toInt = 0 := rfl; omega))⟩ (fun i9 _ => by rw [(f27 (by omega)).2, h9]; show shf g9 y20 _ _ = shf g9 (xi (E 32) (16 * v5_4.toNatClampNeg + a0.toNatClampNeg)) _ _; rw [(show y20 = xi (E 32) (16 * v5_4.toNatClampNeg + a0.toNatClampNeg) by rw [ey20, (show r17.toNatClampNeg = 16 * v5_4.toNatClampNeg + a0.toNatClampNeg by rw [tn_ r17, tn_ v5_4, tn_ a0]; omega)])]) (by rw [tn_ r22, tn_ v5_3]; omega) (by rw [tn_ y28, tn_ v5_4]; omega), rfl⟩) (by omega) (by omega) (by first | exact ms_su hx5_3 ty28 (by decide) | omega) hI hKp hP hS (lv_sub hl [0, 1, 2, 3, 4] rfl)
        · --25 not
          have t29 : ¬ y11.toInt = 0 := ti_ne c14
          have i30 : 1 ≤ y11.toInt ∧ y11.toInt ≤ 1 := iv_ne_l t29 iy11 (il_ 0)
          refine lv_goto (tgt := 48) hx hb dX8_sortKept_28 (by decide) ?_
          obtain ⟨y31, ey31⟩ : ∃ y : Int32, y = v5_4 + (1 : Int32) := ⟨_, rfl⟩
          obtain ⟨ty31, iy31⟩ := ti_add (e := 1) (f := 20) i6 ln_1 ey31 (by decide)
          have ty31 : y31.toInt = v5_4.toInt + 1 := ty31
          have iy31 : 1 ≤ y31.toInt ∧ y31.toInt ≤ 20 := iy31
          refine lv_iinc (v := y31) (lv' := [(4, .int y31), (3, .int v5_3), (0, .ref (ad 4)), (1, .int a0), (2, .ref (ad 37))]) hx hb dX8_sortKept_48 hl (k := 0) rfl (by rw [ey31]; rfl) (by decide) rfl (fun ls hl => ?_)
          refine lv_goto (tgt := 5) hx hb dX8_sortKept_51 (by decide) ?_
          exact ih5 y31 v5_3 E5_ _ _ _ (iv_w iy31 (by decide)) (iv_w i13 (by decide)) (by obtain ⟨g9, h8, h9⟩ := hx5_0; exact ⟨g9, h8.no (fun q9 => by have q8 : xi (E 33) (16 * v5_4.toNatClampNeg + a0.toNatClampNeg) = 0 := q9.2; have q7 := congrArg Int32.toInt ((show y11 = xi (E 33) (16 * v5_4.toNatClampNeg + a0.toNatClampNeg) by rw [ey11, (show r8.toNatClampNeg = 16 * v5_4.toNatClampNeg + a0.toNatClampNeg by rw [tn_ r8, tn_ v5_4, tn_ a0]; omega)]).trans q8); have z9 : (0 : Int32).toInt = 0 := rfl; omega) (by rw [tn_ y31, tn_ v5_4]; omega), h9⟩) (by omega) (by omega) (by first | exact ms_su hx5_3 ty31 (by decide) | omega) hI hKp hP hS (lv_sub hl [0, 1, 2, 3, 4] rfl)
  exact hL5 (21) (0 : Int32) (0 : Int32) E _ _ _ (iv_w ln_0 (by decide)) (iv_w ln_0 (by decide)) ⟨_, (show MR (fun r9 : Nat => xi (E 33) (16 * r9 + a0.toNatClampNeg) = 0) (fun r9 : Nat => xi (E 32) (16 * r9 + a0.toNatClampNeg)) 99 0 0 _ from rfl), rfl⟩ (by omega) (by omega) (by have h9 := ln_0; first | exact ms_bu h9.1 (by decide) | omega) hI hKp hP hS (lv_sub hl [0, 1, 2, 3, 4] rfl)
def v_isBetterX : List Cond := .code yX8_isBetter cX8_isBetter 7 (some .boolean) :: vA
abbrev rm_isBetterX : Room := { frames := 2, cells := 0, slots := 0, locals := 80 }
def w_isBetterX : Nat → Nat → Bool := wl [36, 37] []
set_option maxHeartbeats 4000000 in
set_option maxRecDepth 100000 in
theorem q_isBetterX (l : Launch) (dC : Nat → ClassId) (dI : Nat → Nat → Nat) (cT : Nat → ClassId) (cf : Nat → Nat) (hC : CF cf) (ad : Nat → Nat) (E : Nat → va_E) (sz : Nat) (a0 : Int32) (a1 : Int32) (hI0 : IXL cT (shC cf) (spC cf) (LC cf) ad E) (hh0 : 0 ≤ a0.toInt ∧ a0.toInt ≤ 15) (hh1 : 0 ≤ a1.toInt ∧ a1.toInt ≤ 15) (hh2 : KeQ (xi (E 32)) (xi (E 33)) (xi (E 4) 2).toNatClampNeg a0.toNatClampNeg a1.toNatClampNeg) : Met l yX8_isBetter v_isBetterX rm_isBetterX (va_Pc [.ref (ad 4), .int a0, .int a1] (HWL dC dI (TYC cT) cf ad E sz)) (va_Qi (S := Nat → va_E) (fun r u => IXL cT (shC cf) (spC cf) (LC cf) ad u ∧ Kp w_isBetterX E u ∧ ((0 ≤ r.toInt ∧ r.toInt ≤ 1) ∧ (r.toInt = 1 ↔ BtP (xi (E 32)) (xi (E 33)) (xi (E 35)) (xi (E 4) 2).toNatClampNeg a0.toNatClampNeg a1.toNatClampNeg))) (HBL dC dI (LC cf) ad) (va_A (WL (LC cf) ad E) sz)) 0 0 (va_A (WL (LC cf) ad E) sz) := by
  obtain ⟨⟨hc0, hc1, hc2, hc3, hc4, hc5⟩, hcr⟩ := id hC
  refine Met.ofW (cc := cX8_isBetter) (maxL := 7) (ret := (some .boolean)) (by decide) rfl ?_
  intro p e s m args below meth c s₁ B hml hv
  obtain ⟨hargs, hsz, hP, hK, hD0, hEV⟩ := hv
  subst hsz
  have hx := B.exec
  have hb := B.bytes
  have hr := B.returns
  have hts := atoms_spec (ws := v_isBetterX) B.pre
  have hown : s.vm.findClass RX8 = some m.cls := findClass_of_methodNamed B.named
  have hlocks := B.notSynchronized
  have hinX8 : ∀ w ∈ u_ws RX8 TX8 10, w ∈ v_isBetterX := fun w h => vA_in _ w (in_X8 w h)
  generalize hAe : va_A (WL (LC cf) ad E) s.heap.size = A at hEV ⊢
  have hA : ∀ q : Nat, s.heap.size ≤ q → A q := fun q h => by rw [← hAe]; exact Or.inr h
  have hD : va_D A (WL (LC cf) ad E) := by rw [← hAe]; exact hD0.self
  have hS : va_S A s.heap s.heap [] := va_S.rf
  have hI := hI0
  have hKp : Kp w_isBetterX E E := Kp.rf
  have hl := lv_entry ([.ref (ad 4), .int a0, .int a1]) (n := 7) (Nat.le_of_ble_eq_true rfl)
  obtain ⟨Q, hQ⟩ : ∃ Q, Q = MQ below (va_Qi (S := Nat → va_E) (fun r u => IXL cT (shC cf) (spC cf) (LC cf) ad u ∧ Kp w_isBetterX E u ∧ ((0 ≤ r.toInt ∧ r.toInt ≤ 1) ∧ (r.toInt = 1 ↔ BtP (xi (E 32)) (xi (E 33)) (xi (E 35)) (xi (E 4) 2).toNatClampNeg a0.toNatClampNeg a1.toNatClampNeg))) (HBL dC dI (LC cf) ad) (A)) args s 0 0 (A) := ⟨_, rfl⟩
  rw [← hQ, show entryFrame m args 7 = _ from (congrArg (fun z => entryFrame m z 7) hargs).trans (lg_entry_eq _ _ _)]
  generalize (lg_sl ([.ref (ad 4), .int a0, .int a1]) ++ List.replicate (7 - (lg_sl ([.ref (ad 4), .int a0, .int a1])).length) Slot.unset).toArray = ls at hl ⊢
  have hl : lv_has ls 7 [(0, .ref (ad 4)), (1, .int a0), (2, .int a1)] := hl
  have z0z : (0 : Int32).toInt = 0 := rfl
  have irc : 0 ≤ (xi (E 4) 2).toInt ∧ (xi (E 4) 2).toInt ≤ ((cf 2 : Nat) : Int) := hI0.iv 4 (mF 4 rfl) rfl (Nat.le_of_ble_eq_true rfl) rfl
  refine lv_aload_n hx hb dX8_isBetter_0 rfl (lv_at hl 0 rfl) ?_
  refine th_getL (ci := 9) (C := RX8) (T := TX8) (N := 10) (v := .ref (ad 35)) hx hb hts hinX8 hown hK hP hI 4 (mF 4 rfl) rfl rfl 7 (Nat.le_of_ble_eq_true rfl) (hts _ (vA_in _ _ (in_19 _ (zs4 (zs4 (zs4 (zs1 (zs0)))))))) (fun _ h9 => h9) (hI.fr 4 (mF 4 rfl) rfl (Nat.le_of_ble_eq_true rfl) 35 rfl) dX8_isBetter_1 ?_
  refine lv_iload_n hx hb dX8_isBetter_4 rfl (lv_at hl 1 rfl) ?_
  have n2 : vp_in a0 16 := (iv_in (n := 16) hh0 (by decide))
  refine th_ialdL hx hb hK hP hI 35 (mF 35 rfl) rfl rfl n2 dX8_isBetter_5 (fun y1 ey1 => ?_)
  have ey1 := ey1.trans (hKp.ei 35 _ rfl)
  refine lv_aload_n hx hb dX8_isBetter_6 rfl (lv_at hl 0 rfl) ?_
  refine th_getL (ci := 9) (C := RX8) (T := TX8) (N := 10) (v := .ref (ad 35)) hx hb hts hinX8 hown hK hP hI 4 (mF 4 rfl) rfl rfl 7 (Nat.le_of_ble_eq_true rfl) (hts _ (vA_in _ _ (in_19 _ (zs4 (zs4 (zs4 (zs1 (zs0)))))))) (fun _ h9 => h9) (hI.fr 4 (mF 4 rfl) rfl (Nat.le_of_ble_eq_true rfl) 35 rfl) dX8_isBetter_7 ?_
  refine lv_iload_n hx hb dX8_isBetter_10 rfl (lv_at hl 2 rfl) ?_
  have n4 : vp_in a1 16 := (iv_in (n := 16) hh1 (by decide))
  refine th_ialdL hx hb hK hP hI 35 (mF 35 rfl) rfl rfl n4 dX8_isBetter_11 (fun y3 ey3 => ?_)
  have ey3 := ey3.trans (hKp.ei 35 _ rfl)
  refine lv_icmp_eq (tgt := 36) hx hb dX8_isBetter_12 (by decide) (fun c5 => ?_) (fun c5 => ?_)
  · --12 taken
    have t6 : y1.toInt = y3.toInt := ti_eq c5
    have k7 : (xi (E 35) a0.toNatClampNeg).toInt = (xi (E 35) a1.toNatClampNeg).toInt := by rw [← ey1, ← ey3]; omega
    refine lv_aload_n hx hb dX8_isBetter_36 rfl (lv_at hl 0 rfl) ?_
    refine lv_iload_n hx hb dX8_isBetter_37 rfl (lv_at hl 1 rfl) ?_
    refine lv_aload_n hx hb dX8_isBetter_38 rfl (lv_at hl 0 rfl) ?_
    refine th_getL (ci := 9) (C := RX8) (T := TX8) (N := 10) (v := .ref (ad 36)) hx hb hts hinX8 hown hK hP hI 4 (mF 4 rfl) rfl rfl 8 (Nat.le_of_ble_eq_true rfl) (hts _ (vA_in _ _ (in_19 _ (zs4 (zs4 (zs4 (zs1 (zs1 (zs0))))))))) (fun _ h9 => h9) (hI.fr 4 (mF 4 rfl) rfl (Nat.le_of_ble_eq_true rfl) 36 rfl) dX8_isBetter_39 ?_
    refine th_iL (va_runV (As := [.int a0, .ref (ad 36)]) (rest := []) ⟨hx, hb, hml, hown, hts⟩ (q_keptMX l dC dI cT cf hC ad E s.heap.size a0 hI hh0) (cwV 2 hts (gi_V (in_22 _ (zs4 (zs4 (zs4 (zs1 (zs0)))))) (in_22 _ (zs4 (zs4 (zs4 (zs1 (zs1 (zs0))))))) (in_22 _ (zs4 (zs4 (zs4 (zs1 (zs1 (zs1 (zs0)))))))) (in_18 _ (zs16 (zs16 (zs0)))) (in_22 _ (zs16 (zs0)))) rfl rfl rfl ⟨rfl, hz_yX8_sortKept_2⟩ ⟨Nat.le_of_ble_eq_true rfl, Nat.le_of_ble_eq_true rfl⟩) ⟨HWL_bl, va_recv hK hP (ci := 9) (q0 := posL 4 (LC cf)) rfl (hI.ob 4 (mF 4 rfl) rfl), (HWL_wi hP hK (WL_D hD) hS hA hEV)⟩ rfl rfl hl.1 rfl (lv_room (Nat.le_of_ble_eq_true rfl)) dX8_isBetter_42 ⟨Nat.le_of_ble_eq_true rfl, Nat.le_of_ble_eq_true rfl⟩) (WL_D hD) hS hA (fun r8 E9 H locs hw hP hS => ?_)
    obtain ⟨hI, kq10, hw⟩ := hw
    have hKb := hKp
    have hKp := hKp.tr kq10 (wl_sub rfl rfl)
    obtain ⟨f11, f12⟩ := hw
    have j14 : 0 ≤ (xi (E 4) 2).toInt ∧ (xi (E 4) 2).toInt ≤ ((cf 2 : Nat) : Int) := hI0.iv 4 (mF 4 rfl) rfl (Nat.le_of_ble_eq_true rfl) rfl
    have i13 : 0 ≤ (xi (E 4) 2).toInt ∧ (xi (E 4) 2).toInt ≤ 20 := by omega
    obtain ⟨g15, hg15⟩ : ∃ g, xi (E9 36) = g := ⟨_, rfl⟩
    refine lv_istore_n (lv' := [(3, .int r8), (0, .ref (ad 4)), (1, .int a0), (2, .int a1)]) hx hb dX8_isBetter_45 rfl hl (by decide) rfl (fun ls hl => ?_)
    refine lv_aload_n hx hb dX8_isBetter_46 rfl (lv_at hl 1 rfl) ?_
    refine lv_iload_n hx hb dX8_isBetter_47 rfl (lv_at hl 3 rfl) ?_
    refine lv_aload_n hx hb dX8_isBetter_48 rfl (lv_at hl 1 rfl) ?_
    refine th_getL (ci := 9) (C := RX8) (T := TX8) (N := 10) (v := .ref (ad 37)) hx hb hts hinX8 hown hK hP hI 4 (mF 4 rfl) rfl rfl 9 (Nat.le_of_ble_eq_true rfl) (hts _ (vA_in _ _ (in_19 _ (zs4 (zs4 (zs4 (zs1 (zs1 (zs1 (zs0)))))))))) (fun _ h9 => h9) (hI.fr 4 (mF 4 rfl) rfl (Nat.le_of_ble_eq_true rfl) 37 rfl) dX8_isBetter_49 ?_
    refine th_iL (va_runV (As := [.int a1, .ref (ad 37)]) (rest := []) ⟨hx, hb, hml, hown, hts⟩ (q_keptTX l dC dI cT cf hC ad E9 H.size a1 hI hh1) (cwV 2 hts (gi_V (in_22 _ (zs4 (zs4 (zs4 (zs1 (zs0)))))) (in_22 _ (zs4 (zs4 (zs4 (zs1 (zs1 (zs0))))))) (in_22 _ (zs4 (zs4 (zs4 (zs1 (zs1 (zs1 (zs0)))))))) (in_18 _ (zs16 (zs16 (zs0)))) (in_22 _ (zs16 (zs0)))) rfl rfl rfl ⟨rfl, hz_yX8_sortKept_2⟩ ⟨Nat.le_of_ble_eq_true rfl, Nat.le_of_ble_eq_true rfl⟩) ⟨HWL_bl, va_recv hK hP (ci := 9) (q0 := posL 4 (LC cf)) rfl (hI.ob 4 (mF 4 rfl) rfl), (HWL_wi hP hK (WL_D hD) hS hA hEV)⟩ rfl rfl hl.1 rfl (lv_room (Nat.le_of_ble_eq_true rfl)) dX8_isBetter_52 ⟨Nat.le_of_ble_eq_true rfl, Nat.le_of_ble_eq_true rfl⟩) (WL_D hD) hS hA (fun r16 E17 H locs hw hP hS => ?_)
    obtain ⟨hI, kq18, hw⟩ := hw
    have hKb := hKp
    have hKp := hKp.tr kq18 (wl_sub rfl rfl)
    obtain ⟨f19, f20⟩ := hw
    try rw [hKb.ei 4 2 rfl] at f20
    try rw [hKb.ef 32 (fun _ => rfl)] at f20
    try rw [hKb.ef 33 (fun _ => rfl)] at f20
    obtain ⟨g21, hg21⟩ : ∃ g, xi (E17 37) = g := ⟨_, rfl⟩
    have k22 : KpR (xi (E 32)) (xi (E 33)) (xi (E 4) 2).toNatClampNeg a0.toNatClampNeg r8.toNatClampNeg g15 := by have h9 := f12; rw [show xi (E9 36) = g15 from hg15] at h9; exact h9
    have k23 : KpR (xi (E 32)) (xi (E 33)) (xi (E 4) 2).toNatClampNeg a1.toNatClampNeg r16.toNatClampNeg g21 := by have h9 := f20; rw [show xi (E17 37) = g21 from hg21] at h9; exact h9
    have k24 := Bt_iff (O := xi (E 35)) k7 k22 k23 hh2
    refine lv_pop hx hb dX8_isBetter_55 rfl ?_
    refine lv_iconst (v := 0) hx hb dX8_isBetter_56 (by decide) ?_
    refine lv_istore (lv' := [(4, .int 0), (3, .int r8), (0, .ref (ad 4)), (1, .int a0), (2, .int a1)]) hx hb dX8_isBetter_57 hl (by decide) rfl (fun ls hl => ?_)
    have hL59 : ∀ d : Nat, ∀ (v59_4 : Int32) (H : Heap) (locs : List Loc) (ls : Array Slot), 0 ≤ v59_4.toInt ∧ v59_4.toInt ≤ 20 → (∀ j9 : Nat, j9 < v59_4.toNatClampNeg → g15 j9 = g21 j9) → v59_4.toInt ≤ r8.toInt → 20 - v59_4.toInt < (d : Int) → va_P (dC, dI) vwCl (WL (LC cf) ad E17) H → va_S A s.heap H locs → lv_has ls 7 [(4, .int v59_4), (3, .int r8), (0, .ref (ad 4)), (1, .int a0), (2, .int a1)] → W p l e (headSpec v_isBetterX rm_isBetterX).room s m args below meth c H locs 0 0 Q (F0 m 59 ls []) := by
      intro d
      induction d with
      | zero =>
        intro v59_4 H locs ls hv59_4 hx59_0 hx59_1 hx59_2 hP hS hl
        exact absurd hx59_2 (by first | exact ms_zu hv59_4.2 | omega)
      | succ d ih59 =>
        intro v59_4 H locs ls hv59_4 hx59_0 hx59_1 hx59_2 hP hS hl
        refine lv_iload hx hb dX8_isBetter_59 (lv_at hl 0 rfl) ?_
        refine lv_iload_n hx hb dX8_isBetter_61 rfl (lv_at hl 1 rfl) ?_
        refine lv_icmp_ge (tgt := 111) hx hb dX8_isBetter_62 (by decide) (fun c25 => ?_) (fun c25 => ?_)
        · --62 taken
          have t26 : r8.toInt ≤ v59_4.toInt := ti_le c25
          refine lv_aload_n hx hb dX8_isBetter_111 rfl (lv_at hl 2 rfl) ?_
          refine th_getL (ci := 9) (C := RX8) (T := TX8) (N := 10) (v := .int (xi (E 4) 2)) hx hb hts hinX8 hown hK hP hI 4 (mF 4 rfl) rfl rfl 2 (Nat.le_of_ble_eq_true rfl) (hts _ (vA_in _ _ (in_20 _ (zs4 (zs4 (zs4 (zs0))))))) (fun _ h9 => h9) (th_v0L hKp hI0 4 (mF 4 rfl) rfl (Nat.le_of_ble_eq_true rfl) rfl rfl) dX8_isBetter_112 ?_
          refine lv_iconst (v := 1) hx hb dX8_isBetter_115 (by decide) ?_
          refine lv_isub hx hb dX8_isBetter_116 ?_
          refine lv_topi (fun y27 ey27 => ?_)
          obtain ⟨ty27, iy27⟩ := ti_sub (e := (-1)) (f := 19) i13 ln_1 ey27 (by decide)
          have ty27 : y27.toInt = (xi (E 4) 2).toInt - 1 := ty27
          have iy27 : -1 ≤ y27.toInt ∧ y27.toInt ≤ 19 := iy27
          refine lv_istore (lv' := [(4, .int y27), (3, .int r8), (0, .ref (ad 4)), (1, .int a0), (2, .int a1)]) hx hb dX8_isBetter_117 hl (by decide) rfl (fun ls hl => ?_)
          have hL119 : ∀ d : Nat, ∀ (v119_4 : Int32) (H : Heap) (locs : List Loc) (ls : Array Slot), -1 ≤ v119_4.toInt ∧ v119_4.toInt ≤ 19 → (∀ j9 : Nat, v119_4.toInt < (j9 : Int) → j9 < (xi (E 4) 2).toNatClampNeg → xi (E 32) (16 * j9 + a0.toNatClampNeg) = xi (E 32) (16 * j9 + a1.toNatClampNeg)) → v119_4.toInt < (xi (E 4) 2).toInt → v119_4.toInt - (-1) < (d : Int) → va_P (dC, dI) vwCl (WL (LC cf) ad E17) H → va_S A s.heap H locs → lv_has ls 7 [(4, .int v119_4), (3, .int r8), (0, .ref (ad 4)), (1, .int a0), (2, .int a1)] → W p l e (headSpec v_isBetterX rm_isBetterX).room s m args below meth c H locs 0 0 Q (F0 m 119 ls []) := by
            intro d
            induction d with
            | zero =>
              intro v119_4 H locs ls hv119_4 hx119_0 hx119_1 hx119_2 hP hS hl
              exact absurd hx119_2 (by first | exact ms_zd hv119_4.1 | omega)
            | succ d ih119 =>
              intro v119_4 H locs ls hv119_4 hx119_0 hx119_1 hx119_2 hP hS hl
              refine lv_iload hx hb dX8_isBetter_119 (lv_at hl 0 rfl) ?_
              refine lv_if_lt (tgt := 176) hx hb dX8_isBetter_121 (by decide) (fun c28 => ?_) (fun c28 => ?_)
              · --121 taken
                have t29 : v119_4.toInt < 0 := ti_lt c28
                have i30 : -1 ≤ v119_4.toInt ∧ v119_4.toInt ≤ -1 := iv_lt_l t29 hv119_4 (il_ 0) (by decide)
                refine lv_iload_n hx hb dX8_isBetter_176 rfl (lv_at hl 3 rfl) ?_
                refine lv_iload_n hx hb dX8_isBetter_177 rfl (lv_at hl 4 rfl) ?_
                refine lv_icmp_ge (tgt := 185) hx hb dX8_isBetter_178 (by decide) (fun c31 => ?_) (fun c31 => ?_)
                · --178 taken
                  have t32 : a1.toInt ≤ a0.toInt := ti_le c31
                  refine lv_iconst (v := 0) hx hb dX8_isBetter_185 (by decide) ?_
                  rw [hQ]
                  exact W.zret (v := 0) hx hb hr rfl (fun t ht hW => ⟨⟨0, E17, rfl, ⟨hI, hKp, ⟨(iv_w ln_0 (by decide)), ⟨fun q9 => by exfalso; have z0 : (0 : Int32).toInt = 0 := rfl; have z1 : (1 : Int32).toInt = 1 := rfl; omega, fun q9 => absurd q9 (fun q8 => by have q7 := (RevR.eq (p := (fun r => xi (E 32) (16 * r + a0.toNatClampNeg))) (p' := (fun r => xi (E 32) (16 * r + a1.toNatClampNeg))) (e := a0.toNatClampNeg < a1.toNatClampNeg) (fun j9 h9 => hx119_0 j9 (by omega) h9)).mp ((LexR.eq (e := RevR (fun r => xi (E 32) (16 * r + a0.toNatClampNeg)) (fun r => xi (E 32) (16 * r + a1.toNatClampNeg)) (xi (E 4) 2).toNatClampNeg (a0.toNatClampNeg < a1.toNatClampNeg)) (fun j9 h9 => hx59_0 j9 (by rw [tn_] at h9 ⊢; omega))).mp (k24.mp q8)); rw [tn_, tn_] at q7; omega)⟩⟩⟩, by show va_P (dC, dI) vwCl (WL (LC cf) ad E17) t.heap; rw [ht]; exact hP⟩, hS.F ht⟩) hS.2.2 dX8_isBetter_186
                · --178 not
                  have t33 : a0.toInt < a1.toInt := ti_nle c31
                  have i34 : 0 ≤ a0.toInt ∧ a0.toInt ≤ 14 := iv_lt_l t33 hh0 hh1 (by decide)
                  have i35 : 1 ≤ a1.toInt ∧ a1.toInt ≤ 15 := iv_lt_r t33 hh0 hh1 (by decide)
                  refine lv_iconst (v := 1) hx hb dX8_isBetter_181 (by decide) ?_
                  refine lv_goto (tgt := 186) hx hb dX8_isBetter_182 (by decide) ?_
                  rw [hQ]
                  exact W.zret (v := 1) hx hb hr rfl (fun t ht hW => ⟨⟨1, E17, rfl, ⟨hI, hKp, ⟨(iv_w ln_1 (by decide)), ⟨fun _ => (k24.mpr ((LexR.eq (e := RevR (fun r => xi (E 32) (16 * r + a0.toNatClampNeg)) (fun r => xi (E 32) (16 * r + a1.toNatClampNeg)) (xi (E 4) 2).toNatClampNeg (a0.toNatClampNeg < a1.toNatClampNeg)) (fun j9 h9 => hx59_0 j9 (by rw [tn_] at h9 ⊢; omega))).mpr ((RevR.eq (p := (fun r => xi (E 32) (16 * r + a0.toNatClampNeg))) (p' := (fun r => xi (E 32) (16 * r + a1.toNatClampNeg))) (e := a0.toNatClampNeg < a1.toNatClampNeg) (fun j9 h9 => hx119_0 j9 (by omega) h9)).mpr (by rw [tn_, tn_]; omega)))), fun _ => rfl⟩⟩⟩, by show va_P (dC, dI) vwCl (WL (LC cf) ad E17) t.heap; rw [ht]; exact hP⟩, hS.F ht⟩) hS.2.2 dX8_isBetter_186
              · --121 not
                have t36 : (0 : Int) ≤ v119_4.toInt := ti_nlt c28
                have i37 : 0 ≤ v119_4.toInt ∧ v119_4.toInt ≤ 19 := iv_le_r t36 (il_ 0) hv119_4 (by decide)
                refine lv_aload_n hx hb dX8_isBetter_124 rfl (lv_at hl 2 rfl) ?_
                refine th_getL (ci := 9) (C := RX8) (T := TX8) (N := 10) (v := .ref (ad 32)) hx hb hts hinX8 hown hK hP hI 4 (mF 4 rfl) rfl rfl 4 (Nat.le_of_ble_eq_true rfl) (hts _ (vA_in _ _ (in_19 _ (zs4 (zs4 (zs1 (zs0))))))) (fun _ h9 => h9) (hI.fr 4 (mF 4 rfl) rfl (Nat.le_of_ble_eq_true rfl) 32 rfl) dX8_isBetter_125 ?_
                refine lv_iload hx hb dX8_isBetter_128 (lv_at hl 0 rfl) ?_
                refine lv_iload_n hx hb dX8_isBetter_130 rfl (lv_at hl 3 rfl) ?_
                refine th_pi (va_runSN (As := [.int v119_4, .int a0]) (rest := [.ref (ad 32)]) ⟨hx, hb, hml, hown, hts⟩ (q_ccell l v119_4 a0 i37 hh0) ⟨va_cnB 2 hts (gi_0 (in_10 _ (zs16 (zs4 (zs0))))) rfl rfl rfl (hEV.1.1 _ (List.mem_of_getElem? (i := 10) rfl)) (hts _ (vA_in _ _ (in_4 _ (zs16 (zs4 (zs1 (zs1 (zs1 (zs0))))))))) hz_yX12_cell_2 ⟨Nat.le_of_ble_eq_true rfl, Nat.le_of_ble_eq_true rfl⟩, (hts _ (vA_in _ _ (in_13 _ (zs1 (zs0))))), trivial⟩ ⟨fun _ _ _ _ q => q, fun _ _ _ => ⟨rfl, trivial⟩⟩ rfl rfl hl.1 rfl (lv_room (Nat.le_of_ble_eq_true rfl)) dX8_isBetter_131 ⟨Nat.le_of_ble_eq_true rfl, Nat.le_of_ble_eq_true rfl⟩) hS (fun r38 H1 locs1 hw hk1 hS => ?_)
                have hP := ub_keep hP hk1
                generalize H1 = H at hP hS ⊢
                generalize locs1 = locs at hS ⊢
                obtain ⟨f39, f40⟩ := hw
                have n42 : vp_in r38 320 := (iv_in (n := 320) f39 (by decide))
                refine th_ialdL hx hb hK hP hI 32 (mF 32 rfl) rfl rfl n42 dX8_isBetter_134 (fun y41 ey41 => ?_)
                have ey41 := ey41.trans (hKp.ei 32 _ rfl)
                refine lv_istore (lv' := [(5, .int y41), (4, .int v119_4), (3, .int r8), (0, .ref (ad 4)), (1, .int a0), (2, .int a1)]) hx hb dX8_isBetter_135 hl (by decide) rfl (fun ls hl => ?_)
                refine lv_aload_n hx hb dX8_isBetter_137 rfl (lv_at hl 3 rfl) ?_
                refine th_getL (ci := 9) (C := RX8) (T := TX8) (N := 10) (v := .ref (ad 32)) hx hb hts hinX8 hown hK hP hI 4 (mF 4 rfl) rfl rfl 4 (Nat.le_of_ble_eq_true rfl) (hts _ (vA_in _ _ (in_19 _ (zs4 (zs4 (zs1 (zs0))))))) (fun _ h9 => h9) (hI.fr 4 (mF 4 rfl) rfl (Nat.le_of_ble_eq_true rfl) 32 rfl) dX8_isBetter_138 ?_
                refine lv_iload hx hb dX8_isBetter_141 (lv_at hl 1 rfl) ?_
                refine lv_iload_n hx hb dX8_isBetter_143 rfl (lv_at hl 5 rfl) ?_
                refine th_pi (va_runSN (As := [.int v119_4, .int a1]) (rest := [.ref (ad 32)]) ⟨hx, hb, hml, hown, hts⟩ (q_ccell l v119_4 a1 i37 hh1) ⟨va_cnB 2 hts (gi_0 (in_10 _ (zs16 (zs4 (zs0))))) rfl rfl rfl (hEV.1.1 _ (List.mem_of_getElem? (i := 10) rfl)) (hts _ (vA_in _ _ (in_4 _ (zs16 (zs4 (zs1 (zs1 (zs1 (zs0))))))))) hz_yX12_cell_2 ⟨Nat.le_of_ble_eq_true rfl, Nat.le_of_ble_eq_true rfl⟩, (hts _ (vA_in _ _ (in_13 _ (zs1 (zs0))))), trivial⟩ ⟨fun _ _ _ _ q => q, fun _ _ _ => ⟨rfl, trivial⟩⟩ rfl rfl hl.1 rfl (lv_room (Nat.le_of_ble_eq_true rfl)) dX8_isBetter_144 ⟨Nat.le_of_ble_eq_true rfl, Nat.le_of_ble_eq_true rfl⟩) hS (fun r43 H1 locs1 hw hk1 hS => ?_)
                have hP := ub_keep hP hk1
                generalize H1 = H at hP hS ⊢
                generalize locs1 = locs at hS ⊢
                obtain ⟨f44, f45⟩ := hw
                have n47 : vp_in r43 320 := (iv_in (n := 320) f44 (by decide))
                refine th_ialdL hx hb hK hP hI 32 (mF 32 rfl) rfl rfl n47 dX8_isBetter_147 (fun y46 ey46 => ?_)
                have ey46 := ey46.trans (hKp.ei 32 _ rfl)
                refine lv_istore (lv' := [(6, .int y46), (5, .int y41), (4, .int v119_4), (3, .int r8), (0, .ref (ad 4)), (1, .int a0), (2, .int a1)]) hx hb dX8_isBetter_148 hl (by decide) rfl (fun ls hl => ?_)
                refine lv_iload hx hb dX8_isBetter_150 (lv_at hl 1 rfl) ?_
                refine lv_iload hx hb dX8_isBetter_152 (lv_at hl 0 rfl) ?_
                refine lv_icmp_eq (tgt := 170) hx hb dX8_isBetter_154 (by decide) (fun c48 => ?_) (fun c48 => ?_)
                · --154 taken
                  have t49 : y41.toInt = y46.toInt := ti_eq c48
                  obtain ⟨y50, ey50⟩ : ∃ y : Int32, y = v119_4 + (-1 : Int32) := ⟨_, rfl⟩
                  obtain ⟨ty50, iy50⟩ := ti_add (e := (-1)) (f := 18) i37 ln_m1 ey50 (by decide)
                  have ty50 : y50.toInt = v119_4.toInt + (-1) := ty50
                  have iy50 : -1 ≤ y50.toInt ∧ y50.toInt ≤ 18 := iy50
                  refine lv_iinc (v := y50) (lv' := [(4, .int y50), (6, .int y46), (5, .int y41), (3, .int r8), (0, .ref (ad 4)), (1, .int a0), (2, .int a1)]) hx hb dX8_isBetter_170 hl (k := 2) rfl (by rw [ey50]; rfl) (by decide) rfl (fun ls hl => ?_)
                  refine lv_goto (tgt := 119) hx hb dX8_isBetter_173 (by decide) ?_
                  exact ih119 y50 _ _ _ (iv_w iy50 (by decide)) (rx_eq (g := (fun r => xi (E 32) (16 * r + a0.toNatClampNeg))) (G := (fun r => xi (E 32) (16 * r + a1.toNatClampNeg))) hx119_0 (show y41 = xi (E 32) (16 * v119_4.toNatClampNeg + a0.toNatClampNeg) by rw [ey41, (show r38.toNatClampNeg = 16 * v119_4.toNatClampNeg + a0.toNatClampNeg by rw [tn_ r38, tn_ v119_4, tn_ a0]; omega)]) (show y46 = xi (E 32) (16 * v119_4.toNatClampNeg + a1.toNatClampNeg) by rw [ey46, (show r43.toNatClampNeg = 16 * v119_4.toNatClampNeg + a1.toNatClampNeg by rw [tn_ r43, tn_ v119_4, tn_ a1]; omega)]) (by omega) (by omega) (by omega)) (by omega) (by first | exact ms_sd hx119_2 ty50 (by decide) | exact ms_sd2 hx119_2 ty50 | omega) hP hS (lv_sub hl [0, 3, 4, 5, 6] rfl)
                · --154 not
                  have t51 : ¬ y41.toInt = y46.toInt := ti_ne c48
                  refine lv_iload hx hb dX8_isBetter_157 (lv_at hl 1 rfl) ?_
                  refine lv_iload hx hb dX8_isBetter_159 (lv_at hl 0 rfl) ?_
                  refine lv_icmp_ge (tgt := 168) hx hb dX8_isBetter_161 (by decide) (fun c52 => ?_) (fun c52 => ?_)
                  · --161 taken
                    have t53 : y46.toInt ≤ y41.toInt := ti_le c52
                    refine lv_iconst (v := 0) hx hb dX8_isBetter_168 (by decide) ?_
                    rw [hQ]
                    exact W.zret (v := 0) hx hb hr rfl (fun t ht hW => ⟨⟨0, E17, rfl, ⟨hI, hKp, ⟨(iv_w ln_0 (by decide)), ⟨fun q9 => by exfalso; have z0 : (0 : Int32).toInt = 0 := rfl; have z1 : (1 : Int32).toInt = 1 := rfl; omega, fun q9 => absurd q9 (fun q8 => RevR.gt (p := (fun r => xi (E 32) (16 * r + a0.toNatClampNeg))) (p' := (fun r => xi (E 32) (16 * r + a1.toNatClampNeg))) (show v119_4.toNatClampNeg < (xi (E 4) 2).toNatClampNeg by rw [tn_, tn_]; omega) (fun j9 h8 h9 => hx119_0 j9 (by rw [tn_] at h8; omega) h9) (show (xi (E 32) (16 * v119_4.toNatClampNeg + a1.toNatClampNeg)).toInt < (xi (E 32) (16 * v119_4.toNatClampNeg + a0.toNatClampNeg)).toInt by rw [← (show y46 = xi (E 32) (16 * v119_4.toNatClampNeg + a1.toNatClampNeg) by rw [ey46, (show r43.toNatClampNeg = 16 * v119_4.toNatClampNeg + a1.toNatClampNeg by rw [tn_ r43, tn_ v119_4, tn_ a1]; omega)]), ← (show y41 = xi (E 32) (16 * v119_4.toNatClampNeg + a0.toNatClampNeg) by rw [ey41, (show r38.toNatClampNeg = 16 * v119_4.toNatClampNeg + a0.toNatClampNeg by rw [tn_ r38, tn_ v119_4, tn_ a0]; omega)])]; omega) ((LexR.eq (e := RevR (fun r => xi (E 32) (16 * r + a0.toNatClampNeg)) (fun r => xi (E 32) (16 * r + a1.toNatClampNeg)) (xi (E 4) 2).toNatClampNeg (a0.toNatClampNeg < a1.toNatClampNeg)) (fun j9 h9 => hx59_0 j9 (by rw [tn_] at h9 ⊢; omega))).mp (k24.mp q8)))⟩⟩⟩, by show va_P (dC, dI) vwCl (WL (LC cf) ad E17) t.heap; rw [ht]; exact hP⟩, hS.F ht⟩) hS.2.2 dX8_isBetter_169
                  · --161 not
                    have t54 : y41.toInt < y46.toInt := ti_nle c52
                    have i55 : -2147483648 ≤ y41.toInt ∧ y41.toInt ≤ 2147483646 := iv_lt_l t54 (iv_all _) (iv_all _) (by decide)
                    have i56 : -2147483647 ≤ y46.toInt ∧ y46.toInt ≤ 2147483647 := iv_lt_r t54 (iv_all _) (iv_all _) (by decide)
                    refine lv_iconst (v := 1) hx hb dX8_isBetter_164 (by decide) ?_
                    refine lv_goto (tgt := 169) hx hb dX8_isBetter_165 (by decide) ?_
                    rw [hQ]
                    exact W.zret (v := 1) hx hb hr rfl (fun t ht hW => ⟨⟨1, E17, rfl, ⟨hI, hKp, ⟨(iv_w ln_1 (by decide)), ⟨fun _ => (k24.mpr ((LexR.eq (e := RevR (fun r => xi (E 32) (16 * r + a0.toNatClampNeg)) (fun r => xi (E 32) (16 * r + a1.toNatClampNeg)) (xi (E 4) 2).toNatClampNeg (a0.toNatClampNeg < a1.toNatClampNeg)) (fun j9 h9 => hx59_0 j9 (by rw [tn_] at h9 ⊢; omega))).mpr (RevR.lt (p := (fun r => xi (E 32) (16 * r + a0.toNatClampNeg))) (p' := (fun r => xi (E 32) (16 * r + a1.toNatClampNeg))) (show v119_4.toNatClampNeg < (xi (E 4) 2).toNatClampNeg by rw [tn_, tn_]; omega) (fun j9 h8 h9 => hx119_0 j9 (by rw [tn_] at h8; omega) h9) (show (xi (E 32) (16 * v119_4.toNatClampNeg + a0.toNatClampNeg)).toInt < (xi (E 32) (16 * v119_4.toNatClampNeg + a1.toNatClampNeg)).toInt by rw [← (show y41 = xi (E 32) (16 * v119_4.toNatClampNeg + a0.toNatClampNeg) by rw [ey41, (show r38.toNatClampNeg = 16 * v119_4.toNatClampNeg + a0.toNatClampNeg by rw [tn_ r38, tn_ v119_4, tn_ a0]; omega)]), ← (show y46 = xi (E 32) (16 * v119_4.toNatClampNeg + a1.toNatClampNeg) by rw [ey46, (show r43.toNatClampNeg = 16 * v119_4.toNatClampNeg + a1.toNatClampNeg by rw [tn_ r43, tn_ v119_4, tn_ a1]; omega)])]; omega)))), fun _ => rfl⟩⟩⟩, by show va_P (dC, dI) vwCl (WL (LC cf) ad E17) t.heap; rw [ht]; exact hP⟩, hS.F ht⟩) hS.2.2 dX8_isBetter_169
          exact hL119 (21) y27 _ _ _ iy27 (fun j9 h8 h9 => by exfalso; rw [tn_] at h9; omega) (by omega) (by have h9 := iy27; first | exact ms_bd h9.2 (by decide) | omega) hP hS (lv_sub hl [0, 1, 2, 3, 4] rfl)
        · --62 not
          have t57 : v59_4.toInt < r8.toInt := ti_nle c25
          have i58 : 0 ≤ v59_4.toInt ∧ v59_4.toInt ≤ 19 := iv_lt_l t57 hv59_4 f11 (by decide)
          have i59 : 1 ≤ r8.toInt ∧ r8.toInt ≤ 20 := iv_lt_r t57 hv59_4 f11 (by decide)
          refine lv_aload_n hx hb dX8_isBetter_65 rfl (lv_at hl 2 rfl) ?_
          refine th_getL (ci := 9) (C := RX8) (T := TX8) (N := 10) (v := .ref (ad 36)) hx hb hts hinX8 hown hK hP hI 4 (mF 4 rfl) rfl rfl 8 (Nat.le_of_ble_eq_true rfl) (hts _ (vA_in _ _ (in_19 _ (zs4 (zs4 (zs4 (zs1 (zs1 (zs0))))))))) (fun _ h9 => h9) (hI.fr 4 (mF 4 rfl) rfl (Nat.le_of_ble_eq_true rfl) 36 rfl) dX8_isBetter_66 ?_
          refine lv_iload hx hb dX8_isBetter_69 (lv_at hl 0 rfl) ?_
          have n61 : vp_in v59_4 20 := (iv_in (n := 20) i58 (by decide))
          refine th_ialdL hx hb hK hP hI 36 (mF 36 rfl) rfl rfl n61 dX8_isBetter_71 (fun y60 ey60 => ?_)
          have ey60 := ey60.trans (congrFun ((kq18.ef 36 (fun _ => rfl)).trans hg15) _)
          refine lv_aload_n hx hb dX8_isBetter_72 rfl (lv_at hl 2 rfl) ?_
          refine th_getL (ci := 9) (C := RX8) (T := TX8) (N := 10) (v := .ref (ad 37)) hx hb hts hinX8 hown hK hP hI 4 (mF 4 rfl) rfl rfl 9 (Nat.le_of_ble_eq_true rfl) (hts _ (vA_in _ _ (in_19 _ (zs4 (zs4 (zs4 (zs1 (zs1 (zs1 (zs0)))))))))) (fun _ h9 => h9) (hI.fr 4 (mF 4 rfl) rfl (Nat.le_of_ble_eq_true rfl) 37 rfl) dX8_isBetter_73 ?_
          refine lv_iload hx hb dX8_isBetter_76 (lv_at hl 0 rfl) ?_
          have n63 : vp_in v59_4 20 := (iv_in (n := 20) i58 (by decide))
          refine th_ialdL hx hb hK hP hI 37 (mF 37 rfl) rfl rfl n63 dX8_isBetter_78 (fun y62 ey62 => ?_)
          have ey62 := ey62.trans (congrFun hg21 _)
          refine lv_icmp_eq (tgt := 105) hx hb dX8_isBetter_79 (by decide) (fun c64 => ?_) (fun c64 => ?_)
          · --79 taken
            have t65 : y60.toInt = y62.toInt := ti_eq c64
            obtain ⟨y66, ey66⟩ : ∃ y : Int32, y = v59_4 + (1 : Int32) := ⟨_, rfl⟩
            obtain ⟨ty66, iy66⟩ := ti_add (e := 1) (f := 20) i58 ln_1 ey66 (by decide)
            have ty66 : y66.toInt = v59_4.toInt + 1 := ty66
            have iy66 : 1 ≤ y66.toInt ∧ y66.toInt ≤ 20 := iy66
            refine lv_iinc (v := y66) (lv' := [(4, .int y66), (3, .int r8), (0, .ref (ad 4)), (1, .int a0), (2, .int a1)]) hx hb dX8_isBetter_105 hl (k := 0) rfl (by rw [ey66]; rfl) (by decide) rfl (fun ls hl => ?_)
            refine lv_goto (tgt := 59) hx hb dX8_isBetter_108 (by decide) ?_
            exact ih59 y66 _ _ _ (iv_w iy66 (by decide)) (sx_eq hx59_0 ey60 ey62 (by omega) (by omega) (by omega)) (by omega) (by first | exact ms_su hx59_2 ty66 (by decide) | omega) hP hS (lv_sub hl [0, 1, 2, 3, 4] rfl)
          · --79 not
            have t67 : ¬ y60.toInt = y62.toInt := ti_ne c64
            refine lv_aload_n hx hb dX8_isBetter_82 rfl (lv_at hl 2 rfl) ?_
            refine th_getL (ci := 9) (C := RX8) (T := TX8) (N := 10) (v := .ref (ad 36)) hx hb hts hinX8 hown hK hP hI 4 (mF 4 rfl) rfl rfl 8 (Nat.le_of_ble_eq_true rfl) (hts _ (vA_in _ _ (in_19 _ (zs4 (zs4 (zs4 (zs1 (zs1 (zs0))))))))) (fun _ h9 => h9) (hI.fr 4 (mF 4 rfl) rfl (Nat.le_of_ble_eq_true rfl) 36 rfl) dX8_isBetter_83 ?_
            refine lv_iload hx hb dX8_isBetter_86 (lv_at hl 0 rfl) ?_
            have n69 : vp_in v59_4 20 := (iv_in (n := 20) i58 (by decide))
            refine th_ialdL hx hb hK hP hI 36 (mF 36 rfl) rfl rfl n69 dX8_isBetter_88 (fun y68 ey68 => ?_)
            have ey68 := ey68.trans (congrFun ((kq18.ef 36 (fun _ => rfl)).trans hg15) _)
            refine lv_aload_n hx hb dX8_isBetter_89 rfl (lv_at hl 2 rfl) ?_
            refine th_getL (ci := 9) (C := RX8) (T := TX8) (N := 10) (v := .ref (ad 37)) hx hb hts hinX8 hown hK hP hI 4 (mF 4 rfl) rfl rfl 9 (Nat.le_of_ble_eq_true rfl) (hts _ (vA_in _ _ (in_19 _ (zs4 (zs4 (zs4 (zs1 (zs1 (zs1 (zs0)))))))))) (fun _ h9 => h9) (hI.fr 4 (mF 4 rfl) rfl (Nat.le_of_ble_eq_true rfl) 37 rfl) dX8_isBetter_90 ?_
            refine lv_iload hx hb dX8_isBetter_93 (lv_at hl 0 rfl) ?_
            have n71 : vp_in v59_4 20 := (iv_in (n := 20) i58 (by decide))
            refine th_ialdL hx hb hK hP hI 37 (mF 37 rfl) rfl rfl n71 dX8_isBetter_95 (fun y70 ey70 => ?_)
            have ey70 := ey70.trans (congrFun hg21 _)
            refine lv_icmp_ge (tgt := 103) hx hb dX8_isBetter_96 (by decide) (fun c72 => ?_) (fun c72 => ?_)
            · --96 taken
              have t73 : y70.toInt ≤ y68.toInt := ti_le c72
              refine lv_iconst (v := 0) hx hb dX8_isBetter_103 (by decide) ?_
              rw [hQ]
              exact W.zret (v := 0) hx hb hr rfl (fun t ht hW => ⟨⟨0, E17, rfl, ⟨hI, hKp, ⟨(iv_w ln_0 (by decide)), ⟨fun q9 => by exfalso; have z0 : (0 : Int32).toInt = 0 := rfl; have z1 : (1 : Int32).toInt = 1 := rfl; omega, fun q9 => absurd q9 (fun q8 => LexR.gt (show v59_4.toNatClampNeg < r8.toNatClampNeg by rw [tn_, tn_]; omega) hx59_0 (by have q7 := congrArg Int32.toInt (ey68.trans ey60.symm); have q6 := congrArg Int32.toInt (ey70.trans ey62.symm); rw [← ey70, ← ey68]; omega) (k24.mp q8))⟩⟩⟩, by show va_P (dC, dI) vwCl (WL (LC cf) ad E17) t.heap; rw [ht]; exact hP⟩, hS.F ht⟩) hS.2.2 dX8_isBetter_104
            · --96 not
              have t74 : y68.toInt < y70.toInt := ti_nle c72
              have i75 : -2147483648 ≤ y68.toInt ∧ y68.toInt ≤ 2147483646 := iv_lt_l t74 (iv_all _) (iv_all _) (by decide)
              have i76 : -2147483647 ≤ y70.toInt ∧ y70.toInt ≤ 2147483647 := iv_lt_r t74 (iv_all _) (iv_all _) (by decide)
              refine lv_iconst (v := 1) hx hb dX8_isBetter_99 (by decide) ?_
              refine lv_goto (tgt := 104) hx hb dX8_isBetter_100 (by decide) ?_
              rw [hQ]
              exact W.zret (v := 1) hx hb hr rfl (fun t ht hW => ⟨⟨1, E17, rfl, ⟨hI, hKp, ⟨(iv_w ln_1 (by decide)), ⟨fun _ => (k24.mpr (LexR.lt (show v59_4.toNatClampNeg < r8.toNatClampNeg by rw [tn_, tn_]; omega) hx59_0 (by rw [← ey68, ← ey70]; omega))), fun _ => rfl⟩⟩⟩, by show va_P (dC, dI) vwCl (WL (LC cf) ad E17) t.heap; rw [ht]; exact hP⟩, hS.F ht⟩) hS.2.2 dX8_isBetter_104
    exact hL59 (21) (0 : Int32) _ _ _ (iv_w ln_0 (by decide)) (fun j9 h9 => absurd h9 (Nat.not_lt_zero j9)) (by omega) (by have h9 := ln_0; first | exact ms_bu h9.1 (by decide) | omega) hP hS (lv_sub hl [0, 1, 2, 3, 4] rfl)
  · --12 not
    have t77 : ¬ y1.toInt = y3.toInt := ti_ne c5
    refine lv_aload_n hx hb dX8_isBetter_15 rfl (lv_at hl 0 rfl) ?_
    refine th_getL (ci := 9) (C := RX8) (T := TX8) (N := 10) (v := .ref (ad 35)) hx hb hts hinX8 hown hK hP hI 4 (mF 4 rfl) rfl rfl 7 (Nat.le_of_ble_eq_true rfl) (hts _ (vA_in _ _ (in_19 _ (zs4 (zs4 (zs4 (zs1 (zs0)))))))) (fun _ h9 => h9) (hI.fr 4 (mF 4 rfl) rfl (Nat.le_of_ble_eq_true rfl) 35 rfl) dX8_isBetter_16 ?_
    refine lv_iload_n hx hb dX8_isBetter_19 rfl (lv_at hl 1 rfl) ?_
    have n79 : vp_in a0 16 := (iv_in (n := 16) hh0 (by decide))
    refine th_ialdL hx hb hK hP hI 35 (mF 35 rfl) rfl rfl n79 dX8_isBetter_20 (fun y78 ey78 => ?_)
    have ey78 := ey78.trans (hKp.ei 35 _ rfl)
    refine lv_aload_n hx hb dX8_isBetter_21 rfl (lv_at hl 0 rfl) ?_
    refine th_getL (ci := 9) (C := RX8) (T := TX8) (N := 10) (v := .ref (ad 35)) hx hb hts hinX8 hown hK hP hI 4 (mF 4 rfl) rfl rfl 7 (Nat.le_of_ble_eq_true rfl) (hts _ (vA_in _ _ (in_19 _ (zs4 (zs4 (zs4 (zs1 (zs0)))))))) (fun _ h9 => h9) (hI.fr 4 (mF 4 rfl) rfl (Nat.le_of_ble_eq_true rfl) 35 rfl) dX8_isBetter_22 ?_
    refine lv_iload_n hx hb dX8_isBetter_25 rfl (lv_at hl 2 rfl) ?_
    have n81 : vp_in a1 16 := (iv_in (n := 16) hh1 (by decide))
    refine th_ialdL hx hb hK hP hI 35 (mF 35 rfl) rfl rfl n81 dX8_isBetter_26 (fun y80 ey80 => ?_)
    have ey80 := ey80.trans (hKp.ei 35 _ rfl)
    refine lv_icmp_ge (tgt := 34) hx hb dX8_isBetter_27 (by decide) (fun c82 => ?_) (fun c82 => ?_)
    · --27 taken
      have t83 : y80.toInt ≤ y78.toInt := ti_le c82
      refine lv_iconst (v := 0) hx hb dX8_isBetter_34 (by decide) ?_
      rw [hQ]
      exact W.zret (v := 0) hx hb hr rfl (fun t ht hW => ⟨⟨0, E, rfl, ⟨hI, hKp, ⟨(iv_w ln_0 (by decide)), ⟨fun q9 => by exfalso; have z0 : (0 : Int32).toInt = 0 := rfl; have z1 : (1 : Int32).toInt = 1 := rfl; omega, fun q9 => absurd q9 (Bt_gt (show (xi (E 35) a1.toNatClampNeg).toInt < (xi (E 35) a0.toNatClampNeg).toInt by have q7 := ey1.trans ey78.symm; have q6 := ey3.trans ey80.symm; rw [← ey80, ← ey78]; have q5 := congrArg Int32.toInt q7; have q4 := congrArg Int32.toInt q6; omega))⟩⟩⟩, by show va_P (dC, dI) vwCl (WL (LC cf) ad E) t.heap; rw [ht]; exact hP⟩, hS.F ht⟩) hS.2.2 dX8_isBetter_35
    · --27 not
      have t84 : y78.toInt < y80.toInt := ti_nle c82
      have i85 : -2147483648 ≤ y78.toInt ∧ y78.toInt ≤ 2147483646 := iv_lt_l t84 (iv_all _) (iv_all _) (by decide)
      have i86 : -2147483647 ≤ y80.toInt ∧ y80.toInt ≤ 2147483647 := iv_lt_r t84 (iv_all _) (iv_all _) (by decide)
      refine lv_iconst (v := 1) hx hb dX8_isBetter_30 (by decide) ?_
      refine lv_goto (tgt := 35) hx hb dX8_isBetter_31 (by decide) ?_
      rw [hQ]
      exact W.zret (v := 1) hx hb hr rfl (fun t ht hW => ⟨⟨1, E, rfl, ⟨hI, hKp, ⟨(iv_w ln_1 (by decide)), ⟨fun _ => (Bt_lt (show (xi (E 35) a0.toNatClampNeg).toInt < (xi (E 35) a1.toNatClampNeg).toInt by rw [← ey78, ← ey80]; omega)), fun _ => rfl⟩⟩⟩, by show va_P (dC, dI) vwCl (WL (LC cf) ad E) t.heap; rw [ht]; exact hP⟩, hS.F ht⟩) hS.2.2 dX8_isBetter_35
def v_boatAtX : List Cond := .code yX8_boatAt cX8_boatAt 5 (some .int) :: vA
abbrev rm_boatAtX : Room := { frames := 3, cells := 0, slots := 0, locals := 120 }
def w_boatAtX : Nat → Nat → Bool := wl [36, 37] []
set_option maxHeartbeats 4000000 in
set_option maxRecDepth 100000 in
theorem q_boatAtX (l : Launch) (dC : Nat → ClassId) (dI : Nat → Nat → Nat) (cT : Nat → ClassId) (cf : Nat → Nat) (hC : CF cf) (ad : Nat → Nat) (E : Nat → va_E) (sz : Nat) (a0 : Int32) (hI0 : IXL cT (shC cf) (spC cf) (LC cf) ad E) (hh0 : ∀ x9 y9 : Nat, x9 < (xi (E 1) 1).toNatClampNeg → y9 < (xi (E 1) 1).toNatClampNeg → KeQ (xi (E 32)) (xi (E 33)) (xi (E 4) 2).toNatClampNeg x9 y9) : Met l yX8_boatAt v_boatAtX rm_boatAtX (va_Pc [.ref (ad 4), .int a0] (HWL dC dI (TYC cT) cf ad E sz)) (va_Qi (S := Nat → va_E) (fun r u => IXL cT (shC cf) (spC cf) (LC cf) ad u ∧ Kp w_boatAtX E u ∧ ((-1 ≤ r.toInt ∧ r.toInt ≤ 15) ∧ (RkR (fun b9 : Nat => (xi (E 34) b9).toInt = 1) (fun x9 y9 : Nat => BtP (xi (E 32)) (xi (E 33)) (xi (E 35)) (xi (E 4) 2).toNatClampNeg x9 y9) (xi (E 1) 1).toNatClampNeg a0.toInt r.toInt))) (HBL dC dI (LC cf) ad) (va_A (WL (LC cf) ad E) sz)) 0 0 (va_A (WL (LC cf) ad E) sz) := by
  obtain ⟨⟨hc0, hc1, hc2, hc3, hc4, hc5⟩, hcr⟩ := id hC
  refine Met.ofW (cc := cX8_boatAt) (maxL := 5) (ret := (some .int)) (by decide) rfl ?_
  intro p e s m args below meth c s₁ B hml hv
  obtain ⟨hargs, hsz, hP, hK, hD0, hEV⟩ := hv
  subst hsz
  have hx := B.exec
  have hb := B.bytes
  have hr := B.returns
  have hts := atoms_spec (ws := v_boatAtX) B.pre
  have hown : s.vm.findClass RX8 = some m.cls := findClass_of_methodNamed B.named
  have hlocks := B.notSynchronized
  have hinX0 : ∀ w ∈ u_ws RX0 TX0 11, w ∈ v_boatAtX := fun w h => vA_in _ w (in_X0 w h)
  have hinX8 : ∀ w ∈ u_ws RX8 TX8 10, w ∈ v_boatAtX := fun w h => vA_in _ w (in_X8 w h)
  generalize hAe : va_A (WL (LC cf) ad E) s.heap.size = A at hEV ⊢
  have hA : ∀ q : Nat, s.heap.size ≤ q → A q := fun q h => by rw [← hAe]; exact Or.inr h
  have hD : va_D A (WL (LC cf) ad E) := by rw [← hAe]; exact hD0.self
  have hS : va_S A s.heap s.heap [] := va_S.rf
  have hI := hI0
  have hKp : Kp w_boatAtX E E := Kp.rf
  have hl := lv_entry ([.ref (ad 4), .int a0]) (n := 5) (Nat.le_of_ble_eq_true rfl)
  obtain ⟨Q, hQ⟩ : ∃ Q, Q = MQ below (va_Qi (S := Nat → va_E) (fun r u => IXL cT (shC cf) (spC cf) (LC cf) ad u ∧ Kp w_boatAtX E u ∧ ((-1 ≤ r.toInt ∧ r.toInt ≤ 15) ∧ (RkR (fun b9 : Nat => (xi (E 34) b9).toInt = 1) (fun x9 y9 : Nat => BtP (xi (E 32)) (xi (E 33)) (xi (E 35)) (xi (E 4) 2).toNatClampNeg x9 y9) (xi (E 1) 1).toNatClampNeg a0.toInt r.toInt))) (HBL dC dI (LC cf) ad) (A)) args s 0 0 (A) := ⟨_, rfl⟩
  rw [← hQ, show entryFrame m args 5 = _ from (congrArg (fun z => entryFrame m z 5) hargs).trans (lg_entry_eq _ _ _)]
  generalize (lg_sl ([.ref (ad 4), .int a0]) ++ List.replicate (5 - (lg_sl ([.ref (ad 4), .int a0])).length) Slot.unset).toArray = ls at hl ⊢
  have hl : lv_has ls 5 [(0, .ref (ad 4)), (1, .int a0)] := hl
  have z0z : (0 : Int32).toInt = 0 := rfl
  have ibt : 0 ≤ (xi (E 1) 1).toInt ∧ (xi (E 1) 1).toInt ≤ 16 := hI0.iv 1 (mF 1 rfl) rfl (Nat.le_of_ble_eq_true rfl) rfl
  refine lv_iconst (v := 0) hx hb dX8_boatAt_0 (by decide) ?_
  refine lv_istore_n (lv' := [(2, .int 0), (0, .ref (ad 4)), (1, .int a0)]) hx hb dX8_boatAt_1 rfl hl (by decide) rfl (fun ls hl => ?_)
  have hL2 : ∀ d : Nat, ∀ (v2_2 : Int32) (E2_ : Nat → va_E) (H : Heap) (locs : List Loc) (ls : Array Slot), 0 ≤ v2_2.toInt ∧ v2_2.toInt ≤ 16 → (∀ b9 : Nat, b9 < v2_2.toNatClampNeg → (xi (E 34) b9).toInt = 1 → ¬ CnR (bqF (fun b9 : Nat => (xi (E 34) b9).toInt = 1) (fun x9 y9 : Nat => BtP (xi (E 32)) (xi (E 33)) (xi (E 35)) (xi (E 4) 2).toNatClampNeg x9 y9) b9) (xi (E 1) 1).toNatClampNeg a0.toInt) → v2_2.toInt ≤ (xi (E 1) 1).toInt → 16 - v2_2.toInt < (d : Int) → IXL cT (shC cf) (spC cf) (LC cf) ad E2_ → Kp w_boatAtX E E2_ → va_P (dC, dI) vwCl (WL (LC cf) ad E2_) H → va_S A s.heap H locs → lv_has ls 5 [(2, .int v2_2), (0, .ref (ad 4)), (1, .int a0)] → W p l e (headSpec v_boatAtX rm_boatAtX).room s m args below meth c H locs 0 0 Q (F0 m 2 ls []) := by
    intro d
    induction d with
    | zero =>
      intro v2_2 E2_ H locs ls hv2_2 hx2_0 hx2_1 hx2_2 hI hKp hP hS hl
      exact absurd hx2_2 (by first | exact ms_zu hv2_2.2 | omega)
    | succ d ih2 =>
      intro v2_2 E2_ H locs ls hv2_2 hx2_0 hx2_1 hx2_2 hI hKp hP hS hl
      refine lv_iload_n hx hb dX8_boatAt_2 rfl (lv_at hl 0 rfl) ?_
      refine lv_aload_n hx hb dX8_boatAt_3 rfl (lv_at hl 1 rfl) ?_
      refine th_getL (ci := 9) (C := RX8) (T := TX8) (N := 10) (v := .ref (ad 1)) hx hb hts hinX8 hown hK hP hI 4 (mF 4 rfl) rfl rfl 0 (Nat.le_of_ble_eq_true rfl) (hts _ (vA_in _ _ (in_19 _ (zs16 (zs0))))) (fun _ h9 => h9) (hI.fr 4 (mF 4 rfl) rfl (Nat.le_of_ble_eq_true rfl) 1 rfl) dX8_boatAt_4 ?_
      have i1 : 0 ≤ (xi (E 1) 1).toInt ∧ (xi (E 1) 1).toInt ≤ 16 := hI0.iv 1 (mF 1 rfl) rfl (Nat.le_of_ble_eq_true rfl) rfl
      refine th_getL (ci := 1) (C := RX0) (T := TX0) (N := 11) (v := .int (xi (E 1) 1)) hx hb hts hinX0 hown hK hP hI 1 (mF 1 rfl) rfl rfl 1 (Nat.le_of_ble_eq_true rfl) (hts _ (vA_in _ _ (in_21 _ (zs16 (zs4 (zs4 (zs1 (zs1 (zs0))))))))) (fun _ h9 => h9) (th_v0L hKp hI0 1 (mF 1 rfl) rfl (Nat.le_of_ble_eq_true rfl) rfl rfl) dX8_boatAt_7 ?_
      refine lv_icmp_ge (tgt := 90) hx hb dX8_boatAt_10 (by decide) (fun c2 => ?_) (fun c2 => ?_)
      · --10 taken
        have t3 : (xi (E 1) 1).toInt ≤ v2_2.toInt := ti_le c2
        refine lv_iconst (v := -1) hx hb dX8_boatAt_90 (by decide) ?_
        rw [hQ]
        exact W.iret (v := (-1)) hx hb hr (fun t ht hW => ⟨⟨(-1), E2_, rfl, ⟨hI, hKp, ⟨(iv_w ln_m1 (by decide)), (Or.inr ⟨fun b9 h9 => hx2_0 b9 (by rw [tn_] at h9 ⊢; omega), rfl⟩)⟩⟩, by show va_P (dC, dI) vwCl (WL (LC cf) ad E2_) t.heap; rw [ht]; exact hP⟩, hS.F ht⟩) hS.2.2 dX8_boatAt_91
      · --10 not
        have t4 : v2_2.toInt < (xi (E 1) 1).toInt := ti_nle c2
        have i5 : 0 ≤ v2_2.toInt ∧ v2_2.toInt ≤ 15 := iv_lt_l t4 hv2_2 i1 (by decide)
        have i6 : 1 ≤ (xi (E 1) 1).toInt ∧ (xi (E 1) 1).toInt ≤ 16 := iv_lt_r t4 hv2_2 i1 (by decide)
        refine lv_aload_n hx hb dX8_boatAt_13 rfl (lv_at hl 1 rfl) ?_
        refine th_getL (ci := 9) (C := RX8) (T := TX8) (N := 10) (v := .ref (ad 34)) hx hb hts hinX8 hown hK hP hI 4 (mF 4 rfl) rfl rfl 6 (Nat.le_of_ble_eq_true rfl) (hts _ (vA_in _ _ (in_19 _ (zs4 (zs4 (zs4 (zs0))))))) (fun _ h9 => h9) (hI.fr 4 (mF 4 rfl) rfl (Nat.le_of_ble_eq_true rfl) 34 rfl) dX8_boatAt_14 ?_
        refine lv_iload_n hx hb dX8_boatAt_17 rfl (lv_at hl 0 rfl) ?_
        have n8 : vp_in v2_2 16 := (iv_in (n := 16) i5 (by decide))
        refine th_zaldL hx hb hK hP hI 34 (mF 34 rfl) rfl rfl n8 dX8_boatAt_18 (fun y7 ey7 => ?_)
        have iy7 : 0 ≤ y7.toInt ∧ y7.toInt ≤ 1 := hI.el 34 (mF 34 rfl) rfl n8 (fun _ => rfl) ey7
        have ey7 := ey7.trans (hKp.ei 34 _ rfl)
        refine lv_if_ne (tgt := 25) hx hb dX8_boatAt_19 (by decide) (fun c9 => ?_) (fun c9 => ?_)
        · --19 taken
          have t10 : ¬ y7.toInt = 0 := ti_ne c9
          have i11 : 1 ≤ y7.toInt ∧ y7.toInt ≤ 1 := iv_ne_l t10 iy7 (il_ 0)
          refine lv_iconst (v := 0) hx hb dX8_boatAt_25 (by decide) ?_
          refine lv_istore_n (lv' := [(3, .int 0), (2, .int v2_2), (0, .ref (ad 4)), (1, .int a0)]) hx hb dX8_boatAt_26 rfl hl (by decide) rfl (fun ls hl => ?_)
          refine lv_iconst (v := 0) hx hb dX8_boatAt_27 (by decide) ?_
          refine lv_istore (lv' := [(4, .int 0), (3, .int 0), (2, .int v2_2), (0, .ref (ad 4)), (1, .int a0)]) hx hb dX8_boatAt_28 hl (by decide) rfl (fun ls hl => ?_)
          have hL30 : ∀ d : Nat, ∀ (v30_4 : Int32) (v30_3 : Int32) (E30_ : Nat → va_E) (H : Heap) (locs : List Loc) (ls : Array Slot), 0 ≤ v30_4.toInt ∧ v30_4.toInt ≤ 16 → 0 ≤ v30_3.toInt ∧ v30_3.toInt ≤ 16 → CnR (bqF (fun b9 : Nat => (xi (E 34) b9).toInt = 1) (fun x9 y9 : Nat => BtP (xi (E 32)) (xi (E 33)) (xi (E 35)) (xi (E 4) 2).toNatClampNeg x9 y9) v2_2.toNatClampNeg) v30_4.toNatClampNeg v30_3.toInt → 0 ≤ v30_3.toInt ∧ v30_3.toInt ≤ v30_4.toInt → v30_4.toInt ≤ (xi (E 1) 1).toInt → 16 - v30_4.toInt < (d : Int) → IXL cT (shC cf) (spC cf) (LC cf) ad E30_ → Kp w_boatAtX E E30_ → va_P (dC, dI) vwCl (WL (LC cf) ad E30_) H → va_S A s.heap H locs → lv_has ls 5 [(4, .int v30_4), (3, .int v30_3), (2, .int v2_2), (0, .ref (ad 4)), (1, .int a0)] → W p l e (headSpec v_boatAtX rm_boatAtX).room s m args below meth c H locs 0 0 Q (F0 m 30 ls []) := by
            intro d
            induction d with
            | zero =>
              intro v30_4 v30_3 E30_ H locs ls hv30_4 hv30_3 hx30_0 hx30_1 hx30_2 hx30_3 hI hKp hP hS hl
              exact absurd hx30_3 (by first | exact ms_zu hv30_4.2 | omega)
            | succ d ih30 =>
              intro v30_4 v30_3 E30_ H locs ls hv30_4 hv30_3 hx30_0 hx30_1 hx30_2 hx30_3 hI hKp hP hS hl
              refine lv_iload hx hb dX8_boatAt_30 (lv_at hl 0 rfl) ?_
              refine lv_aload_n hx hb dX8_boatAt_32 rfl (lv_at hl 3 rfl) ?_
              refine th_getL (ci := 9) (C := RX8) (T := TX8) (N := 10) (v := .ref (ad 1)) hx hb hts hinX8 hown hK hP hI 4 (mF 4 rfl) rfl rfl 0 (Nat.le_of_ble_eq_true rfl) (hts _ (vA_in _ _ (in_19 _ (zs16 (zs0))))) (fun _ h9 => h9) (hI.fr 4 (mF 4 rfl) rfl (Nat.le_of_ble_eq_true rfl) 1 rfl) dX8_boatAt_33 ?_
              refine th_getL (ci := 1) (C := RX0) (T := TX0) (N := 11) (v := .int (xi (E 1) 1)) hx hb hts hinX0 hown hK hP hI 1 (mF 1 rfl) rfl rfl 1 (Nat.le_of_ble_eq_true rfl) (hts _ (vA_in _ _ (in_21 _ (zs16 (zs4 (zs4 (zs1 (zs1 (zs0))))))))) (fun _ h9 => h9) (th_v0L hKp hI0 1 (mF 1 rfl) rfl (Nat.le_of_ble_eq_true rfl) rfl rfl) dX8_boatAt_36 ?_
              refine lv_icmp_ge (tgt := 77) hx hb dX8_boatAt_39 (by decide) (fun c12 => ?_) (fun c12 => ?_)
              · --39 taken
                have t13 : (xi (E 1) 1).toInt ≤ v30_4.toInt := ti_le c12
                have i14 : 1 ≤ v30_4.toInt ∧ v30_4.toInt ≤ 16 := iv_le_r t13 i6 hv30_4 (by decide)
                have k15 : CnR (bqF (fun b9 : Nat => (xi (E 34) b9).toInt = 1) (fun x9 y9 : Nat => BtP (xi (E 32)) (xi (E 33)) (xi (E 35)) (xi (E 4) 2).toNatClampNeg x9 y9) v2_2.toNatClampNeg) (xi (E 1) 1).toNatClampNeg v30_3.toInt := by have h9 := hx30_0; rw [show v30_4.toNatClampNeg = (xi (E 1) 1).toNatClampNeg by rw [tn_, tn_]; omega] at h9; exact h9
                refine lv_iload_n hx hb dX8_boatAt_77 rfl (lv_at hl 1 rfl) ?_
                refine lv_iload_n hx hb dX8_boatAt_78 rfl (lv_at hl 4 rfl) ?_
                refine lv_icmp_ne (tgt := 84) hx hb dX8_boatAt_79 (by decide) (fun c16 => ?_) (fun c16 => ?_)
                · --79 taken
                  have t17 : ¬ v30_3.toInt = a0.toInt := ti_ne c16
                  obtain ⟨y18, ey18⟩ : ∃ y : Int32, y = v2_2 + (1 : Int32) := ⟨_, rfl⟩
                  obtain ⟨ty18, iy18⟩ := ti_add (e := 1) (f := 16) i5 ln_1 ey18 (by decide)
                  have ty18 : y18.toInt = v2_2.toInt + 1 := ty18
                  have iy18 : 1 ≤ y18.toInt ∧ y18.toInt ≤ 16 := iy18
                  refine lv_iinc (v := y18) (lv' := [(2, .int y18), (4, .int v30_4), (3, .int v30_3), (0, .ref (ad 4)), (1, .int a0)]) hx hb dX8_boatAt_84 hl (k := 2) rfl (by rw [ey18]; rfl) (by decide) rfl (fun ls hl => ?_)
                  refine lv_goto (tgt := 2) hx hb dX8_boatAt_87 (by decide) ?_
                  exact ih2 y18 E30_ _ _ _ (iv_w iy18 (by decide)) (fun b9 h9 => dite (b9 = v2_2.toNatClampNeg) (fun q7 => by rw [q7]; exact (fun _ q9 => by have q8 := CnR.un _ _ _ k15 q9 (fun _ _ => Iff.rfl); omega)) (fun q7 => hx2_0 b9 (by rw [tn_] at h9 q7 ⊢; omega))) (by omega) (by first | exact ms_su hx2_2 ty18 (by decide) | omega) hI hKp hP hS (lv_sub hl [0, 3, 4] rfl)
                · --79 not
                  have t19 : v30_3.toInt = a0.toInt := ti_eq c16
                  have i20 : 0 ≤ a0.toInt ∧ a0.toInt ≤ 16 := iv_eqi t19.symm (iv_all _) hv30_3 (by decide)
                  refine lv_iload_n hx hb dX8_boatAt_82 rfl (lv_at hl 2 rfl) ?_
                  rw [hQ]
                  exact W.iret (v := v2_2) hx hb hr (fun t ht hW => ⟨⟨v2_2, E30_, rfl, ⟨hI, hKp, ⟨(iv_w i5 (by decide)), (Or.inl ⟨v2_2.toNatClampNeg, by rw [tn_, tn_]; omega, (by show (xi (E 34) v2_2.toNatClampNeg).toInt = 1; rw [← ey7]; omega), (by have h9 := k15; rw [show v30_3.toInt = a0.toInt by omega] at h9; exact h9), hx2_0, by rw [tn_]; omega⟩)⟩⟩, by show va_P (dC, dI) vwCl (WL (LC cf) ad E30_) t.heap; rw [ht]; exact hP⟩, hS.F ht⟩) hS.2.2 dX8_boatAt_83
              · --39 not
                have t21 : v30_4.toInt < (xi (E 1) 1).toInt := ti_nle c12
                have i22 : 0 ≤ v30_4.toInt ∧ v30_4.toInt ≤ 15 := iv_lt_l t21 hv30_4 i6 (by decide)
                have i23 : 0 ≤ v30_3.toInt ∧ v30_3.toInt ≤ 15 := by omega
                refine lv_iload hx hb dX8_boatAt_42 (lv_at hl 0 rfl) ?_
                refine lv_iload_n hx hb dX8_boatAt_44 rfl (lv_at hl 2 rfl) ?_
                refine lv_icmp_eq (tgt := 71) hx hb dX8_boatAt_45 (by decide) (fun c24 => ?_) (fun c24 => ?_)
                · --45 taken
                  have t25 : v30_4.toInt = v2_2.toInt := ti_eq c24
                  obtain ⟨y26, ey26⟩ : ∃ y : Int32, y = v30_4 + (1 : Int32) := ⟨_, rfl⟩
                  obtain ⟨ty26, iy26⟩ := ti_add (e := 1) (f := 16) i22 ln_1 ey26 (by decide)
                  have ty26 : y26.toInt = v30_4.toInt + 1 := ty26
                  have iy26 : 1 ≤ y26.toInt ∧ y26.toInt ≤ 16 := iy26
                  refine lv_iinc (v := y26) (lv' := [(4, .int y26), (3, .int v30_3), (2, .int v2_2), (0, .ref (ad 4)), (1, .int a0)]) hx hb dX8_boatAt_71 hl (k := 0) rfl (by rw [ey26]; rfl) (by decide) rfl (fun ls hl => ?_)
                  refine lv_goto (tgt := 30) hx hb dX8_boatAt_74 (by decide) ?_
                  exact ih30 y26 v30_3 E30_ _ _ _ (iv_w iy26 (by decide)) (iv_w i23 (by decide)) (hx30_0.no (fun q9 => q9.1 (by rw [tn_, tn_]; omega)) rfl (by rw [tn_ y26, tn_ v30_4]; omega)) (by omega) (by omega) (by first | exact ms_su hx30_3 ty26 (by decide) | omega) hI hKp hP hS (lv_sub hl [0, 1, 2, 3, 4] rfl)
                · --45 not
                  have t27 : ¬ v30_4.toInt = v2_2.toInt := ti_ne c24
                  refine lv_aload_n hx hb dX8_boatAt_48 rfl (lv_at hl 3 rfl) ?_
                  refine th_getL (ci := 9) (C := RX8) (T := TX8) (N := 10) (v := .ref (ad 34)) hx hb hts hinX8 hown hK hP hI 4 (mF 4 rfl) rfl rfl 6 (Nat.le_of_ble_eq_true rfl) (hts _ (vA_in _ _ (in_19 _ (zs4 (zs4 (zs4 (zs0))))))) (fun _ h9 => h9) (hI.fr 4 (mF 4 rfl) rfl (Nat.le_of_ble_eq_true rfl) 34 rfl) dX8_boatAt_49 ?_
                  refine lv_iload hx hb dX8_boatAt_52 (lv_at hl 0 rfl) ?_
                  have n29 : vp_in v30_4 16 := (iv_in (n := 16) i22 (by decide))
                  refine th_zaldL hx hb hK hP hI 34 (mF 34 rfl) rfl rfl n29 dX8_boatAt_54 (fun y28 ey28 => ?_)
                  have iy28 : 0 ≤ y28.toInt ∧ y28.toInt ≤ 1 := hI.el 34 (mF 34 rfl) rfl n29 (fun _ => rfl) ey28
                  have ey28 := ey28.trans (hKp.ei 34 _ rfl)
                  refine lv_if_eq (tgt := 71) hx hb dX8_boatAt_55 (by decide) (fun c30 => ?_) (fun c30 => ?_)
                  · --55 taken
                    have t31 : y28.toInt = 0 := ti_eq c30
                    have i32 : 0 ≤ y28.toInt ∧ y28.toInt ≤ 0 := iv_eqi t31 iy28 (il_ 0) (by decide)
                    obtain ⟨y33, ey33⟩ : ∃ y : Int32, y = v30_4 + (1 : Int32) := ⟨_, rfl⟩
                    obtain ⟨ty33, iy33⟩ := ti_add (e := 1) (f := 16) i22 ln_1 ey33 (by decide)
                    have ty33 : y33.toInt = v30_4.toInt + 1 := ty33
                    have iy33 : 1 ≤ y33.toInt ∧ y33.toInt ≤ 16 := iy33
                    refine lv_iinc (v := y33) (lv' := [(4, .int y33), (3, .int v30_3), (2, .int v2_2), (0, .ref (ad 4)), (1, .int a0)]) hx hb dX8_boatAt_71 hl (k := 0) rfl (by rw [ey33]; rfl) (by decide) rfl (fun ls hl => ?_)
                    refine lv_goto (tgt := 30) hx hb dX8_boatAt_74 (by decide) ?_
                    exact ih30 y33 v30_3 E30_ _ _ _ (iv_w iy33 (by decide)) (iv_w i23 (by decide)) (hx30_0.no (fun q9 => by have q8 : (xi (E 34) v30_4.toNatClampNeg).toInt = 1 := q9.2.1; rw [← ey28] at q8; omega) rfl (by rw [tn_ y33, tn_ v30_4]; omega)) (by omega) (by omega) (by first | exact ms_su hx30_3 ty33 (by decide) | omega) hI hKp hP hS (lv_sub hl [0, 1, 2, 3, 4] rfl)
                  · --55 not
                    have t34 : ¬ y28.toInt = 0 := ti_ne c30
                    have i35 : 1 ≤ y28.toInt ∧ y28.toInt ≤ 1 := iv_ne_l t34 iy28 (il_ 0)
                    refine lv_aload_n hx hb dX8_boatAt_58 rfl (lv_at hl 3 rfl) ?_
                    refine lv_iload hx hb dX8_boatAt_59 (lv_at hl 0 rfl) ?_
                    refine lv_iload_n hx hb dX8_boatAt_61 rfl (lv_at hl 2 rfl) ?_
                    refine th_iL (va_runV (As := [.int v30_4, .int v2_2]) (rest := []) ⟨hx, hb, hml, hown, hts⟩ (q_isBetterX l dC dI cT cf hC ad E30_ H.size v30_4 v2_2 hI i22 i5 (by (try rw [hKp.ei 4 2 rfl]); (try rw [hKp.ef 32 (fun _ => rfl)]); (try rw [hKp.ef 33 (fun _ => rfl)]); (try rw [show xi (E30_ 32) = xi (E 32) from hKp.ef 32 (fun _ => rfl)]); (try rw [show xi (E30_ 33) = xi (E 33) from hKp.ef 33 (fun _ => rfl)]); (try rw [show xi (E30_ 4) 2 = (xi (E 4) 2) from hKp.ei 4 2 rfl]); exact hh0 _ _ (by rw [tn_, tn_]; omega) (by rw [tn_, tn_]; omega))) (cwV 2 hts (gi_V (in_22 _ (zs4 (zs4 (zs1 (zs0))))) (in_22 _ (zs4 (zs4 (zs1 (zs1 (zs0)))))) (in_22 _ (zs4 (zs4 (zs1 (zs1 (zs1 (zs0))))))) (in_18 _ (zs16 (zs16 (zs0)))) (in_22 _ (zs4 (zs4 (zs4 (zs0)))))) rfl rfl rfl ⟨rfl, hz_yX8_isBetter_2⟩ ⟨Nat.le_of_ble_eq_true rfl, Nat.le_of_ble_eq_true rfl⟩) ⟨HWL_bl, va_recv hK hP (ci := 9) (q0 := posL 4 (LC cf)) rfl (hI.ob 4 (mF 4 rfl) rfl), (HWL_wi hP hK (WL_D hD) hS hA hEV)⟩ rfl rfl hl.1 rfl (lv_room (Nat.le_of_ble_eq_true rfl)) dX8_boatAt_62 ⟨Nat.le_of_ble_eq_true rfl, Nat.le_of_ble_eq_true rfl⟩) (WL_D hD) hS hA (fun r36 E37 H locs hw hP hS => ?_)
                    obtain ⟨hI, kq38, hw⟩ := hw
                    have hKb := hKp
                    have hKp := hKp.tr kq38 (wl_sub rfl rfl)
                    obtain ⟨f39, f40⟩ := hw
                    have j42 : 0 ≤ (xi (E 4) 2).toInt ∧ (xi (E 4) 2).toInt ≤ ((cf 2 : Nat) : Int) := hI0.iv 4 (mF 4 rfl) rfl (Nat.le_of_ble_eq_true rfl) rfl
                    have i41 : 0 ≤ (xi (E 4) 2).toInt ∧ (xi (E 4) 2).toInt ≤ 20 := by omega
                    try rw [hKb.ei 4 2 rfl] at f40
                    try rw [hKb.ef 32 (fun _ => rfl)] at f40
                    try rw [hKb.ef 33 (fun _ => rfl)] at f40
                    try rw [hKb.ef 35 (fun _ => rfl)] at f40
                    refine lv_if_eq (tgt := 71) hx hb dX8_boatAt_65 (by decide) (fun c43 => ?_) (fun c43 => ?_)
                    · --65 taken
                      have t44 : r36.toInt = 0 := ti_eq c43
                      have i45 : 0 ≤ r36.toInt ∧ r36.toInt ≤ 0 := iv_eqi t44 f39 (il_ 0) (by decide)
                      obtain ⟨y46, ey46⟩ : ∃ y : Int32, y = v30_4 + (1 : Int32) := ⟨_, rfl⟩
                      obtain ⟨ty46, iy46⟩ := ti_add (e := 1) (f := 16) i22 ln_1 ey46 (by decide)
                      have ty46 : y46.toInt = v30_4.toInt + 1 := ty46
                      have iy46 : 1 ≤ y46.toInt ∧ y46.toInt ≤ 16 := iy46
                      refine lv_iinc (v := y46) (lv' := [(4, .int y46), (3, .int v30_3), (2, .int v2_2), (0, .ref (ad 4)), (1, .int a0)]) hx hb dX8_boatAt_71 hl (k := 0) rfl (by rw [ey46]; rfl) (by decide) rfl (fun ls hl => ?_)
                      refine lv_goto (tgt := 30) hx hb dX8_boatAt_74 (by decide) ?_
                      exact ih30 y46 v30_3 E37 _ _ _ (iv_w iy46 (by decide)) (iv_w i23 (by decide)) (hx30_0.no (fun q9 => by have q8 := (f40).mpr q9.2.2; omega) rfl (by rw [tn_ y46, tn_ v30_4]; omega)) (by omega) (by omega) (by first | exact ms_su hx30_3 ty46 (by decide) | omega) hI hKp hP hS (lv_sub hl [0, 1, 2, 3, 4] rfl)
                    · --65 not
                      have t47 : ¬ r36.toInt = 0 := ti_ne c43
                      have i48 : 1 ≤ r36.toInt ∧ r36.toInt ≤ 1 := iv_ne_l t47 f39 (il_ 0)
                      obtain ⟨y49, ey49⟩ : ∃ y : Int32, y = v30_3 + (1 : Int32) := ⟨_, rfl⟩
                      obtain ⟨ty49, iy49⟩ := ti_add (e := 1) (f := 16) i23 ln_1 ey49 (by decide)
                      have ty49 : y49.toInt = v30_3.toInt + 1 := ty49
                      have iy49 : 1 ≤ y49.toInt ∧ y49.toInt ≤ 16 := iy49
                      refine lv_iinc (v := y49) (lv' := [(3, .int y49), (4, .int v30_4), (2, .int v2_2), (0, .ref (ad 4)), (1, .int a0)]) hx hb dX8_boatAt_68 hl (k := 1) rfl (by rw [ey49]; rfl) (by decide) rfl (fun ls hl => ?_)
                      obtain ⟨y50, ey50⟩ : ∃ y : Int32, y = v30_4 + (1 : Int32) := ⟨_, rfl⟩
                      obtain ⟨ty50, iy50⟩ := ti_add (e := 1) (f := 16) i22 ln_1 ey50 (by decide)
                      have ty50 : y50.toInt = v30_4.toInt + 1 := ty50
                      have iy50 : 1 ≤ y50.toInt ∧ y50.toInt ≤ 16 := iy50
                      refine lv_iinc (v := y50) (lv' := [(4, .int y50), (3, .int y49), (2, .int v2_2), (0, .ref (ad 4)), (1, .int a0)]) hx hb dX8_boatAt_71 hl (k := 1) rfl (by rw [ey50]; rfl) (by decide) rfl (fun ls hl => ?_)
                      refine lv_goto (tgt := 30) hx hb dX8_boatAt_74 (by decide) ?_
                      exact ih30 y50 y49 E37 _ _ _ (iv_w iy50 (by decide)) (iv_w iy49 (by decide)) (hx30_0.one (show bqF (fun b9 : Nat => (xi (E 34) b9).toInt = 1) (fun x9 y9 : Nat => BtP (xi (E 32)) (xi (E 33)) (xi (E 35)) (xi (E 4) 2).toNatClampNeg x9 y9) v2_2.toNatClampNeg v30_4.toNatClampNeg from ⟨(fun q9 => by rw [tn_, tn_] at q9; omega), (show (xi (E 34) v30_4.toNatClampNeg).toInt = 1 by rw [← ey28]; omega), (f40).mp (by omega)⟩) ty49 (by rw [tn_ y50, tn_ v30_4]; omega)) (by omega) (by omega) (by first | exact ms_su hx30_3 ty50 (by decide) | omega) hI hKp hP hS (lv_sub hl [0, 1, 2, 3, 4] rfl)
          exact hL30 (17) (0 : Int32) (0 : Int32) E2_ _ _ _ (iv_w ln_0 (by decide)) (iv_w ln_0 (by decide)) (show CnR (bqF (fun b9 : Nat => (xi (E 34) b9).toInt = 1) (fun x9 y9 : Nat => BtP (xi (E 32)) (xi (E 33)) (xi (E 35)) (xi (E 4) 2).toNatClampNeg x9 y9) v2_2.toNatClampNeg) 0 (0 : Int32).toInt from rfl) (by omega) (by omega) (by have h9 := ln_0; first | exact ms_bu h9.1 (by decide) | omega) hI hKp hP hS (lv_sub hl [0, 1, 2, 3, 4] rfl)
        · --19 not
          have t51 : y7.toInt = 0 := ti_eq c9
          have i52 : 0 ≤ y7.toInt ∧ y7.toInt ≤ 0 := iv_eqi t51 iy7 (il_ 0) (by decide)
          refine lv_goto (tgt := 84) hx hb dX8_boatAt_22 (by decide) ?_
          obtain ⟨y53, ey53⟩ : ∃ y : Int32, y = v2_2 + (1 : Int32) := ⟨_, rfl⟩
          obtain ⟨ty53, iy53⟩ := ti_add (e := 1) (f := 16) i5 ln_1 ey53 (by decide)
          have ty53 : y53.toInt = v2_2.toInt + 1 := ty53
          have iy53 : 1 ≤ y53.toInt ∧ y53.toInt ≤ 16 := iy53
          refine lv_iinc (v := y53) (lv' := [(2, .int y53), (0, .ref (ad 4)), (1, .int a0)]) hx hb dX8_boatAt_84 hl (k := 0) rfl (by rw [ey53]; rfl) (by decide) rfl (fun ls hl => ?_)
          refine lv_goto (tgt := 2) hx hb dX8_boatAt_87 (by decide) ?_
          exact ih2 y53 E2_ _ _ _ (iv_w iy53 (by decide)) (fun b9 h9 => dite (b9 = v2_2.toNatClampNeg) (fun q7 => by rw [q7]; exact (fun q9 _ => by exfalso; rw [← ey7] at q9; omega)) (fun q7 => hx2_0 b9 (by rw [tn_] at h9 q7 ⊢; omega))) (by omega) (by first | exact ms_su hx2_2 ty53 (by decide) | omega) hI hKp hP hS (lv_sub hl [0, 1, 2] rfl)
  exact hL2 (17) (0 : Int32) E _ _ _ (iv_w ln_0 (by decide)) (fun b9 h9 => absurd h9 (Nat.not_lt_zero b9)) (by omega) (by have h9 := ln_0; first | exact ms_bu h9.1 (by decide) | omega) hI hKp hP hS (lv_sub hl [0, 1, 2] rfl)
