set_option maxRecDepth 100000 in
theorem zh_dX3_markCertified_0_0 : zc cX3_markCertified 0 [42, 180, 0, 52, 3, 184, 0, 164, 3, 60, 27, 42, 180, 0, 55, 180] = true := by decide +kernel
set_option maxRecDepth 100000 in
theorem zh_dX3_markCertified_15_16 : zc cX3_markCertified 16 [0, 170, 182, 0, 69, 162, 0, 32, 42, 180, 0, 52, 42, 180, 0, 55] = true := by decide +kernel
set_option maxRecDepth 100000 in
theorem zh_dX3_markCertified_32_32 : zc cX3_markCertified 32 [180, 0, 170, 27, 182, 0, 99, 192, 0, 173, 180, 0, 175, 4, 79, 132] = true := by decide +kernel
set_option maxRecDepth 100000 in
theorem zh_dX3_markCertified_47_48 : zc cX3_markCertified 48 [1, 1, 167, 255, 216, 3, 60, 3, 61, 28, 16, 16, 162, 0, 18, 27] = true := by decide +kernel
set_option maxRecDepth 100000 in
theorem zh_dX3_markCertified_64_64 : zc cX3_markCertified 64 [42, 180, 0, 52, 28, 46, 96, 60, 132, 2, 1, 167, 255, 238, 27, 172] = true := by decide +kernel
set_option maxRecDepth 100000 in
theorem zh_dX3_weigh_0_0 : zc cX3_weigh 0 [3, 60, 27, 16, 16, 162, 0, 66, 42, 180, 0, 52, 27, 46, 154, 0] = true := by decide +kernel
set_option maxRecDepth 100000 in
theorem zh_dX3_weigh_14_16 : zc cX3_weigh 16 [6, 167, 0, 48, 42, 27, 182, 0, 178, 61, 28, 2, 159, 0, 37, 42] = true := by decide +kernel
set_option maxRecDepth 100000 in
theorem zh_dX3_weigh_32_32 : zc cX3_weigh 32 [180, 0, 52, 27, 4, 28, 42, 180, 0, 55, 27, 42, 180, 0, 55, 180] = true := by decide +kernel
set_option maxRecDepth 100000 in
theorem zh_dX3_weigh_47_48 : zc cX3_weigh 48 [0, 79, 42, 180, 0, 55, 180, 0, 79, 182, 0, 181, 184, 0, 126, 96] = true := by decide +kernel
set_option maxRecDepth 100000 in
theorem zh_dX3_weigh_64_64 : zc cX3_weigh 64 [79, 132, 1, 1, 167, 255, 190, 177] = true := by decide +kernel
set_option maxRecDepth 100000 in
theorem zh_dX3_drawOut_0_0 : zc cX3_drawOut 0 [3, 54, 4, 3, 54, 5, 21, 5, 16, 16, 162, 0, 21, 21, 4, 42] = true := by decide +kernel
set_option maxRecDepth 100000 in
theorem zh_dX3_drawOut_16_16 : zc cX3_drawOut 16 [180, 0, 52, 21, 5, 46, 96, 54, 4, 132, 5, 1, 167, 255, 234, 32] = true := by decide +kernel
set_option maxRecDepth 100000 in
theorem zh_dX3_drawOut_32_32 : zc cX3_drawOut 32 [55, 5, 3, 54, 7, 3, 54, 8, 21, 8, 27, 162, 0, 80, 21, 4] = true := by decide +kernel
set_option maxRecDepth 100000 in
theorem zh_dX3_drawOut_48_48 : zc cX3_drawOut 48 [158, 0, 75, 22, 5, 20, 0, 185, 105, 20, 0, 187, 97, 55, 5, 42] = true := by decide +kernel
set_option maxRecDepth 100000 in
theorem zh_dX3_drawOut_64_64 : zc cX3_drawOut 64 [22, 5, 16, 33, 125, 21, 4, 133, 113, 136, 182, 0, 189, 54, 9, 21] = true := by decide +kernel
set_option maxRecDepth 100000 in
theorem zh_dX3_drawOut_79_80 : zc cX3_drawOut 80 [9, 2, 160, 0, 6, 167, 0, 38, 21, 7, 4, 21, 9, 120, 128, 54] = true := by decide +kernel
set_option maxRecDepth 100000 in
theorem zh_dX3_drawOut_95_96 : zc cX3_drawOut 96 [7, 21, 4, 42, 180, 0, 52, 21, 9, 46, 100, 54, 4, 42, 180, 0] = true := by decide +kernel
set_option maxRecDepth 100000 in
theorem zh_dX3_drawOut_110_112 : zc cX3_drawOut 112 [52, 21, 9, 3, 79, 132, 8, 1, 167, 255, 176, 21, 7, 172] = true := by decide +kernel
set_option maxRecDepth 100000 in
theorem zh_dX3_boatWithin_0_0 : zc cX3_boatWithin 0 [27, 61, 3, 62, 29, 16, 16, 162, 0, 30, 28, 42, 180, 0, 52, 29] = true := by decide +kernel
set_option maxRecDepth 100000 in
theorem zh_dX3_boatWithin_16_16 : zc cX3_boatWithin 16 [46, 162, 0, 5, 29, 172, 28, 42, 180, 0, 52, 29, 46, 100, 61, 132] = true := by decide +kernel
set_option maxRecDepth 100000 in
theorem zh_dX3_boatWithin_31_32 : zc cX3_boatWithin 32 [3, 1, 167, 255, 226, 2, 172] = true := by decide +kernel
set_option maxRecDepth 100000 in
theorem zh_dX12_draw_0_0 : zc cX12_draw 0 [27, 4, 161, 0, 14, 27, 42, 180, 0, 51, 182, 1, 26, 164, 0, 5] = true := by decide +kernel
set_option maxRecDepth 100000 in
theorem zh_dX12_draw_16_16 : zc cX12_draw 16 [2, 172, 42, 180, 0, 51, 182, 0, 249, 42, 180, 0, 51, 182, 1, 29] = true := by decide +kernel
set_option maxRecDepth 100000 in
theorem zh_dX12_draw_32_32 : zc cX12_draw 32 [42, 180, 0, 51, 27, 32, 182, 1, 32, 172] = true := by decide +kernel
theorem dX3_markCertified_0 : decode cX3_markCertified 0 = .ok (.aload_n 0, 1) := zo_42 (zi_at zh_dX3_markCertified_0_0 0 rfl)
theorem dX3_markCertified_1 : decode cX3_markCertified 1 = .ok (.getfield 52, 3) := zo_180 (zi_at zh_dX3_markCertified_0_0 1 rfl) (zi_at zh_dX3_markCertified_0_0 2 rfl) (zi_at zh_dX3_markCertified_0_0 3 rfl) rfl
theorem dX3_markCertified_4 : decode cX3_markCertified 4 = .ok (.iconst 0, 1) := zo_3 (zi_at zh_dX3_markCertified_0_0 4 rfl)
theorem dX3_markCertified_5 : decode cX3_markCertified 5 = .ok (.invokestatic 164, 3) := zo_184 (zi_at zh_dX3_markCertified_0_0 5 rfl) (zi_at zh_dX3_markCertified_0_0 6 rfl) (zi_at zh_dX3_markCertified_0_0 7 rfl) rfl
theorem dX3_markCertified_8 : decode cX3_markCertified 8 = .ok (.iconst 0, 1) := zo_3 (zi_at zh_dX3_markCertified_0_0 8 rfl)
theorem dX3_markCertified_9 : decode cX3_markCertified 9 = .ok (.istore_n 1, 1) := zo_60 (zi_at zh_dX3_markCertified_0_0 9 rfl)
theorem dX3_markCertified_10 : decode cX3_markCertified 10 = .ok (.iload_n 1, 1) := zo_27 (zi_at zh_dX3_markCertified_0_0 10 rfl)
theorem dX3_markCertified_11 : decode cX3_markCertified 11 = .ok (.aload_n 0, 1) := zo_42 (zi_at zh_dX3_markCertified_0_0 11 rfl)
theorem dX3_markCertified_12 : decode cX3_markCertified 12 = .ok (.getfield 55, 3) := zo_180 (zi_at zh_dX3_markCertified_0_0 12 rfl) (zi_at zh_dX3_markCertified_0_0 13 rfl) (zi_at zh_dX3_markCertified_0_0 14 rfl) rfl
theorem dX3_markCertified_15 : decode cX3_markCertified 15 = .ok (.getfield 170, 3) := zo_180 (zi_at zh_dX3_markCertified_0_0 15 rfl) (zi_at zh_dX3_markCertified_15_16 0 rfl) (zi_at zh_dX3_markCertified_15_16 1 rfl) rfl
theorem dX3_markCertified_18 : decode cX3_markCertified 18 = .ok (.invokevirtual 69, 3) := zo_182 (zi_at zh_dX3_markCertified_15_16 2 rfl) (zi_at zh_dX3_markCertified_15_16 3 rfl) (zi_at zh_dX3_markCertified_15_16 4 rfl) rfl
theorem dX3_markCertified_21 : decode cX3_markCertified 21 = .ok (.if_icmp .ge 32, 3) := zo_162 (zi_at zh_dX3_markCertified_15_16 5 rfl) (zi_at zh_dX3_markCertified_15_16 6 rfl) (zi_at zh_dX3_markCertified_15_16 7 rfl) rfl
theorem dX3_markCertified_24 : decode cX3_markCertified 24 = .ok (.aload_n 0, 1) := zo_42 (zi_at zh_dX3_markCertified_15_16 8 rfl)
theorem dX3_markCertified_25 : decode cX3_markCertified 25 = .ok (.getfield 52, 3) := zo_180 (zi_at zh_dX3_markCertified_15_16 9 rfl) (zi_at zh_dX3_markCertified_15_16 10 rfl) (zi_at zh_dX3_markCertified_15_16 11 rfl) rfl
theorem dX3_markCertified_28 : decode cX3_markCertified 28 = .ok (.aload_n 0, 1) := zo_42 (zi_at zh_dX3_markCertified_15_16 12 rfl)
theorem dX3_markCertified_29 : decode cX3_markCertified 29 = .ok (.getfield 55, 3) := zo_180 (zi_at zh_dX3_markCertified_15_16 13 rfl) (zi_at zh_dX3_markCertified_15_16 14 rfl) (zi_at zh_dX3_markCertified_15_16 15 rfl) rfl
theorem dX3_markCertified_32 : decode cX3_markCertified 32 = .ok (.getfield 170, 3) := zo_180 (zi_at zh_dX3_markCertified_32_32 0 rfl) (zi_at zh_dX3_markCertified_32_32 1 rfl) (zi_at zh_dX3_markCertified_32_32 2 rfl) rfl
theorem dX3_markCertified_35 : decode cX3_markCertified 35 = .ok (.iload_n 1, 1) := zo_27 (zi_at zh_dX3_markCertified_32_32 3 rfl)
theorem dX3_markCertified_36 : decode cX3_markCertified 36 = .ok (.invokevirtual 99, 3) := zo_182 (zi_at zh_dX3_markCertified_32_32 4 rfl) (zi_at zh_dX3_markCertified_32_32 5 rfl) (zi_at zh_dX3_markCertified_32_32 6 rfl) rfl
theorem dX3_markCertified_39 : decode cX3_markCertified 39 = .ok (.checkcast 173, 3) := zo_192 (zi_at zh_dX3_markCertified_32_32 7 rfl) (zi_at zh_dX3_markCertified_32_32 8 rfl) (zi_at zh_dX3_markCertified_32_32 9 rfl) rfl
theorem dX3_markCertified_42 : decode cX3_markCertified 42 = .ok (.getfield 175, 3) := zo_180 (zi_at zh_dX3_markCertified_32_32 10 rfl) (zi_at zh_dX3_markCertified_32_32 11 rfl) (zi_at zh_dX3_markCertified_32_32 12 rfl) rfl
theorem dX3_markCertified_45 : decode cX3_markCertified 45 = .ok (.iconst 1, 1) := zo_4 (zi_at zh_dX3_markCertified_32_32 13 rfl)
theorem dX3_markCertified_46 : decode cX3_markCertified 46 = .ok (.iastore, 1) := zo_79 (zi_at zh_dX3_markCertified_32_32 14 rfl)
theorem dX3_markCertified_47 : decode cX3_markCertified 47 = .ok (.iinc 1 1, 3) := zo_132 (zi_at zh_dX3_markCertified_32_32 15 rfl) (zi_at zh_dX3_markCertified_47_48 0 rfl) (zi_at zh_dX3_markCertified_47_48 1 rfl) rfl
theorem dX3_markCertified_50 : decode cX3_markCertified 50 = .ok (.goto (-40), 3) := zo_167 (zi_at zh_dX3_markCertified_47_48 2 rfl) (zi_at zh_dX3_markCertified_47_48 3 rfl) (zi_at zh_dX3_markCertified_47_48 4 rfl) rfl
theorem dX3_markCertified_53 : decode cX3_markCertified 53 = .ok (.iconst 0, 1) := zo_3 (zi_at zh_dX3_markCertified_47_48 5 rfl)
theorem dX3_markCertified_54 : decode cX3_markCertified 54 = .ok (.istore_n 1, 1) := zo_60 (zi_at zh_dX3_markCertified_47_48 6 rfl)
theorem dX3_markCertified_55 : decode cX3_markCertified 55 = .ok (.iconst 0, 1) := zo_3 (zi_at zh_dX3_markCertified_47_48 7 rfl)
theorem dX3_markCertified_56 : decode cX3_markCertified 56 = .ok (.istore_n 2, 1) := zo_61 (zi_at zh_dX3_markCertified_47_48 8 rfl)
theorem dX3_markCertified_57 : decode cX3_markCertified 57 = .ok (.iload_n 2, 1) := zo_28 (zi_at zh_dX3_markCertified_47_48 9 rfl)
theorem dX3_markCertified_58 : decode cX3_markCertified 58 = .ok (.bipush 16, 2) := zo_16 (zi_at zh_dX3_markCertified_47_48 10 rfl) (zi_at zh_dX3_markCertified_47_48 11 rfl) rfl
theorem dX3_markCertified_60 : decode cX3_markCertified 60 = .ok (.if_icmp .ge 18, 3) := zo_162 (zi_at zh_dX3_markCertified_47_48 12 rfl) (zi_at zh_dX3_markCertified_47_48 13 rfl) (zi_at zh_dX3_markCertified_47_48 14 rfl) rfl
theorem dX3_markCertified_63 : decode cX3_markCertified 63 = .ok (.iload_n 1, 1) := zo_27 (zi_at zh_dX3_markCertified_47_48 15 rfl)
theorem dX3_markCertified_64 : decode cX3_markCertified 64 = .ok (.aload_n 0, 1) := zo_42 (zi_at zh_dX3_markCertified_64_64 0 rfl)
theorem dX3_markCertified_65 : decode cX3_markCertified 65 = .ok (.getfield 52, 3) := zo_180 (zi_at zh_dX3_markCertified_64_64 1 rfl) (zi_at zh_dX3_markCertified_64_64 2 rfl) (zi_at zh_dX3_markCertified_64_64 3 rfl) rfl
theorem dX3_markCertified_68 : decode cX3_markCertified 68 = .ok (.iload_n 2, 1) := zo_28 (zi_at zh_dX3_markCertified_64_64 4 rfl)
theorem dX3_markCertified_69 : decode cX3_markCertified 69 = .ok (.iaload, 1) := zo_46 (zi_at zh_dX3_markCertified_64_64 5 rfl)
theorem dX3_markCertified_70 : decode cX3_markCertified 70 = .ok (.iadd, 1) := zo_96 (zi_at zh_dX3_markCertified_64_64 6 rfl)
theorem dX3_markCertified_71 : decode cX3_markCertified 71 = .ok (.istore_n 1, 1) := zo_60 (zi_at zh_dX3_markCertified_64_64 7 rfl)
theorem dX3_markCertified_72 : decode cX3_markCertified 72 = .ok (.iinc 2 1, 3) := zo_132 (zi_at zh_dX3_markCertified_64_64 8 rfl) (zi_at zh_dX3_markCertified_64_64 9 rfl) (zi_at zh_dX3_markCertified_64_64 10 rfl) rfl
theorem dX3_markCertified_75 : decode cX3_markCertified 75 = .ok (.goto (-18), 3) := zo_167 (zi_at zh_dX3_markCertified_64_64 11 rfl) (zi_at zh_dX3_markCertified_64_64 12 rfl) (zi_at zh_dX3_markCertified_64_64 13 rfl) rfl
theorem dX3_markCertified_78 : decode cX3_markCertified 78 = .ok (.iload_n 1, 1) := zo_27 (zi_at zh_dX3_markCertified_64_64 14 rfl)
theorem dX3_markCertified_79 : decode cX3_markCertified 79 = .ok (.ireturn, 1) := zo_172 (zi_at zh_dX3_markCertified_64_64 15 rfl)
theorem dX3_weigh_0 : decode cX3_weigh 0 = .ok (.iconst 0, 1) := zo_3 (zi_at zh_dX3_weigh_0_0 0 rfl)
theorem dX3_weigh_1 : decode cX3_weigh 1 = .ok (.istore_n 1, 1) := zo_60 (zi_at zh_dX3_weigh_0_0 1 rfl)
theorem dX3_weigh_2 : decode cX3_weigh 2 = .ok (.iload_n 1, 1) := zo_27 (zi_at zh_dX3_weigh_0_0 2 rfl)
theorem dX3_weigh_3 : decode cX3_weigh 3 = .ok (.bipush 16, 2) := zo_16 (zi_at zh_dX3_weigh_0_0 3 rfl) (zi_at zh_dX3_weigh_0_0 4 rfl) rfl
theorem dX3_weigh_5 : decode cX3_weigh 5 = .ok (.if_icmp .ge 66, 3) := zo_162 (zi_at zh_dX3_weigh_0_0 5 rfl) (zi_at zh_dX3_weigh_0_0 6 rfl) (zi_at zh_dX3_weigh_0_0 7 rfl) rfl
theorem dX3_weigh_8 : decode cX3_weigh 8 = .ok (.aload_n 0, 1) := zo_42 (zi_at zh_dX3_weigh_0_0 8 rfl)
theorem dX3_weigh_9 : decode cX3_weigh 9 = .ok (.getfield 52, 3) := zo_180 (zi_at zh_dX3_weigh_0_0 9 rfl) (zi_at zh_dX3_weigh_0_0 10 rfl) (zi_at zh_dX3_weigh_0_0 11 rfl) rfl
theorem dX3_weigh_12 : decode cX3_weigh 12 = .ok (.iload_n 1, 1) := zo_27 (zi_at zh_dX3_weigh_0_0 12 rfl)
theorem dX3_weigh_13 : decode cX3_weigh 13 = .ok (.iaload, 1) := zo_46 (zi_at zh_dX3_weigh_0_0 13 rfl)
theorem dX3_weigh_14 : decode cX3_weigh 14 = .ok (.ifCond .ne 6, 3) := zo_154 (zi_at zh_dX3_weigh_0_0 14 rfl) (zi_at zh_dX3_weigh_0_0 15 rfl) (zi_at zh_dX3_weigh_14_16 0 rfl) rfl
theorem dX3_weigh_17 : decode cX3_weigh 17 = .ok (.goto 48, 3) := zo_167 (zi_at zh_dX3_weigh_14_16 1 rfl) (zi_at zh_dX3_weigh_14_16 2 rfl) (zi_at zh_dX3_weigh_14_16 3 rfl) rfl
theorem dX3_weigh_20 : decode cX3_weigh 20 = .ok (.aload_n 0, 1) := zo_42 (zi_at zh_dX3_weigh_14_16 4 rfl)
theorem dX3_weigh_21 : decode cX3_weigh 21 = .ok (.iload_n 1, 1) := zo_27 (zi_at zh_dX3_weigh_14_16 5 rfl)
theorem dX3_weigh_22 : decode cX3_weigh 22 = .ok (.invokevirtual 178, 3) := zo_182 (zi_at zh_dX3_weigh_14_16 6 rfl) (zi_at zh_dX3_weigh_14_16 7 rfl) (zi_at zh_dX3_weigh_14_16 8 rfl) rfl
theorem dX3_weigh_25 : decode cX3_weigh 25 = .ok (.istore_n 2, 1) := zo_61 (zi_at zh_dX3_weigh_14_16 9 rfl)
theorem dX3_weigh_26 : decode cX3_weigh 26 = .ok (.iload_n 2, 1) := zo_28 (zi_at zh_dX3_weigh_14_16 10 rfl)
theorem dX3_weigh_27 : decode cX3_weigh 27 = .ok (.iconst (-1), 1) := zo_2 (zi_at zh_dX3_weigh_14_16 11 rfl)
theorem dX3_weigh_28 : decode cX3_weigh 28 = .ok (.if_icmp .eq 37, 3) := zo_159 (zi_at zh_dX3_weigh_14_16 12 rfl) (zi_at zh_dX3_weigh_14_16 13 rfl) (zi_at zh_dX3_weigh_14_16 14 rfl) rfl
theorem dX3_weigh_31 : decode cX3_weigh 31 = .ok (.aload_n 0, 1) := zo_42 (zi_at zh_dX3_weigh_14_16 15 rfl)
theorem dX3_weigh_32 : decode cX3_weigh 32 = .ok (.getfield 52, 3) := zo_180 (zi_at zh_dX3_weigh_32_32 0 rfl) (zi_at zh_dX3_weigh_32_32 1 rfl) (zi_at zh_dX3_weigh_32_32 2 rfl) rfl
theorem dX3_weigh_35 : decode cX3_weigh 35 = .ok (.iload_n 1, 1) := zo_27 (zi_at zh_dX3_weigh_32_32 3 rfl)
theorem dX3_weigh_36 : decode cX3_weigh 36 = .ok (.iconst 1, 1) := zo_4 (zi_at zh_dX3_weigh_32_32 4 rfl)
theorem dX3_weigh_37 : decode cX3_weigh 37 = .ok (.iload_n 2, 1) := zo_28 (zi_at zh_dX3_weigh_32_32 5 rfl)
theorem dX3_weigh_38 : decode cX3_weigh 38 = .ok (.aload_n 0, 1) := zo_42 (zi_at zh_dX3_weigh_32_32 6 rfl)
theorem dX3_weigh_39 : decode cX3_weigh 39 = .ok (.getfield 55, 3) := zo_180 (zi_at zh_dX3_weigh_32_32 7 rfl) (zi_at zh_dX3_weigh_32_32 8 rfl) (zi_at zh_dX3_weigh_32_32 9 rfl) rfl
theorem dX3_weigh_42 : decode cX3_weigh 42 = .ok (.iload_n 1, 1) := zo_27 (zi_at zh_dX3_weigh_32_32 10 rfl)
theorem dX3_weigh_43 : decode cX3_weigh 43 = .ok (.aload_n 0, 1) := zo_42 (zi_at zh_dX3_weigh_32_32 11 rfl)
theorem dX3_weigh_44 : decode cX3_weigh 44 = .ok (.getfield 55, 3) := zo_180 (zi_at zh_dX3_weigh_32_32 12 rfl) (zi_at zh_dX3_weigh_32_32 13 rfl) (zi_at zh_dX3_weigh_32_32 14 rfl) rfl
theorem dX3_weigh_47 : decode cX3_weigh 47 = .ok (.getfield 79, 3) := zo_180 (zi_at zh_dX3_weigh_32_32 15 rfl) (zi_at zh_dX3_weigh_47_48 0 rfl) (zi_at zh_dX3_weigh_47_48 1 rfl) rfl
theorem dX3_weigh_50 : decode cX3_weigh 50 = .ok (.aload_n 0, 1) := zo_42 (zi_at zh_dX3_weigh_47_48 2 rfl)
theorem dX3_weigh_51 : decode cX3_weigh 51 = .ok (.getfield 55, 3) := zo_180 (zi_at zh_dX3_weigh_47_48 3 rfl) (zi_at zh_dX3_weigh_47_48 4 rfl) (zi_at zh_dX3_weigh_47_48 5 rfl) rfl
theorem dX3_weigh_54 : decode cX3_weigh 54 = .ok (.getfield 79, 3) := zo_180 (zi_at zh_dX3_weigh_47_48 6 rfl) (zi_at zh_dX3_weigh_47_48 7 rfl) (zi_at zh_dX3_weigh_47_48 8 rfl) rfl
theorem dX3_weigh_57 : decode cX3_weigh 57 = .ok (.invokevirtual 181, 3) := zo_182 (zi_at zh_dX3_weigh_47_48 9 rfl) (zi_at zh_dX3_weigh_47_48 10 rfl) (zi_at zh_dX3_weigh_47_48 11 rfl) rfl
theorem dX3_weigh_60 : decode cX3_weigh 60 = .ok (.invokestatic 126, 3) := zo_184 (zi_at zh_dX3_weigh_47_48 12 rfl) (zi_at zh_dX3_weigh_47_48 13 rfl) (zi_at zh_dX3_weigh_47_48 14 rfl) rfl
theorem dX3_weigh_63 : decode cX3_weigh 63 = .ok (.iadd, 1) := zo_96 (zi_at zh_dX3_weigh_47_48 15 rfl)
theorem dX3_weigh_64 : decode cX3_weigh 64 = .ok (.iastore, 1) := zo_79 (zi_at zh_dX3_weigh_64_64 0 rfl)
theorem dX3_weigh_65 : decode cX3_weigh 65 = .ok (.iinc 1 1, 3) := zo_132 (zi_at zh_dX3_weigh_64_64 1 rfl) (zi_at zh_dX3_weigh_64_64 2 rfl) (zi_at zh_dX3_weigh_64_64 3 rfl) rfl
theorem dX3_weigh_68 : decode cX3_weigh 68 = .ok (.goto (-66), 3) := zo_167 (zi_at zh_dX3_weigh_64_64 4 rfl) (zi_at zh_dX3_weigh_64_64 5 rfl) (zi_at zh_dX3_weigh_64_64 6 rfl) rfl
theorem dX3_weigh_71 : decode cX3_weigh 71 = .ok (.return_, 1) := zo_177 (zi_at zh_dX3_weigh_64_64 7 rfl)
theorem dX3_drawOut_0 : decode cX3_drawOut 0 = .ok (.iconst 0, 1) := zo_3 (zi_at zh_dX3_drawOut_0_0 0 rfl)
theorem dX3_drawOut_1 : decode cX3_drawOut 1 = .ok (.istore 4, 2) := zo_54 (zi_at zh_dX3_drawOut_0_0 1 rfl) (zi_at zh_dX3_drawOut_0_0 2 rfl)
theorem dX3_drawOut_3 : decode cX3_drawOut 3 = .ok (.iconst 0, 1) := zo_3 (zi_at zh_dX3_drawOut_0_0 3 rfl)
theorem dX3_drawOut_4 : decode cX3_drawOut 4 = .ok (.istore 5, 2) := zo_54 (zi_at zh_dX3_drawOut_0_0 4 rfl) (zi_at zh_dX3_drawOut_0_0 5 rfl)
theorem dX3_drawOut_6 : decode cX3_drawOut 6 = .ok (.iload 5, 2) := zo_21 (zi_at zh_dX3_drawOut_0_0 6 rfl) (zi_at zh_dX3_drawOut_0_0 7 rfl)
theorem dX3_drawOut_8 : decode cX3_drawOut 8 = .ok (.bipush 16, 2) := zo_16 (zi_at zh_dX3_drawOut_0_0 8 rfl) (zi_at zh_dX3_drawOut_0_0 9 rfl) rfl
theorem dX3_drawOut_10 : decode cX3_drawOut 10 = .ok (.if_icmp .ge 21, 3) := zo_162 (zi_at zh_dX3_drawOut_0_0 10 rfl) (zi_at zh_dX3_drawOut_0_0 11 rfl) (zi_at zh_dX3_drawOut_0_0 12 rfl) rfl
theorem dX3_drawOut_13 : decode cX3_drawOut 13 = .ok (.iload 4, 2) := zo_21 (zi_at zh_dX3_drawOut_0_0 13 rfl) (zi_at zh_dX3_drawOut_0_0 14 rfl)
theorem dX3_drawOut_15 : decode cX3_drawOut 15 = .ok (.aload_n 0, 1) := zo_42 (zi_at zh_dX3_drawOut_0_0 15 rfl)
theorem dX3_drawOut_16 : decode cX3_drawOut 16 = .ok (.getfield 52, 3) := zo_180 (zi_at zh_dX3_drawOut_16_16 0 rfl) (zi_at zh_dX3_drawOut_16_16 1 rfl) (zi_at zh_dX3_drawOut_16_16 2 rfl) rfl
theorem dX3_drawOut_19 : decode cX3_drawOut 19 = .ok (.iload 5, 2) := zo_21 (zi_at zh_dX3_drawOut_16_16 3 rfl) (zi_at zh_dX3_drawOut_16_16 4 rfl)
theorem dX3_drawOut_21 : decode cX3_drawOut 21 = .ok (.iaload, 1) := zo_46 (zi_at zh_dX3_drawOut_16_16 5 rfl)
theorem dX3_drawOut_22 : decode cX3_drawOut 22 = .ok (.iadd, 1) := zo_96 (zi_at zh_dX3_drawOut_16_16 6 rfl)
theorem dX3_drawOut_23 : decode cX3_drawOut 23 = .ok (.istore 4, 2) := zo_54 (zi_at zh_dX3_drawOut_16_16 7 rfl) (zi_at zh_dX3_drawOut_16_16 8 rfl)
theorem dX3_drawOut_25 : decode cX3_drawOut 25 = .ok (.iinc 5 1, 3) := zo_132 (zi_at zh_dX3_drawOut_16_16 9 rfl) (zi_at zh_dX3_drawOut_16_16 10 rfl) (zi_at zh_dX3_drawOut_16_16 11 rfl) rfl
theorem dX3_drawOut_28 : decode cX3_drawOut 28 = .ok (.goto (-22), 3) := zo_167 (zi_at zh_dX3_drawOut_16_16 12 rfl) (zi_at zh_dX3_drawOut_16_16 13 rfl) (zi_at zh_dX3_drawOut_16_16 14 rfl) rfl
theorem dX3_drawOut_31 : decode cX3_drawOut 31 = .ok (.lload_n 2, 1) := zo_32 (zi_at zh_dX3_drawOut_16_16 15 rfl)
theorem dX3_drawOut_32 : decode cX3_drawOut 32 = .ok (.lstore 5, 2) := zo_55 (zi_at zh_dX3_drawOut_32_32 0 rfl) (zi_at zh_dX3_drawOut_32_32 1 rfl)
theorem dX3_drawOut_34 : decode cX3_drawOut 34 = .ok (.iconst 0, 1) := zo_3 (zi_at zh_dX3_drawOut_32_32 2 rfl)
theorem dX3_drawOut_35 : decode cX3_drawOut 35 = .ok (.istore 7, 2) := zo_54 (zi_at zh_dX3_drawOut_32_32 3 rfl) (zi_at zh_dX3_drawOut_32_32 4 rfl)
theorem dX3_drawOut_37 : decode cX3_drawOut 37 = .ok (.iconst 0, 1) := zo_3 (zi_at zh_dX3_drawOut_32_32 5 rfl)
theorem dX3_drawOut_38 : decode cX3_drawOut 38 = .ok (.istore 8, 2) := zo_54 (zi_at zh_dX3_drawOut_32_32 6 rfl) (zi_at zh_dX3_drawOut_32_32 7 rfl)
theorem dX3_drawOut_40 : decode cX3_drawOut 40 = .ok (.iload 8, 2) := zo_21 (zi_at zh_dX3_drawOut_32_32 8 rfl) (zi_at zh_dX3_drawOut_32_32 9 rfl)
theorem dX3_drawOut_42 : decode cX3_drawOut 42 = .ok (.iload_n 1, 1) := zo_27 (zi_at zh_dX3_drawOut_32_32 10 rfl)
theorem dX3_drawOut_43 : decode cX3_drawOut 43 = .ok (.if_icmp .ge 80, 3) := zo_162 (zi_at zh_dX3_drawOut_32_32 11 rfl) (zi_at zh_dX3_drawOut_32_32 12 rfl) (zi_at zh_dX3_drawOut_32_32 13 rfl) rfl
theorem dX3_drawOut_46 : decode cX3_drawOut 46 = .ok (.iload 4, 2) := zo_21 (zi_at zh_dX3_drawOut_32_32 14 rfl) (zi_at zh_dX3_drawOut_32_32 15 rfl)
theorem dX3_drawOut_48 : decode cX3_drawOut 48 = .ok (.ifCond .le 75, 3) := zo_158 (zi_at zh_dX3_drawOut_48_48 0 rfl) (zi_at zh_dX3_drawOut_48_48 1 rfl) (zi_at zh_dX3_drawOut_48_48 2 rfl) rfl
theorem dX3_drawOut_51 : decode cX3_drawOut 51 = .ok (.lload 5, 2) := zo_22 (zi_at zh_dX3_drawOut_48_48 3 rfl) (zi_at zh_dX3_drawOut_48_48 4 rfl)
theorem dX3_drawOut_53 : decode cX3_drawOut 53 = .ok (.ldc2_w 185, 3) := zo_20 (zi_at zh_dX3_drawOut_48_48 5 rfl) (zi_at zh_dX3_drawOut_48_48 6 rfl) (zi_at zh_dX3_drawOut_48_48 7 rfl) rfl
theorem dX3_drawOut_56 : decode cX3_drawOut 56 = .ok (.lmul, 1) := zo_105 (zi_at zh_dX3_drawOut_48_48 8 rfl)
theorem dX3_drawOut_57 : decode cX3_drawOut 57 = .ok (.ldc2_w 187, 3) := zo_20 (zi_at zh_dX3_drawOut_48_48 9 rfl) (zi_at zh_dX3_drawOut_48_48 10 rfl) (zi_at zh_dX3_drawOut_48_48 11 rfl) rfl
theorem dX3_drawOut_60 : decode cX3_drawOut 60 = .ok (.ladd, 1) := zo_97 (zi_at zh_dX3_drawOut_48_48 12 rfl)
theorem dX3_drawOut_61 : decode cX3_drawOut 61 = .ok (.lstore 5, 2) := zo_55 (zi_at zh_dX3_drawOut_48_48 13 rfl) (zi_at zh_dX3_drawOut_48_48 14 rfl)
theorem dX3_drawOut_63 : decode cX3_drawOut 63 = .ok (.aload_n 0, 1) := zo_42 (zi_at zh_dX3_drawOut_48_48 15 rfl)
theorem dX3_drawOut_64 : decode cX3_drawOut 64 = .ok (.lload 5, 2) := zo_22 (zi_at zh_dX3_drawOut_64_64 0 rfl) (zi_at zh_dX3_drawOut_64_64 1 rfl)
theorem dX3_drawOut_66 : decode cX3_drawOut 66 = .ok (.bipush 33, 2) := zo_16 (zi_at zh_dX3_drawOut_64_64 2 rfl) (zi_at zh_dX3_drawOut_64_64 3 rfl) rfl
theorem dX3_drawOut_68 : decode cX3_drawOut 68 = .ok (.lushr, 1) := zo_125 (zi_at zh_dX3_drawOut_64_64 4 rfl)
theorem dX3_drawOut_69 : decode cX3_drawOut 69 = .ok (.iload 4, 2) := zo_21 (zi_at zh_dX3_drawOut_64_64 5 rfl) (zi_at zh_dX3_drawOut_64_64 6 rfl)
theorem dX3_drawOut_71 : decode cX3_drawOut 71 = .ok (.i2l, 1) := zo_133 (zi_at zh_dX3_drawOut_64_64 7 rfl)
theorem dX3_drawOut_72 : decode cX3_drawOut 72 = .ok (.lrem, 1) := zo_113 (zi_at zh_dX3_drawOut_64_64 8 rfl)
theorem dX3_drawOut_73 : decode cX3_drawOut 73 = .ok (.l2i, 1) := zo_136 (zi_at zh_dX3_drawOut_64_64 9 rfl)
theorem dX3_drawOut_74 : decode cX3_drawOut 74 = .ok (.invokevirtual 189, 3) := zo_182 (zi_at zh_dX3_drawOut_64_64 10 rfl) (zi_at zh_dX3_drawOut_64_64 11 rfl) (zi_at zh_dX3_drawOut_64_64 12 rfl) rfl
theorem dX3_drawOut_77 : decode cX3_drawOut 77 = .ok (.istore 9, 2) := zo_54 (zi_at zh_dX3_drawOut_64_64 13 rfl) (zi_at zh_dX3_drawOut_64_64 14 rfl)
theorem dX3_drawOut_79 : decode cX3_drawOut 79 = .ok (.iload 9, 2) := zo_21 (zi_at zh_dX3_drawOut_64_64 15 rfl) (zi_at zh_dX3_drawOut_79_80 0 rfl)
theorem dX3_drawOut_81 : decode cX3_drawOut 81 = .ok (.iconst (-1), 1) := zo_2 (zi_at zh_dX3_drawOut_79_80 1 rfl)
theorem dX3_drawOut_82 : decode cX3_drawOut 82 = .ok (.if_icmp .ne 6, 3) := zo_160 (zi_at zh_dX3_drawOut_79_80 2 rfl) (zi_at zh_dX3_drawOut_79_80 3 rfl) (zi_at zh_dX3_drawOut_79_80 4 rfl) rfl
theorem dX3_drawOut_88 : decode cX3_drawOut 88 = .ok (.iload 7, 2) := zo_21 (zi_at zh_dX3_drawOut_79_80 8 rfl) (zi_at zh_dX3_drawOut_79_80 9 rfl)
theorem dX3_drawOut_90 : decode cX3_drawOut 90 = .ok (.iconst 1, 1) := zo_4 (zi_at zh_dX3_drawOut_79_80 10 rfl)
theorem dX3_drawOut_91 : decode cX3_drawOut 91 = .ok (.iload 9, 2) := zo_21 (zi_at zh_dX3_drawOut_79_80 11 rfl) (zi_at zh_dX3_drawOut_79_80 12 rfl)
theorem dX3_drawOut_93 : decode cX3_drawOut 93 = .ok (.ishl, 1) := zo_120 (zi_at zh_dX3_drawOut_79_80 13 rfl)
theorem dX3_drawOut_94 : decode cX3_drawOut 94 = .ok (.ior, 1) := zo_128 (zi_at zh_dX3_drawOut_79_80 14 rfl)
theorem dX3_drawOut_95 : decode cX3_drawOut 95 = .ok (.istore 7, 2) := zo_54 (zi_at zh_dX3_drawOut_79_80 15 rfl) (zi_at zh_dX3_drawOut_95_96 0 rfl)
theorem dX3_drawOut_97 : decode cX3_drawOut 97 = .ok (.iload 4, 2) := zo_21 (zi_at zh_dX3_drawOut_95_96 1 rfl) (zi_at zh_dX3_drawOut_95_96 2 rfl)
theorem dX3_drawOut_99 : decode cX3_drawOut 99 = .ok (.aload_n 0, 1) := zo_42 (zi_at zh_dX3_drawOut_95_96 3 rfl)
theorem dX3_drawOut_100 : decode cX3_drawOut 100 = .ok (.getfield 52, 3) := zo_180 (zi_at zh_dX3_drawOut_95_96 4 rfl) (zi_at zh_dX3_drawOut_95_96 5 rfl) (zi_at zh_dX3_drawOut_95_96 6 rfl) rfl
theorem dX3_drawOut_103 : decode cX3_drawOut 103 = .ok (.iload 9, 2) := zo_21 (zi_at zh_dX3_drawOut_95_96 7 rfl) (zi_at zh_dX3_drawOut_95_96 8 rfl)
theorem dX3_drawOut_105 : decode cX3_drawOut 105 = .ok (.iaload, 1) := zo_46 (zi_at zh_dX3_drawOut_95_96 9 rfl)
theorem dX3_drawOut_106 : decode cX3_drawOut 106 = .ok (.isub, 1) := zo_100 (zi_at zh_dX3_drawOut_95_96 10 rfl)
theorem dX3_drawOut_107 : decode cX3_drawOut 107 = .ok (.istore 4, 2) := zo_54 (zi_at zh_dX3_drawOut_95_96 11 rfl) (zi_at zh_dX3_drawOut_95_96 12 rfl)
theorem dX3_drawOut_109 : decode cX3_drawOut 109 = .ok (.aload_n 0, 1) := zo_42 (zi_at zh_dX3_drawOut_95_96 13 rfl)
theorem dX3_drawOut_110 : decode cX3_drawOut 110 = .ok (.getfield 52, 3) := zo_180 (zi_at zh_dX3_drawOut_95_96 14 rfl) (zi_at zh_dX3_drawOut_95_96 15 rfl) (zi_at zh_dX3_drawOut_110_112 0 rfl) rfl
theorem dX3_drawOut_113 : decode cX3_drawOut 113 = .ok (.iload 9, 2) := zo_21 (zi_at zh_dX3_drawOut_110_112 1 rfl) (zi_at zh_dX3_drawOut_110_112 2 rfl)
theorem dX3_drawOut_115 : decode cX3_drawOut 115 = .ok (.iconst 0, 1) := zo_3 (zi_at zh_dX3_drawOut_110_112 3 rfl)
theorem dX3_drawOut_116 : decode cX3_drawOut 116 = .ok (.iastore, 1) := zo_79 (zi_at zh_dX3_drawOut_110_112 4 rfl)
theorem dX3_drawOut_117 : decode cX3_drawOut 117 = .ok (.iinc 8 1, 3) := zo_132 (zi_at zh_dX3_drawOut_110_112 5 rfl) (zi_at zh_dX3_drawOut_110_112 6 rfl) (zi_at zh_dX3_drawOut_110_112 7 rfl) rfl
theorem dX3_drawOut_120 : decode cX3_drawOut 120 = .ok (.goto (-80), 3) := zo_167 (zi_at zh_dX3_drawOut_110_112 8 rfl) (zi_at zh_dX3_drawOut_110_112 9 rfl) (zi_at zh_dX3_drawOut_110_112 10 rfl) rfl
theorem dX3_drawOut_123 : decode cX3_drawOut 123 = .ok (.iload 7, 2) := zo_21 (zi_at zh_dX3_drawOut_110_112 11 rfl) (zi_at zh_dX3_drawOut_110_112 12 rfl)
theorem dX3_drawOut_125 : decode cX3_drawOut 125 = .ok (.ireturn, 1) := zo_172 (zi_at zh_dX3_drawOut_110_112 13 rfl)
theorem dX3_boatWithin_0 : decode cX3_boatWithin 0 = .ok (.iload_n 1, 1) := zo_27 (zi_at zh_dX3_boatWithin_0_0 0 rfl)
theorem dX3_boatWithin_1 : decode cX3_boatWithin 1 = .ok (.istore_n 2, 1) := zo_61 (zi_at zh_dX3_boatWithin_0_0 1 rfl)
theorem dX3_boatWithin_2 : decode cX3_boatWithin 2 = .ok (.iconst 0, 1) := zo_3 (zi_at zh_dX3_boatWithin_0_0 2 rfl)
theorem dX3_boatWithin_3 : decode cX3_boatWithin 3 = .ok (.istore_n 3, 1) := zo_62 (zi_at zh_dX3_boatWithin_0_0 3 rfl)
theorem dX3_boatWithin_4 : decode cX3_boatWithin 4 = .ok (.iload_n 3, 1) := zo_29 (zi_at zh_dX3_boatWithin_0_0 4 rfl)
theorem dX3_boatWithin_5 : decode cX3_boatWithin 5 = .ok (.bipush 16, 2) := zo_16 (zi_at zh_dX3_boatWithin_0_0 5 rfl) (zi_at zh_dX3_boatWithin_0_0 6 rfl) rfl
theorem dX3_boatWithin_7 : decode cX3_boatWithin 7 = .ok (.if_icmp .ge 30, 3) := zo_162 (zi_at zh_dX3_boatWithin_0_0 7 rfl) (zi_at zh_dX3_boatWithin_0_0 8 rfl) (zi_at zh_dX3_boatWithin_0_0 9 rfl) rfl
theorem dX3_boatWithin_10 : decode cX3_boatWithin 10 = .ok (.iload_n 2, 1) := zo_28 (zi_at zh_dX3_boatWithin_0_0 10 rfl)
theorem dX3_boatWithin_11 : decode cX3_boatWithin 11 = .ok (.aload_n 0, 1) := zo_42 (zi_at zh_dX3_boatWithin_0_0 11 rfl)
theorem dX3_boatWithin_12 : decode cX3_boatWithin 12 = .ok (.getfield 52, 3) := zo_180 (zi_at zh_dX3_boatWithin_0_0 12 rfl) (zi_at zh_dX3_boatWithin_0_0 13 rfl) (zi_at zh_dX3_boatWithin_0_0 14 rfl) rfl
theorem dX3_boatWithin_15 : decode cX3_boatWithin 15 = .ok (.iload_n 3, 1) := zo_29 (zi_at zh_dX3_boatWithin_0_0 15 rfl)
theorem dX3_boatWithin_16 : decode cX3_boatWithin 16 = .ok (.iaload, 1) := zo_46 (zi_at zh_dX3_boatWithin_16_16 0 rfl)
theorem dX3_boatWithin_17 : decode cX3_boatWithin 17 = .ok (.if_icmp .ge 5, 3) := zo_162 (zi_at zh_dX3_boatWithin_16_16 1 rfl) (zi_at zh_dX3_boatWithin_16_16 2 rfl) (zi_at zh_dX3_boatWithin_16_16 3 rfl) rfl
theorem dX3_boatWithin_20 : decode cX3_boatWithin 20 = .ok (.iload_n 3, 1) := zo_29 (zi_at zh_dX3_boatWithin_16_16 4 rfl)
theorem dX3_boatWithin_21 : decode cX3_boatWithin 21 = .ok (.ireturn, 1) := zo_172 (zi_at zh_dX3_boatWithin_16_16 5 rfl)
theorem dX3_boatWithin_22 : decode cX3_boatWithin 22 = .ok (.iload_n 2, 1) := zo_28 (zi_at zh_dX3_boatWithin_16_16 6 rfl)
theorem dX3_boatWithin_23 : decode cX3_boatWithin 23 = .ok (.aload_n 0, 1) := zo_42 (zi_at zh_dX3_boatWithin_16_16 7 rfl)
theorem dX3_boatWithin_24 : decode cX3_boatWithin 24 = .ok (.getfield 52, 3) := zo_180 (zi_at zh_dX3_boatWithin_16_16 8 rfl) (zi_at zh_dX3_boatWithin_16_16 9 rfl) (zi_at zh_dX3_boatWithin_16_16 10 rfl) rfl
theorem dX3_boatWithin_27 : decode cX3_boatWithin 27 = .ok (.iload_n 3, 1) := zo_29 (zi_at zh_dX3_boatWithin_16_16 11 rfl)
theorem dX3_boatWithin_28 : decode cX3_boatWithin 28 = .ok (.iaload, 1) := zo_46 (zi_at zh_dX3_boatWithin_16_16 12 rfl)
theorem dX3_boatWithin_29 : decode cX3_boatWithin 29 = .ok (.isub, 1) := zo_100 (zi_at zh_dX3_boatWithin_16_16 13 rfl)
theorem dX3_boatWithin_30 : decode cX3_boatWithin 30 = .ok (.istore_n 2, 1) := zo_61 (zi_at zh_dX3_boatWithin_16_16 14 rfl)
theorem dX3_boatWithin_31 : decode cX3_boatWithin 31 = .ok (.iinc 3 1, 3) := zo_132 (zi_at zh_dX3_boatWithin_16_16 15 rfl) (zi_at zh_dX3_boatWithin_31_32 0 rfl) (zi_at zh_dX3_boatWithin_31_32 1 rfl) rfl
theorem dX3_boatWithin_34 : decode cX3_boatWithin 34 = .ok (.goto (-30), 3) := zo_167 (zi_at zh_dX3_boatWithin_31_32 2 rfl) (zi_at zh_dX3_boatWithin_31_32 3 rfl) (zi_at zh_dX3_boatWithin_31_32 4 rfl) rfl
theorem dX3_boatWithin_37 : decode cX3_boatWithin 37 = .ok (.iconst (-1), 1) := zo_2 (zi_at zh_dX3_boatWithin_31_32 5 rfl)
theorem dX3_boatWithin_38 : decode cX3_boatWithin 38 = .ok (.ireturn, 1) := zo_172 (zi_at zh_dX3_boatWithin_31_32 6 rfl)
theorem dX12_draw_0 : decode cX12_draw 0 = .ok (.iload_n 1, 1) := zo_27 (zi_at zh_dX12_draw_0_0 0 rfl)
theorem dX12_draw_1 : decode cX12_draw 1 = .ok (.iconst 1, 1) := zo_4 (zi_at zh_dX12_draw_0_0 1 rfl)
theorem dX12_draw_2 : decode cX12_draw 2 = .ok (.if_icmp .lt 14, 3) := zo_161 (zi_at zh_dX12_draw_0_0 2 rfl) (zi_at zh_dX12_draw_0_0 3 rfl) (zi_at zh_dX12_draw_0_0 4 rfl) rfl
theorem dX12_draw_5 : decode cX12_draw 5 = .ok (.iload_n 1, 1) := zo_27 (zi_at zh_dX12_draw_0_0 5 rfl)
theorem dX12_draw_6 : decode cX12_draw 6 = .ok (.aload_n 0, 1) := zo_42 (zi_at zh_dX12_draw_0_0 6 rfl)
theorem dX12_draw_7 : decode cX12_draw 7 = .ok (.getfield 51, 3) := zo_180 (zi_at zh_dX12_draw_0_0 7 rfl) (zi_at zh_dX12_draw_0_0 8 rfl) (zi_at zh_dX12_draw_0_0 9 rfl) rfl
theorem dX12_draw_10 : decode cX12_draw 10 = .ok (.invokevirtual 282, 3) := zo_182 (zi_at zh_dX12_draw_0_0 10 rfl) (zi_at zh_dX12_draw_0_0 11 rfl) (zi_at zh_dX12_draw_0_0 12 rfl) rfl
theorem dX12_draw_13 : decode cX12_draw 13 = .ok (.if_icmp .le 5, 3) := zo_164 (zi_at zh_dX12_draw_0_0 13 rfl) (zi_at zh_dX12_draw_0_0 14 rfl) (zi_at zh_dX12_draw_0_0 15 rfl) rfl
theorem dX12_draw_16 : decode cX12_draw 16 = .ok (.iconst (-1), 1) := zo_2 (zi_at zh_dX12_draw_16_16 0 rfl)
theorem dX12_draw_17 : decode cX12_draw 17 = .ok (.ireturn, 1) := zo_172 (zi_at zh_dX12_draw_16_16 1 rfl)
theorem dX12_draw_18 : decode cX12_draw 18 = .ok (.aload_n 0, 1) := zo_42 (zi_at zh_dX12_draw_16_16 2 rfl)
theorem dX12_draw_19 : decode cX12_draw 19 = .ok (.getfield 51, 3) := zo_180 (zi_at zh_dX12_draw_16_16 3 rfl) (zi_at zh_dX12_draw_16_16 4 rfl) (zi_at zh_dX12_draw_16_16 5 rfl) rfl
theorem dX12_draw_22 : decode cX12_draw 22 = .ok (.invokevirtual 249, 3) := zo_182 (zi_at zh_dX12_draw_16_16 6 rfl) (zi_at zh_dX12_draw_16_16 7 rfl) (zi_at zh_dX12_draw_16_16 8 rfl) rfl
theorem dX12_draw_25 : decode cX12_draw 25 = .ok (.aload_n 0, 1) := zo_42 (zi_at zh_dX12_draw_16_16 9 rfl)
theorem dX12_draw_26 : decode cX12_draw 26 = .ok (.getfield 51, 3) := zo_180 (zi_at zh_dX12_draw_16_16 10 rfl) (zi_at zh_dX12_draw_16_16 11 rfl) (zi_at zh_dX12_draw_16_16 12 rfl) rfl
theorem dX12_draw_29 : decode cX12_draw 29 = .ok (.invokevirtual 285, 3) := zo_182 (zi_at zh_dX12_draw_16_16 13 rfl) (zi_at zh_dX12_draw_16_16 14 rfl) (zi_at zh_dX12_draw_16_16 15 rfl) rfl
theorem dX12_draw_32 : decode cX12_draw 32 = .ok (.aload_n 0, 1) := zo_42 (zi_at zh_dX12_draw_32_32 0 rfl)
theorem dX12_draw_33 : decode cX12_draw 33 = .ok (.getfield 51, 3) := zo_180 (zi_at zh_dX12_draw_32_32 1 rfl) (zi_at zh_dX12_draw_32_32 2 rfl) (zi_at zh_dX12_draw_32_32 3 rfl) rfl
theorem dX12_draw_36 : decode cX12_draw 36 = .ok (.iload_n 1, 1) := zo_27 (zi_at zh_dX12_draw_32_32 4 rfl)
theorem dX12_draw_37 : decode cX12_draw 37 = .ok (.lload_n 2, 1) := zo_32 (zi_at zh_dX12_draw_32_32 5 rfl)
theorem dX12_draw_38 : decode cX12_draw 38 = .ok (.invokevirtual 288, 3) := zo_182 (zi_at zh_dX12_draw_32_32 6 rfl) (zi_at zh_dX12_draw_32_32 7 rfl) (zi_at zh_dX12_draw_32_32 8 rfl) rfl
theorem dX12_draw_41 : decode cX12_draw 41 = .ok (.ireturn, 1) := zo_172 (zi_at zh_dX12_draw_32_32 9 rfl)
theorem hz_yX3_boatWithin_1 : yX3_boatWithin.cls ≠ "java/lang/invoke/MethodHandle" ∧ yX3_boatWithin.cls ≠ "java/lang/invoke/VarHandle" ∧ (parseMethodDescriptor yX3_boatWithin.desc).map (fun d => d.parameters.length) = some 1 := by decide +kernel
theorem hz_yX3_markCertified_0 : yX3_markCertified.cls ≠ "java/lang/invoke/MethodHandle" ∧ yX3_markCertified.cls ≠ "java/lang/invoke/VarHandle" ∧ (parseMethodDescriptor yX3_markCertified.desc).map (fun d => d.parameters.length) = some 0 := by decide +kernel
theorem hz_yX3_weigh_0 : yX3_weigh.cls ≠ "java/lang/invoke/MethodHandle" ∧ yX3_weigh.cls ≠ "java/lang/invoke/VarHandle" ∧ (parseMethodDescriptor yX3_weigh.desc).map (fun d => d.parameters.length) = some 0 := by decide +kernel
theorem hz_yX3_drawOut_2 : yX3_drawOut.cls ≠ "java/lang/invoke/MethodHandle" ∧ yX3_drawOut.cls ≠ "java/lang/invoke/VarHandle" ∧ (parseMethodDescriptor yX3_drawOut.desc).map (fun d => d.parameters.length) = some 2 := by decide +kernel

def v_fill56X : List Cond := .code yJ7_fill_53178 cJ7_fill_53178 4 none :: vA
abbrev rm_fill56X : Room := { frames := 0, cells := 0, slots := 0, locals := 0 }
def w_fill56X : Nat → Nat → Bool := wl [56] []
set_option maxHeartbeats 4000000 in
set_option maxRecDepth 100000 in
theorem q_fill56X (l : Launch) (dC : Nat → ClassId) (dI : Nat → Nat → Nat) (cT : Nat → ClassId) (cf : Nat → Nat) (hC : CF cf) (ad : Nat → Nat) (E : Nat → va_E) (sz : Nat) (a1 : Int32) (hI0 : IXL cT (shC cf) (spC cf) (LC cf) ad E) (hh0 : 0 ≤ a1.toInt ∧ a1.toInt ≤ 2001) : Met l yJ7_fill_53178 v_fill56X rm_fill56X (va_Pc [.ref (ad 56), .int a1] (HWL dC dI (TYC cT) cf ad E sz)) (va_Qv (S := Nat → va_E) (fun u => IXL cT (shC cf) (spC cf) (LC cf) ad u ∧ Kp w_fill56X E u ∧ ((∀ j9, j9 < 16 → xi (u 56) j9 = a1))) (HBL dC dI (LC cf) ad) (va_A (WL (LC cf) ad E) sz)) 0 0 (va_A (WL (LC cf) ad E) sz) := by
  obtain ⟨⟨hc0, hc1, hc2, hc3, hc4, hc5⟩, hcr⟩ := id hC
  refine Met.ofW (cc := cJ7_fill_53178) (maxL := 4) (ret := none) (by decide) rfl ?_
  intro p e s m args below meth c s₁ B hml hv
  obtain ⟨hargs, hsz, hP, hK, hD0, hEV⟩ := hv
  subst hsz
  have hx := B.exec
  have hb := B.bytes
  have hr := B.returns
  have hts := atoms_spec (ws := v_fill56X) B.pre
  have hown : s.vm.findClass RJ7 = some m.cls := findClass_of_methodNamed B.named
  have hlocks := B.notSynchronized
  generalize hAe : va_A (WL (LC cf) ad E) s.heap.size = A at hEV ⊢
  have hA : ∀ q : Nat, s.heap.size ≤ q → A q := fun q h => by rw [← hAe]; exact Or.inr h
  have hD : va_D A (WL (LC cf) ad E) := by rw [← hAe]; exact hD0.self
  have hS : va_S A s.heap s.heap [] := va_S.rf
  have hI := hI0
  have hKp : Kp w_fill56X E E := Kp.rf
  have hl := lv_entry ([.ref (ad 56), .int a1]) (n := 4) (Nat.le_of_ble_eq_true rfl)
  obtain ⟨Q, hQ⟩ : ∃ Q, Q = MQ below (va_Qv (S := Nat → va_E) (fun u => IXL cT (shC cf) (spC cf) (LC cf) ad u ∧ Kp w_fill56X E u ∧ ((∀ j9, j9 < 16 → xi (u 56) j9 = a1))) (HBL dC dI (LC cf) ad) (A)) args s 0 0 (A) := ⟨_, rfl⟩
  rw [← hQ, show entryFrame m args 4 = _ from (congrArg (fun z => entryFrame m z 4) hargs).trans (lg_entry_eq _ _ _)]
  generalize (lg_sl ([.ref (ad 56), .int a1]) ++ List.replicate (4 - (lg_sl ([.ref (ad 56), .int a1])).length) Slot.unset).toArray = ls at hl ⊢
  have hl : lv_has ls 4 [(0, .ref (ad 56)), (1, .int a1)] := hl
  refine lv_iconst (v := 0) hx hb dJ7_fill_53178_0 (by decide) ?_
  refine lv_istore_n (lv' := [(2, .int 0), (0, .ref (ad 56)), (1, .int a1)]) hx hb dJ7_fill_53178_1 rfl hl (by decide) rfl (fun ls hl => ?_)
  refine lv_aload_n hx hb dJ7_fill_53178_2 rfl (lv_at hl 1 rfl) ?_
  refine va_alen (v := 16) hx hb hK hP (posL 56 (LC cf)) 0 (hI.ar 56 (mF 56 rfl) rfl) rfl rfl dJ7_fill_53178_3 ?_
  refine lv_istore_n (lv' := [(3, .int 16), (2, .int 0), (0, .ref (ad 56)), (1, .int a1)]) hx hb dJ7_fill_53178_4 rfl hl (by decide) rfl (fun ls hl => ?_)
  have hL5 : ∀ d : Nat, ∀ (v5_2 : Int32) (E5_ : Nat → va_E) (H : Heap) (locs : List Loc) (ls : Array Slot), 0 ≤ v5_2.toInt ∧ v5_2.toInt ≤ 16 → (∀ j9, j9 < v5_2.toNatClampNeg → xi (E5_ 56) j9 = a1) → 16 - v5_2.toInt < (d : Int) → IXL cT (shC cf) (spC cf) (LC cf) ad E5_ → Kp w_fill56X E E5_ → va_P (dC, dI) vwCl (WL (LC cf) ad E5_) H → va_S A s.heap H locs → lv_has ls 4 [(3, .int 16), (2, .int v5_2), (0, .ref (ad 56)), (1, .int a1)] → W p l e (headSpec v_fill56X rm_fill56X).room s m args below meth c H locs 0 0 Q (F0 m 5 ls []) := by
    intro d
    induction d with
    | zero =>
      intro v5_2 E5_ H locs ls hv5_2 hx5_0 hx5_1 hI hKp hP hS hl
      exact absurd hx5_1 (by first | exact ms_zu hv5_2.2 | omega)
    | succ d ih5 =>
      intro v5_2 E5_ H locs ls hv5_2 hx5_0 hx5_1 hI hKp hP hS hl
      refine lv_iload_n hx hb dJ7_fill_53178_5 rfl (lv_at hl 1 rfl) ?_
      refine lv_iload_n hx hb dJ7_fill_53178_6 rfl (lv_at hl 0 rfl) ?_
      refine lv_icmp_ge (tgt := 20) hx hb dJ7_fill_53178_7 (by decide) (fun c1 => ?_) (fun c1 => ?_)
      · --7 taken
        have t2 : (16 : Int) ≤ v5_2.toInt := ti_le c1
        have i3 : 16 ≤ v5_2.toInt ∧ v5_2.toInt ≤ 16 := iv_le_r t2 (il_ 16) hv5_2 (by decide)
        rw [hQ]
        exact W.vret hx hb hr (fun t ht hW => ⟨⟨E5_, rfl, ⟨hI, hKp, fun j9 hj9 => hx5_0 j9 (by rw [tn_]; omega)⟩, by show va_P (dC, dI) vwCl (WL (LC cf) ad E5_) t.heap; rw [ht]; exact hP⟩, hS.F ht⟩) hS.2.2 dJ7_fill_53178_20
      · --7 not
        have t4 : v5_2.toInt < 16 := ti_nle c1
        have i5 : 0 ≤ v5_2.toInt ∧ v5_2.toInt ≤ 15 := iv_lt_l t4 hv5_2 (il_ 16) (by decide)
        refine lv_aload_n hx hb dJ7_fill_53178_10 rfl (lv_at hl 2 rfl) ?_
        refine lv_iload_n hx hb dJ7_fill_53178_11 rfl (lv_at hl 1 rfl) ?_
        refine lv_iload_n hx hb dJ7_fill_53178_12 rfl (lv_at hl 3 rfl) ?_
        have n6 : vp_in v5_2 16 := (iv_in (n := 16) i5 (by decide))
        refine th_iastL hx hb hK hP (WL_D hD) hS hI 56 (mF 56 rfl) rfl rfl n6 (okI rfl hh0) dJ7_fill_53178_13 (fun H locs E7 pw8 hI hP hS => ?_)
        have hKp := hKp.pw pw8 rfl
        obtain ⟨y9, ey9⟩ : ∃ y : Int32, y = v5_2 + (1 : Int32) := ⟨_, rfl⟩
        obtain ⟨ty9, iy9⟩ := ti_add (e := 1) (f := 16) i5 ln_1 ey9 (by decide)
        have ty9 : y9.toInt = v5_2.toInt + 1 := ty9
        have iy9 : 1 ≤ y9.toInt ∧ y9.toInt ≤ 16 := iy9
        refine lv_iinc (v := y9) (lv' := [(2, .int y9), (3, .int 16), (0, .ref (ad 56)), (1, .int a1)]) hx hb dJ7_fill_53178_14 hl (k := 1) rfl (by rw [ey9]; rfl) (by decide) rfl (fun ls hl => ?_)
        refine lv_goto (tgt := 5) hx hb dJ7_fill_53178_17 (by decide) ?_
        exact ih5 y9 E7 _ _ _ (iv_w iy9 (by decide)) (fl_s hx5_0 pw8 ty9 (by omega)) (by first | exact ms_su hx5_1 ty9 (by decide) | omega) hI hKp hP hS (lv_sub hl [1, 0, 2, 3] rfl)
  exact hL5 (17) (0 : Int32) E _ _ _ (iv_w ln_0 (by decide)) (fun j9 hj9 => absurd hj9 (by rw [tn_]; exact Nat.not_lt_zero _)) (by have h9 := ln_0; first | exact ms_bu h9.1 (by decide) | omega) hI hKp hP hS (lv_sub hl [0, 1, 2, 3] rfl)
def v_markX : List Cond := .code yX3_markCertified cX3_markCertified 3 (some .int) :: vA
abbrev rm_markX : Room := { frames := 3, cells := 0, slots := 0, locals := 120 }
def w_markX : Nat → Nat → Bool := wl [56] []
set_option maxHeartbeats 4000000 in
set_option maxRecDepth 100000 in
theorem q_markX (l : Launch) (dC : Nat → ClassId) (dI : Nat → Nat → Nat) (cT : Nat → ClassId) (cf : Nat → Nat) (hC : CF cf) (ad : Nat → Nat) (E : Nat → va_E) (sz : Nat)  (hI0 : IXL cT (shC cf) (spC cf) (LC cf) ad E)  : Met l yX3_markCertified v_markX rm_markX (va_Pc [.ref (ad 6)] (HWL dC dI (TYC cT) cf ad E sz)) (va_Qi (S := Nat → va_E) (fun r u => IXL cT (shC cf) (spC cf) (LC cf) ad u ∧ Kp w_markX E u ∧ ((0 ≤ r.toInt ∧ r.toInt ≤ 16) ∧ (MkR (cxC cf E) (xi (u 56))) ∧ (CnR (cxC cf E) 16 r.toInt))) (HBL dC dI (LC cf) ad) (va_A (WL (LC cf) ad E) sz)) 0 0 (va_A (WL (LC cf) ad E) sz) := by
  obtain ⟨⟨hc0, hc1, hc2, hc3, hc4, hc5⟩, hcr⟩ := id hC
  refine Met.ofW (cc := cX3_markCertified) (maxL := 3) (ret := (some .int)) (by decide) rfl ?_
  intro p e s m args below meth c s₁ B hml hv
  obtain ⟨hargs, hsz, hP, hK, hD0, hEV⟩ := hv
  subst hsz
  have hx := B.exec
  have hb := B.bytes
  have hr := B.returns
  have hts := atoms_spec (ws := v_markX) B.pre
  have hown : s.vm.findClass RX3 = some m.cls := findClass_of_methodNamed B.named
  have hlocks := B.notSynchronized
  have hinX0 : ∀ w ∈ u_ws RX0 TX0 11, w ∈ v_markX := fun w h => vA_in _ w (in_X0 w h)
  have hinX1 : ∀ w ∈ u_ws RX1 TX1 6, w ∈ v_markX := fun w h => vA_in _ w (in_X1 w h)
  have hinX3 : ∀ w ∈ u_ws RX3 TX3 18, w ∈ v_markX := fun w h => vA_in _ w (in_X3 w h)
  generalize hAe : va_A (WL (LC cf) ad E) s.heap.size = A at hEV ⊢
  have hA : ∀ q : Nat, s.heap.size ≤ q → A q := fun q h => by rw [← hAe]; exact Or.inr h
  have hD : va_D A (WL (LC cf) ad E) := by rw [← hAe]; exact hD0.self
  have hS : va_S A s.heap s.heap [] := va_S.rf
  have hI := hI0
  have hKp : Kp w_markX E E := Kp.rf
  have hl := lv_entry ([.ref (ad 6)]) (n := 3) (Nat.le_of_ble_eq_true rfl)
  obtain ⟨Q, hQ⟩ : ∃ Q, Q = MQ below (va_Qi (S := Nat → va_E) (fun r u => IXL cT (shC cf) (spC cf) (LC cf) ad u ∧ Kp w_markX E u ∧ ((0 ≤ r.toInt ∧ r.toInt ≤ 16) ∧ (MkR (cxC cf E) (xi (u 56))) ∧ (CnR (cxC cf E) 16 r.toInt))) (HBL dC dI (LC cf) ad) (A)) args s 0 0 (A) := ⟨_, rfl⟩
  rw [← hQ, show entryFrame m args 3 = _ from (congrArg (fun z => entryFrame m z 3) hargs).trans (lg_entry_eq _ _ _)]
  generalize (lg_sl ([.ref (ad 6)]) ++ List.replicate (3 - (lg_sl ([.ref (ad 6)])).length) Slot.unset).toArray = ls at hl ⊢
  have hl : lv_has ls 3 [(0, .ref (ad 6))] := hl
  have z0z : (0 : Int32).toInt = 0 := rfl
  refine lv_aload_n hx hb dX3_markCertified_0 rfl (lv_at hl 0 rfl) ?_
  refine th_getL (ci := 4) (C := RX3) (T := TX3) (N := 18) (v := .ref (ad 56)) hx hb hts hinX3 hown hK hP hI 6 (mF 6 rfl) rfl rfl 17 (Nat.le_of_ble_eq_true rfl) (hts _ (vA_in _ _ (in_16 _ (zs16 (zs16 (zs4 (zs1 (zs0)))))))) (fun _ h9 => h9) (hI.fr 6 (mF 6 rfl) rfl (Nat.le_of_ble_eq_true rfl) 56 rfl) dX3_markCertified_1 ?_
  refine lv_iconst (v := 0) hx hb dX3_markCertified_4 (by decide) ?_
  refine th_vL (va_runS (As := [.ref (ad 56), .int 0]) (rest := []) ⟨hx, hb, hml, hown, hts⟩ (q_fill56X l dC dI cT cf hC ad E s.heap.size (0 : Int32) hI (iv_w ln_0 (by decide))) (va_cwS 2 hts (gi_S (in_17 _ (zs1 (zs0))) (in_5 _ (zs16 (zs4 (zs4 (zs1 (zs1 (zs0))))))) (in_2 _ (zs16 (zs4 (zs1 (zs1 (zs0)))))) (in_2 _ (zs16 (zs16 (zs4 (zs1 (zs1 (zs1 (zs0))))))))) rfl rfl rfl hz_yJ7_fill_53178_2 ⟨Nat.le_of_ble_eq_true rfl, Nat.le_of_ble_eq_true rfl⟩) ⟨HWL_bl, (HWL_wi hP hK (WL_D hD) hS hA hEV)⟩ rfl rfl hl.1 rfl (lv_room (Nat.le_of_ble_eq_true rfl)) dX3_markCertified_5 ⟨Nat.le_of_ble_eq_true rfl, Nat.le_of_ble_eq_true rfl⟩) (WL_D hD) hS hA (fun E2 H locs hw hP hS => ?_)
  obtain ⟨hI, kq3, hw⟩ := hw
  have hKb := hKp
  have hKp := hKp.tr kq3 (wl_sub rfl rfl)
  have f4 := hw
  obtain ⟨g5, hg5⟩ : ∃ g, xi (E2 56) = g := ⟨_, rfl⟩
  have k6 : ∀ j9, j9 < 16 → g5 j9 = 0 := fun j9 h9 => by rw [show g5 = xi (E2 56) from (hg5).symm]; exact f4 j9 h9
  refine lv_iconst (v := 0) hx hb dX3_markCertified_8 (by decide) ?_
  refine lv_istore_n (lv' := [(1, .int 0), (0, .ref (ad 6))]) hx hb dX3_markCertified_9 rfl hl (by decide) rfl (fun ls hl => ?_)
  have hL10 : ∀ d : Nat, ∀ (g10_56 : Nat → Int32) (v10_1 : Int32) (E10_ : Nat → va_E) (H : Heap) (locs : List Loc) (ls : Array Slot), 0 ≤ v10_1.toInt ∧ v10_1.toInt ≤ 80 → MkR (cxK E v10_1.toNatClampNeg) g10_56 → v10_1.toInt ≤ ((cf 0 : Nat) : Int) → 80 - v10_1.toInt < (d : Int) → IXL cT (shC cf) (spC cf) (LC cf) ad E10_ → Kp w_markX E E10_ → xi (E10_ 56) = g10_56 → va_P (dC, dI) vwCl (WL (LC cf) ad E10_) H → va_S A s.heap H locs → lv_has ls 3 [(1, .int v10_1), (0, .ref (ad 6))] → W p l e (headSpec v_markX rm_markX).room s m args below meth c H locs 0 0 Q (F0 m 10 ls []) := by
    intro d
    induction d with
    | zero =>
      intro g10_56 v10_1 E10_ H locs ls hv10_1 hx10_0 hx10_1 hx10_2 hI hKp hr10_56 hP hS hl
      exact absurd hx10_2 (by first | exact ms_zu hv10_1.2 | omega)
    | succ d ih10 =>
      intro g10_56 v10_1 E10_ H locs ls hv10_1 hx10_0 hx10_1 hx10_2 hI hKp hr10_56 hP hS hl
      refine lv_iload_n hx hb dX3_markCertified_10 rfl (lv_at hl 0 rfl) ?_
      refine lv_aload_n hx hb dX3_markCertified_11 rfl (lv_at hl 1 rfl) ?_
      refine th_getL (ci := 4) (C := RX3) (T := TX3) (N := 18) (v := .ref (ad 1)) hx hb hts hinX3 hown hK hP hI 6 (mF 6 rfl) rfl rfl 0 (Nat.le_of_ble_eq_true rfl) (hts _ (vA_in _ _ (in_11 _ (zs16 (zs1 (zs0)))))) (fun _ h9 => h9) (hI.fr 6 (mF 6 rfl) rfl (Nat.le_of_ble_eq_true rfl) 1 rfl) dX3_markCertified_12 ?_
      refine th_getL (ci := 1) (C := RX0) (T := TX0) (N := 11) (v := .ref (ad 7)) hx hb hts hinX0 hown hK hP hI 1 (mF 1 rfl) rfl rfl 3 (Nat.le_of_ble_eq_true rfl) (hts _ (vA_in _ _ (in_16 _ (zs16 (zs16 (zs4 (zs1 (zs1 (zs0))))))))) (fun _ h9 => h9) (hI.fr 1 (mF 1 rfl) rfl (Nat.le_of_ble_eq_true rfl) 7 rfl) dX3_markCertified_15 ?_
      refine th_riL (va_runV (As := []) (rest := [.int v10_1]) ⟨hx, hb, hml, hown, hts⟩ (q_size0 l dC dI cT cf hC ad E10_ H.size hI) (cwV 0 hts (gi_V (in_11 _ (zs16 (zs1 (zs1 (zs1 (zs0)))))) (in_4 _ (zs16 (zs16 (zs1 (zs1 (zs1 (zs0))))))) (in_4 _ (zs16 (zs16 (zs4 (zs0))))) (in_3 _ (zs16 (zs1 (zs1 (zs0))))) (in_4 _ (zs16 (zs1 (zs1 (zs1 (zs0))))))) rfl rfl rfl ⟨rfl, hz_yJx4a65c_size_8abf5_0⟩ ⟨Nat.le_of_ble_eq_true rfl, Nat.le_of_ble_eq_true rfl⟩) ⟨HWL_bl, va_recv hK hP (ci := 0) (q0 := posL 7 (LC cf)) rfl (hI.ob 7 (mF 7 rfl) rfl), (HWL_wi hP hK (WL_D hD) hS hA hEV)⟩ rfl rfl hl.1 rfl (lv_room (Nat.le_of_ble_eq_true rfl)) dX3_markCertified_18 ⟨Nat.le_of_ble_eq_true rfl, Nat.le_of_ble_eq_true rfl⟩) hS hP (fun r7 H locs hw hP hS => ?_)
      obtain ⟨f8, f9⟩ := hw
      refine lv_icmp_ge (tgt := 53) hx hb dX3_markCertified_21 (by decide) (fun c10 => ?_) (fun c10 => ?_)
      · --21 taken
        have t11 : r7.toInt ≤ v10_1.toInt := ti_le c10
        have k12 : MkR (cxC cf E) g10_56 := by have h9 := hx10_0; rw [show v10_1.toNatClampNeg = cf 0 by rw [tn_]; omega] at h9; exact h9
        refine lv_iconst (v := 0) hx hb dX3_markCertified_53 (by decide) ?_
        refine lv_istore_n (lv' := [(1, .int 0), (0, .ref (ad 6))]) hx hb dX3_markCertified_54 rfl hl (by decide) rfl (fun ls hl => ?_)
        refine lv_iconst (v := 0) hx hb dX3_markCertified_55 (by decide) ?_
        refine lv_istore_n (lv' := [(2, .int 0), (1, .int 0), (0, .ref (ad 6))]) hx hb dX3_markCertified_56 rfl hl (by decide) rfl (fun ls hl => ?_)
        have hL57 : ∀ d : Nat, ∀ (v57_2 : Int32) (v57_1 : Int32) (H : Heap) (locs : List Loc) (ls : Array Slot), 0 ≤ v57_2.toInt ∧ v57_2.toInt ≤ 16 → 0 ≤ v57_1.toInt ∧ v57_1.toInt ≤ 16 → CnR (cxC cf E) v57_2.toNatClampNeg v57_1.toInt → 0 ≤ v57_1.toInt ∧ v57_1.toInt ≤ v57_2.toInt → 16 - v57_2.toInt < (d : Int) → va_P (dC, dI) vwCl (WL (LC cf) ad E10_) H → va_S A s.heap H locs → lv_has ls 3 [(2, .int v57_2), (1, .int v57_1), (0, .ref (ad 6))] → W p l e (headSpec v_markX rm_markX).room s m args below meth c H locs 0 0 Q (F0 m 57 ls []) := by
          intro d
          induction d with
          | zero =>
            intro v57_2 v57_1 H locs ls hv57_2 hv57_1 hx57_0 hx57_1 hx57_2 hP hS hl
            exact absurd hx57_2 (by first | exact ms_zu hv57_2.2 | omega)
          | succ d ih57 =>
            intro v57_2 v57_1 H locs ls hv57_2 hv57_1 hx57_0 hx57_1 hx57_2 hP hS hl
            refine lv_iload_n hx hb dX3_markCertified_57 rfl (lv_at hl 0 rfl) ?_
            refine lv_bipush (v := 16) hx hb dX3_markCertified_58 (by decide) ?_
            refine lv_icmp_ge (tgt := 78) hx hb dX3_markCertified_60 (by decide) (fun c13 => ?_) (fun c13 => ?_)
            · --60 taken
              have t14 : (16 : Int) ≤ v57_2.toInt := ti_le c13
              have i15 : 16 ≤ v57_2.toInt ∧ v57_2.toInt ≤ 16 := iv_le_r t14 (il_ 16) hv57_2 (by decide)
              refine lv_iload_n hx hb dX3_markCertified_78 rfl (lv_at hl 1 rfl) ?_
              rw [hQ]
              exact W.iret (v := v57_1) hx hb hr (fun t ht hW => ⟨⟨v57_1, E10_, rfl, ⟨hI, hKp, ⟨hv57_1, (by rw [show xi (E10_ 56) = g10_56 from hr10_56]; exact k12), (by have h9 := hx57_0; rw [show v57_2.toNatClampNeg = 16 by rw [tn_]; omega] at h9; exact h9)⟩⟩, by show va_P (dC, dI) vwCl (WL (LC cf) ad E10_) t.heap; rw [ht]; exact hP⟩, hS.F ht⟩) hS.2.2 dX3_markCertified_79
            · --60 not
              have t16 : v57_2.toInt < 16 := ti_nle c13
              have i17 : 0 ≤ v57_2.toInt ∧ v57_2.toInt ≤ 15 := iv_lt_l t16 hv57_2 (il_ 16) (by decide)
              have i18 : 0 ≤ v57_1.toInt ∧ v57_1.toInt ≤ 15 := by omega
              refine lv_iload_n hx hb dX3_markCertified_63 rfl (lv_at hl 1 rfl) ?_
              refine lv_aload_n hx hb dX3_markCertified_64 rfl (lv_at hl 2 rfl) ?_
              refine th_getL (ci := 4) (C := RX3) (T := TX3) (N := 18) (v := .ref (ad 56)) hx hb hts hinX3 hown hK hP hI 6 (mF 6 rfl) rfl rfl 17 (Nat.le_of_ble_eq_true rfl) (hts _ (vA_in _ _ (in_16 _ (zs16 (zs16 (zs4 (zs1 (zs0)))))))) (fun _ h9 => h9) (hI.fr 6 (mF 6 rfl) rfl (Nat.le_of_ble_eq_true rfl) 56 rfl) dX3_markCertified_65 ?_
              refine lv_iload_n hx hb dX3_markCertified_68 rfl (lv_at hl 0 rfl) ?_
              have n20 : vp_in v57_2 16 := (iv_in (n := 16) i17 (by decide))
              refine th_ialdL hx hb hK hP hI 56 (mF 56 rfl) rfl rfl n20 dX3_markCertified_69 (fun y19 ey19 => ?_)
              have iy19 : 0 ≤ y19.toInt ∧ y19.toInt ≤ 2001 := hI.el 56 (mF 56 rfl) rfl n20 (fun _ => rfl) ey19
              have ey19 := ey19.trans (congrFun hr10_56 _)
              have k21 : 0 ≤ y19.toInt ∧ y19.toInt ≤ 1 := mk_01 k12 ⟨by omega, by omega⟩ ey19
              refine lv_iadd hx hb dX3_markCertified_70 ?_
              refine lv_topi (fun y22 ey22 => ?_)
              obtain ⟨ty22, iy22⟩ := ti_add (e := 0) (f := 16) i18 k21 ey22 (by decide)
              have ty22 : y22.toInt = v57_1.toInt + y19.toInt := ty22
              have iy22 : 0 ≤ y22.toInt ∧ y22.toInt ≤ 16 := iy22
              refine lv_istore_n (lv' := [(1, .int y22), (2, .int v57_2), (0, .ref (ad 6))]) hx hb dX3_markCertified_71 rfl hl (by decide) rfl (fun ls hl => ?_)
              obtain ⟨y23, ey23⟩ : ∃ y : Int32, y = v57_2 + (1 : Int32) := ⟨_, rfl⟩
              obtain ⟨ty23, iy23⟩ := ti_add (e := 1) (f := 16) i17 ln_1 ey23 (by decide)
              have ty23 : y23.toInt = v57_2.toInt + 1 := ty23
              have iy23 : 1 ≤ y23.toInt ∧ y23.toInt ≤ 16 := iy23
              refine lv_iinc (v := y23) (lv' := [(2, .int y23), (1, .int y22), (0, .ref (ad 6))]) hx hb dX3_markCertified_72 hl (k := 1) rfl (by rw [ey23]; rfl) (by decide) rfl (fun ls hl => ?_)
              refine lv_goto (tgt := 57) hx hb dX3_markCertified_75 (by decide) ?_
              exact ih57 y23 y22 _ _ _ (iv_w iy23 (by decide)) iy22 (hx57_0.mk k12 ⟨by omega, by omega⟩ ey19 ty22 ty23) (by omega) (by first | exact ms_su hx57_2 ty23 (by decide) | omega) hP hS (lv_sub hl [0, 1, 2] rfl)
        exact hL57 (17) (0 : Int32) (0 : Int32) _ _ _ (iv_w ln_0 (by decide)) (iv_w ln_0 (by decide)) (show CnR (cxC cf E) 0 (0 : Int32).toInt from rfl) (by have z9 := ln_0; omega) (by have h9 := ln_0; first | exact ms_bu h9.1 (by decide) | omega) hP hS (lv_sub hl [0, 1, 2] rfl)
      · --21 not
        have t24 : v10_1.toInt < r7.toInt := ti_nle c10
        have i25 : 0 ≤ v10_1.toInt ∧ v10_1.toInt ≤ 79 := iv_lt_l t24 hv10_1 f8 (by decide)
        have i26 : 1 ≤ r7.toInt ∧ r7.toInt ≤ 80 := iv_lt_r t24 hv10_1 f8 (by decide)
        refine lv_aload_n hx hb dX3_markCertified_24 rfl (lv_at hl 1 rfl) ?_
        refine th_getL (ci := 4) (C := RX3) (T := TX3) (N := 18) (v := .ref (ad 56)) hx hb hts hinX3 hown hK hP hI 6 (mF 6 rfl) rfl rfl 17 (Nat.le_of_ble_eq_true rfl) (hts _ (vA_in _ _ (in_16 _ (zs16 (zs16 (zs4 (zs1 (zs0)))))))) (fun _ h9 => h9) (hI.fr 6 (mF 6 rfl) rfl (Nat.le_of_ble_eq_true rfl) 56 rfl) dX3_markCertified_25 ?_
        refine lv_aload_n hx hb dX3_markCertified_28 rfl (lv_at hl 1 rfl) ?_
        refine th_getL (ci := 4) (C := RX3) (T := TX3) (N := 18) (v := .ref (ad 1)) hx hb hts hinX3 hown hK hP hI 6 (mF 6 rfl) rfl rfl 0 (Nat.le_of_ble_eq_true rfl) (hts _ (vA_in _ _ (in_11 _ (zs16 (zs1 (zs0)))))) (fun _ h9 => h9) (hI.fr 6 (mF 6 rfl) rfl (Nat.le_of_ble_eq_true rfl) 1 rfl) dX3_markCertified_29 ?_
        refine th_getL (ci := 1) (C := RX0) (T := TX0) (N := 11) (v := .ref (ad 7)) hx hb hts hinX0 hown hK hP hI 1 (mF 1 rfl) rfl rfl 3 (Nat.le_of_ble_eq_true rfl) (hts _ (vA_in _ _ (in_16 _ (zs16 (zs16 (zs4 (zs1 (zs1 (zs0))))))))) (fun _ h9 => h9) (hI.fr 1 (mF 1 rfl) rfl (Nat.le_of_ble_eq_true rfl) 7 rfl) dX3_markCertified_32 ?_
        refine lv_iload_n hx hb dX3_markCertified_35 rfl (lv_at hl 0 rfl) ?_
        refine th_rrL (va_runV (As := [.int v10_1]) (rest := [.ref (ad 56)]) ⟨hx, hb, hml, hown, hts⟩ (q_get0 l dC dI cT cf hC ad E10_ H.size v10_1 hI (by omega)) (cwV 1 hts (gi_V (in_13 _ (zs16 (zs4 (zs1 (zs0))))) (in_4 _ (zs16 (zs16 (zs4 (zs1 (zs1 (zs0))))))) (in_4 _ (zs16 (zs16 (zs4 (zs1 (zs1 (zs1 (zs0)))))))) (in_3 _ (zs16 (zs1 (zs1 (zs0))))) (in_3 _ (zs16 (zs16 (zs4 (zs1 (zs1 (zs1 (zs0))))))))) rfl rfl rfl ⟨rfl, hz_yJx4a65c_get_915e3_1⟩ ⟨Nat.le_of_ble_eq_true rfl, Nat.le_of_ble_eq_true rfl⟩) ⟨HWL_bl, va_recv hK hP (ci := 0) (q0 := posL 7 (LC cf)) rfl (hI.ob 7 (mF 7 rfl) rfl), (HWL_wi hP hK (WL_D hD) hS hA hEV)⟩ rfl rfl hl.1 rfl (lv_room (Nat.le_of_ble_eq_true rfl)) dX3_markCertified_36 ⟨Nat.le_of_ble_eq_true rfl, Nat.le_of_ble_eq_true rfl⟩) hS hP (fun r27 H locs hw hP hS => ?_)
        obtain rfl := hw
        have lv28 : v10_1.toNatClampNeg < cf 0 := by rw [tn_]; omega
        refine va_castS (cC := dC 2) hx hb hown (hts _ (vA_in _ _ (in_16 _ (zs16 (zs16 (zs4 (zs1 (zs1 (zs1 (zs0)))))))))) (hK.1 2 _ rfl).2 (va_recv hK hP (ci := 2) (q0 := posL (64 * (v10_1.toNatClampNeg + 1) + 0) (LC cf)) rfl (hI.ob (64 * (v10_1.toNatClampNeg + 1) + 0) (mP 0 v10_1.toNatClampNeg (by decide) lv28 (kl_le hC 0 (by decide))) (shC_p 0 v10_1.toNatClampNeg (by decide)))) dX3_markCertified_39 ?_
        have i29 : 0 ≤ (xi (E (64 * (v10_1.toNatClampNeg + 1) + 0)) 0).toInt ∧ (xi (E (64 * (v10_1.toNatClampNeg + 1) + 0)) 0).toInt ≤ 15 := hI0.iv (64 * (v10_1.toNatClampNeg + 1) + 0) (mP 0 v10_1.toNatClampNeg (by decide) lv28 (kl_le hC 0 (by decide))) (shC_p 0 v10_1.toNatClampNeg (by decide)) (Nat.le_of_ble_eq_true rfl) (spC_p 0 v10_1.toNatClampNeg (by decide) 0)
        refine th_getL (ci := 2) (C := RX1) (T := TX1) (N := 6) (v := .int (xi (E (64 * (v10_1.toNatClampNeg + 1) + 0)) 0)) hx hb hts hinX1 hown hK hP hI (64 * (v10_1.toNatClampNeg + 1) + 0) (mP 0 v10_1.toNatClampNeg (by decide) lv28 (kl_le hC 0 (by decide))) (shC_p 0 v10_1.toNatClampNeg (by decide)) rfl 0 (Nat.le_of_ble_eq_true rfl) (hts _ (vA_in _ _ (in_17 _ zs0))) (fun _ h9 => h9) (th_v0L hKp hI0 (64 * (v10_1.toNatClampNeg + 1) + 0) (mP 0 v10_1.toNatClampNeg (by decide) lv28 (kl_le hC 0 (by decide))) (shC_p 0 v10_1.toNatClampNeg (by decide)) (Nat.le_of_ble_eq_true rfl) (spC_p 0 v10_1.toNatClampNeg (by decide) 0) (wl_p rfl rfl (by omega))) dX3_markCertified_42 ?_
        refine lv_iconst (v := 1) hx hb dX3_markCertified_45 (by decide) ?_
        have n30 : vp_in (xi (E (64 * (v10_1.toNatClampNeg + 1) + 0)) 0) 16 := (iv_in (n := 16) i29 (by decide))
        refine th_iastL hx hb hK hP (WL_D hD) hS hI 56 (mF 56 rfl) rfl rfl n30 (okI rfl (iv_w ln_1 (by decide))) dX3_markCertified_46 (fun H locs E31 pw32 hI hP hS => ?_)
        have hKp := hKp.pw pw32 rfl
        obtain ⟨g33, eg33⟩ : ∃ z : Nat → Int32, z = upd g10_56 (xi (E (64 * (v10_1.toNatClampNeg + 1) + 0)) 0).toNatClampNeg (1 : Int32) := ⟨_, rfl⟩
        have hg33 : xi (E31 56) = g33 := by rw [pw32.eu, hr10_56, eg33]
        obtain ⟨y34, ey34⟩ : ∃ y : Int32, y = v10_1 + (1 : Int32) := ⟨_, rfl⟩
        obtain ⟨ty34, iy34⟩ := ti_add (e := 1) (f := 80) i25 ln_1 ey34 (by decide)
        have ty34 : y34.toInt = v10_1.toInt + 1 := ty34
        have iy34 : 1 ≤ y34.toInt ∧ y34.toInt ≤ 80 := iy34
        refine lv_iinc (v := y34) (lv' := [(1, .int y34), (0, .ref (ad 6))]) hx hb dX3_markCertified_47 hl (k := 0) rfl (by rw [ey34]; rfl) (by decide) rfl (fun ls hl => ?_)
        refine lv_goto (tgt := 10) hx hb dX3_markCertified_50 (by decide) ?_
        exact ih10 g33 y34 E31 _ _ _ (iv_w iy34 (by decide)) (hx10_0.step eg33 rfl (by omega) (by rw [tn_ y34, tn_ v10_1]; omega)) (by omega) (by first | exact ms_su hx10_2 ty34 (by decide) | omega) hI hKp hg33 hP hS (lv_sub hl [0, 1] rfl)
  exact hL10 (81) g5 (0 : Int32) E2 _ _ _ (iv_w ln_0 (by decide)) (MkR.start k6) (by have z9 := ln_0; omega) (by have h9 := ln_0; first | exact ms_bu h9.1 (by decide) | omega) hI hKp hg5 hP hS (lv_sub hl [0, 1] rfl)
def v_weighX : List Cond := .code yX3_weigh cX3_weigh 3 none :: vA
abbrev rm_weighX : Room := { frames := 6, cells := 0, slots := 0, locals := 240 }
def w_weighX : Nat → Nat → Bool := wl [19, 20, 47, 48, 49, 51, 56] []
set_option maxHeartbeats 4000000 in
set_option maxRecDepth 100000 in
theorem q_weighX (l : Launch) (dC : Nat → ClassId) (dI : Nat → Nat → Nat) (cT : Nat → ClassId) (cf : Nat → Nat) (hC : CF cf) (ad : Nat → Nat) (E : Nat → va_E) (sz : Nat)  (hI0 : IXL cT (shC cf) (spC cf) (LC cf) ad E) (hh0 : RulAll cf E) : Met l yX3_weigh v_weighX rm_weighX (va_Pc [.ref (ad 6)] (HWL dC dI (TYC cT) cf ad E sz)) (va_Qv (S := Nat → va_E) (fun u => IXL cT (shC cf) (spC cf) (LC cf) ad u ∧ Kp w_weighX E u ∧ ((∀ b9 : Nat, b9 < 16 → WgV cf E (xi (E 1) 0) (xi (E 56) b9) b9 (xi (u 56) b9)))) (HBL dC dI (LC cf) ad) (va_A (WL (LC cf) ad E) sz)) 0 0 (va_A (WL (LC cf) ad E) sz) := by
  obtain ⟨⟨hc0, hc1, hc2, hc3, hc4, hc5⟩, hcr⟩ := id hC
  refine Met.ofW (cc := cX3_weigh) (maxL := 3) (ret := none) (by decide) rfl ?_
  intro p e s m args below meth c s₁ B hml hv
  obtain ⟨hargs, hsz, hP, hK, hD0, hEV⟩ := hv
  subst hsz
  have hx := B.exec
  have hb := B.bytes
  have hr := B.returns
  have hts := atoms_spec (ws := v_weighX) B.pre
  have hown : s.vm.findClass RX3 = some m.cls := findClass_of_methodNamed B.named
  have hlocks := B.notSynchronized
  have hinX0 : ∀ w ∈ u_ws RX0 TX0 11, w ∈ v_weighX := fun w h => vA_in _ w (in_X0 w h)
  have hinX3 : ∀ w ∈ u_ws RX3 TX3 18, w ∈ v_weighX := fun w h => vA_in _ w (in_X3 w h)
  generalize hAe : va_A (WL (LC cf) ad E) s.heap.size = A at hEV ⊢
  have hA : ∀ q : Nat, s.heap.size ≤ q → A q := fun q h => by rw [← hAe]; exact Or.inr h
  have hD : va_D A (WL (LC cf) ad E) := by rw [← hAe]; exact hD0.self
  have hS : va_S A s.heap s.heap [] := va_S.rf
  have hI := hI0
  have hKp : Kp w_weighX E E := Kp.rf
  have hl := lv_entry ([.ref (ad 6)]) (n := 3) (Nat.le_of_ble_eq_true rfl)
  obtain ⟨Q, hQ⟩ : ∃ Q, Q = MQ below (va_Qv (S := Nat → va_E) (fun u => IXL cT (shC cf) (spC cf) (LC cf) ad u ∧ Kp w_weighX E u ∧ ((∀ b9 : Nat, b9 < 16 → WgV cf E (xi (E 1) 0) (xi (E 56) b9) b9 (xi (u 56) b9)))) (HBL dC dI (LC cf) ad) (A)) args s 0 0 (A) := ⟨_, rfl⟩
  rw [← hQ, show entryFrame m args 3 = _ from (congrArg (fun z => entryFrame m z 3) hargs).trans (lg_entry_eq _ _ _)]
  generalize (lg_sl ([.ref (ad 6)]) ++ List.replicate (3 - (lg_sl ([.ref (ad 6)])).length) Slot.unset).toArray = ls at hl ⊢
  have hl : lv_has ls 3 [(0, .ref (ad 6))] := hl
  obtain ⟨g1, hg1⟩ : ∃ g, xi (E 56) = g := ⟨_, rfl⟩
  have z0z : (0 : Int32).toInt = 0 := rfl
  refine lv_iconst (v := 0) hx hb dX3_weigh_0 (by decide) ?_
  refine lv_istore_n (lv' := [(1, .int 0), (0, .ref (ad 6))]) hx hb dX3_weigh_1 rfl hl (by decide) rfl (fun ls hl => ?_)
  have hL2 : ∀ d : Nat, ∀ (g2_56 : Nat → Int32) (v2_1 : Int32) (E2_ : Nat → va_E) (H : Heap) (locs : List Loc) (ls : Array Slot), 0 ≤ v2_1.toInt ∧ v2_1.toInt ≤ 16 → (∀ b9 : Nat, b9 < v2_1.toNatClampNeg → WgV cf E (xi (E 1) 0) (g1 b9) b9 (g2_56 b9)) → (∀ b9 : Nat, v2_1.toNatClampNeg ≤ b9 → g2_56 b9 = g1 b9) → 16 - v2_1.toInt < (d : Int) → IXL cT (shC cf) (spC cf) (LC cf) ad E2_ → Kp w_weighX E E2_ → xi (E2_ 56) = g2_56 → va_P (dC, dI) vwCl (WL (LC cf) ad E2_) H → va_S A s.heap H locs → lv_has ls 3 [(1, .int v2_1), (0, .ref (ad 6))] → W p l e (headSpec v_weighX rm_weighX).room s m args below meth c H locs 0 0 Q (F0 m 2 ls []) := by
    intro d
    induction d with
    | zero =>
      intro g2_56 v2_1 E2_ H locs ls hv2_1 hx2_0 hx2_1 hx2_2 hI hKp hr2_56 hP hS hl
      exact absurd hx2_2 (by first | exact ms_zu hv2_1.2 | omega)
    | succ d ih2 =>
      intro g2_56 v2_1 E2_ H locs ls hv2_1 hx2_0 hx2_1 hx2_2 hI hKp hr2_56 hP hS hl
      refine lv_iload_n hx hb dX3_weigh_2 rfl (lv_at hl 0 rfl) ?_
      refine lv_bipush (v := 16) hx hb dX3_weigh_3 (by decide) ?_
      refine lv_icmp_ge (tgt := 71) hx hb dX3_weigh_5 (by decide) (fun c2 => ?_) (fun c2 => ?_)
      · --5 taken
        have t3 : (16 : Int) ≤ v2_1.toInt := ti_le c2
        have i4 : 16 ≤ v2_1.toInt ∧ v2_1.toInt ≤ 16 := iv_le_r t3 (il_ 16) hv2_1 (by decide)
        rw [hQ]
        exact W.vret hx hb hr (fun t ht hW => ⟨⟨E2_, rfl, ⟨hI, hKp, (fun b9 h9 => by rw [show xi (E2_ 56) = g2_56 from hr2_56, show xi (E 56) = g1 from hg1]; exact hx2_0 b9 (by rw [tn_]; omega))⟩, by show va_P (dC, dI) vwCl (WL (LC cf) ad E2_) t.heap; rw [ht]; exact hP⟩, hS.F ht⟩) hS.2.2 dX3_weigh_71
      · --5 not
        have t5 : v2_1.toInt < 16 := ti_nle c2
        have i6 : 0 ≤ v2_1.toInt ∧ v2_1.toInt ≤ 15 := iv_lt_l t5 hv2_1 (il_ 16) (by decide)
        refine lv_aload_n hx hb dX3_weigh_8 rfl (lv_at hl 1 rfl) ?_
        refine th_getL (ci := 4) (C := RX3) (T := TX3) (N := 18) (v := .ref (ad 56)) hx hb hts hinX3 hown hK hP hI 6 (mF 6 rfl) rfl rfl 17 (Nat.le_of_ble_eq_true rfl) (hts _ (vA_in _ _ (in_16 _ (zs16 (zs16 (zs4 (zs1 (zs0)))))))) (fun _ h9 => h9) (hI.fr 6 (mF 6 rfl) rfl (Nat.le_of_ble_eq_true rfl) 56 rfl) dX3_weigh_9 ?_
        refine lv_iload_n hx hb dX3_weigh_12 rfl (lv_at hl 0 rfl) ?_
        have n8 : vp_in v2_1 16 := (iv_in (n := 16) i6 (by decide))
        refine th_ialdL hx hb hK hP hI 56 (mF 56 rfl) rfl rfl n8 dX3_weigh_13 (fun y7 ey7 => ?_)
        have iy7 : 0 ≤ y7.toInt ∧ y7.toInt ≤ 2001 := hI.el 56 (mF 56 rfl) rfl n8 (fun _ => rfl) ey7
        have ey7 := ey7.trans (congrFun hr2_56 _)
        refine lv_if_ne (tgt := 20) hx hb dX3_weigh_14 (by decide) (fun c9 => ?_) (fun c9 => ?_)
        · --14 taken
          have t10 : ¬ y7.toInt = 0 := ti_ne c9
          have i11 : 1 ≤ y7.toInt ∧ y7.toInt ≤ 2001 := iv_ne_l t10 iy7 (il_ 0)
          refine lv_aload_n hx hb dX3_weigh_20 rfl (lv_at hl 1 rfl) ?_
          refine lv_iload_n hx hb dX3_weigh_21 rfl (lv_at hl 0 rfl) ?_
          refine th_iL (va_runV (As := [.int v2_1]) (rest := []) ⟨hx, hb, hml, hown, hts⟩ (q_fitOfX l dC dI cT cf hC ad E2_ H.size v2_1 hI i6) (cwV 1 hts (gi_V (in_17 _ (zs4 (zs1 (zs1 (zs0))))) (in_17 _ (zs4 (zs1 (zs1 (zs1 (zs0)))))) (in_17 _ (zs4 (zs4 (zs0)))) (in_11 _ (zs4 (zs4 (zs4 (zs1 (zs1 (zs1 (zs0)))))))) (in_17 _ (zs4 (zs4 (zs1 (zs0)))))) rfl rfl rfl ⟨rfl, hz_yX3_fitOf_1⟩ ⟨Nat.le_of_ble_eq_true rfl, Nat.le_of_ble_eq_true rfl⟩) ⟨HWL_bl, va_recv hK hP (ci := 4) (q0 := posL 6 (LC cf)) rfl (hI.ob 6 (mF 6 rfl) rfl), (HWL_wi hP hK (WL_D hD) hS hA hEV)⟩ rfl rfl hl.1 rfl (lv_room (Nat.le_of_ble_eq_true rfl)) dX3_weigh_22 ⟨Nat.le_of_ble_eq_true rfl, Nat.le_of_ble_eq_true rfl⟩) (WL_D hD) hS hA (fun r12 E13 H locs hw hP hS => ?_)
          obtain ⟨hI, kq14, hw⟩ := hw
          have hKb := hKp
          have hKp := hKp.tr kq14 (wl_sub rfl rfl)
          obtain ⟨f15, f16⟩ := hw
          have k17 : FtR (ctO E v2_1.toNatClampNeg) (ftO E v2_1.toNatClampNeg) (cf 2) r12.toInt := FtO_cg (K64.of hKb (fun o9 ho9 j9 => wl_p rfl rfl ho9)) (hKb.ef 43 (fun _ => rfl)) (hKb.ef 44 (fun _ => rfl)) (hKb.ef 46 (fun _ => rfl)) f16
          refine lv_istore_n (lv' := [(2, .int r12), (1, .int v2_1), (0, .ref (ad 6))]) hx hb dX3_weigh_25 rfl hl (by decide) rfl (fun ls hl => ?_)
          refine lv_iload_n hx hb dX3_weigh_26 rfl (lv_at hl 0 rfl) ?_
          refine lv_iconst (v := -1) hx hb dX3_weigh_27 (by decide) ?_
          refine lv_icmp_eq (tgt := 65) hx hb dX3_weigh_28 (by decide) (fun c18 => ?_) (fun c18 => ?_)
          · --28 taken
            have t19 : r12.toInt = -1 := ti_eq c18
            have i20 : -1 ≤ r12.toInt ∧ r12.toInt ≤ -1 := iv_eqi t19 f15 (il_ (-1)) (by decide)
            obtain ⟨y21, ey21⟩ : ∃ y : Int32, y = v2_1 + (1 : Int32) := ⟨_, rfl⟩
            obtain ⟨ty21, iy21⟩ := ti_add (e := 1) (f := 16) i6 ln_1 ey21 (by decide)
            have ty21 : y21.toInt = v2_1.toInt + 1 := ty21
            have iy21 : 1 ≤ y21.toInt ∧ y21.toInt ≤ 16 := iy21
            refine lv_iinc (v := y21) (lv' := [(1, .int y21), (2, .int r12), (0, .ref (ad 6))]) hx hb dX3_weigh_65 hl (k := 1) rfl (by rw [ey21]; rfl) (by decide) rfl (fun ls hl => ?_)
            refine lv_goto (tgt := 2) hx hb dX3_weigh_68 (by decide) ?_
            exact ih2 g2_56 y21 E13 _ _ _ (iv_w iy21 (by decide)) (nx_s (P := (fun b9 z9 => WgV cf E (xi (E 1) 0) (g1 b9) b9 z9)) hx2_0 (show WgV cf E (xi (E 1) 0) (g1 v2_1.toNatClampNeg) v2_1.toNatClampNeg (g2_56 v2_1.toNatClampNeg) from ⟨(fun q9 => by exfalso; rw [← (show g2_56 v2_1.toNatClampNeg = g1 v2_1.toNatClampNeg from hx2_1 _ (Nat.le_refl _)), ← ey7] at q9; omega), fun _ => ⟨_, k17, fun _ => by rw [(show g2_56 v2_1.toNatClampNeg = g1 v2_1.toNatClampNeg from hx2_1 _ (Nat.le_refl _))], fun q9 => by exfalso; omega⟩⟩) (by omega) (by omega)) (nx_hi hx2_1 (by omega) (by omega)) (by first | exact ms_su hx2_2 ty21 (by decide) | omega) hI hKp ((kq14.ef 56 (fun _ => rfl)).trans hr2_56) hP hS (lv_sub hl [0, 2] rfl)
          · --28 not
            have t22 : ¬ r12.toInt = -1 := ti_ne c18
            have i23 : 0 ≤ r12.toInt ∧ r12.toInt ≤ 2000 := iv_ne_l t22 f15 (il_ (-1))
            refine lv_aload_n hx hb dX3_weigh_31 rfl (lv_at hl 2 rfl) ?_
            refine th_getL (ci := 4) (C := RX3) (T := TX3) (N := 18) (v := .ref (ad 56)) hx hb hts hinX3 hown hK hP hI 6 (mF 6 rfl) rfl rfl 17 (Nat.le_of_ble_eq_true rfl) (hts _ (vA_in _ _ (in_16 _ (zs16 (zs16 (zs4 (zs1 (zs0)))))))) (fun _ h9 => h9) (hI.fr 6 (mF 6 rfl) rfl (Nat.le_of_ble_eq_true rfl) 56 rfl) dX3_weigh_32 ?_
            refine lv_iload_n hx hb dX3_weigh_35 rfl (lv_at hl 1 rfl) ?_
            refine lv_iconst (v := 1) hx hb dX3_weigh_36 (by decide) ?_
            refine lv_iload_n hx hb dX3_weigh_37 rfl (lv_at hl 0 rfl) ?_
            refine lv_aload_n hx hb dX3_weigh_38 rfl (lv_at hl 2 rfl) ?_
            refine th_getL (ci := 4) (C := RX3) (T := TX3) (N := 18) (v := .ref (ad 1)) hx hb hts hinX3 hown hK hP hI 6 (mF 6 rfl) rfl rfl 0 (Nat.le_of_ble_eq_true rfl) (hts _ (vA_in _ _ (in_11 _ (zs16 (zs1 (zs0)))))) (fun _ h9 => h9) (hI.fr 6 (mF 6 rfl) rfl (Nat.le_of_ble_eq_true rfl) 1 rfl) dX3_weigh_39 ?_
            refine lv_iload_n hx hb dX3_weigh_42 rfl (lv_at hl 1 rfl) ?_
            refine lv_aload_n hx hb dX3_weigh_43 rfl (lv_at hl 2 rfl) ?_
            refine th_getL (ci := 4) (C := RX3) (T := TX3) (N := 18) (v := .ref (ad 1)) hx hb hts hinX3 hown hK hP hI 6 (mF 6 rfl) rfl rfl 0 (Nat.le_of_ble_eq_true rfl) (hts _ (vA_in _ _ (in_11 _ (zs16 (zs1 (zs0)))))) (fun _ h9 => h9) (hI.fr 6 (mF 6 rfl) rfl (Nat.le_of_ble_eq_true rfl) 1 rfl) dX3_weigh_44 ?_
            have i24 : 0 ≤ (xi (E 1) 0).toInt ∧ (xi (E 1) 0).toInt ≤ 400 := hI0.iv 1 (mF 1 rfl) rfl (Nat.le_of_ble_eq_true rfl) rfl
            refine th_getL (ci := 1) (C := RX0) (T := TX0) (N := 11) (v := .int (xi (E 1) 0)) hx hb hts hinX0 hown hK hP hI 1 (mF 1 rfl) rfl rfl 0 (Nat.le_of_ble_eq_true rfl) (hts _ (vA_in _ _ (in_11 _ (zs16 (zs4 (zs4 (zs1 (zs0)))))))) (fun _ h9 => h9) (th_v0L hKp hI0 1 (mF 1 rfl) rfl (Nat.le_of_ble_eq_true rfl) rfl rfl) dX3_weigh_47 ?_
            refine lv_aload_n hx hb dX3_weigh_50 rfl (lv_at hl 2 rfl) ?_
            refine th_getL (ci := 4) (C := RX3) (T := TX3) (N := 18) (v := .ref (ad 1)) hx hb hts hinX3 hown hK hP hI 6 (mF 6 rfl) rfl rfl 0 (Nat.le_of_ble_eq_true rfl) (hts _ (vA_in _ _ (in_11 _ (zs16 (zs1 (zs0)))))) (fun _ h9 => h9) (hI.fr 6 (mF 6 rfl) rfl (Nat.le_of_ble_eq_true rfl) 1 rfl) dX3_weigh_51 ?_
            refine th_getL (ci := 1) (C := RX0) (T := TX0) (N := 11) (v := .int (xi (E 1) 0)) hx hb hts hinX0 hown hK hP hI 1 (mF 1 rfl) rfl rfl 0 (Nat.le_of_ble_eq_true rfl) (hts _ (vA_in _ _ (in_11 _ (zs16 (zs4 (zs4 (zs1 (zs0)))))))) (fun _ h9 => h9) (th_v0L hKp hI0 1 (mF 1 rfl) rfl (Nat.le_of_ble_eq_true rfl) rfl rfl) dX3_weigh_54 ?_
            refine th_iL (va_runV (As := [.int v2_1, .int (xi (E 1) 0), .int (xi (E 1) 0)]) (rest := [.int r12, .int 1, .int v2_1, .ref (ad 56)]) ⟨hx, hb, hml, hown, hts⟩ (q_numberOfX l dC dI cT cf hC ad E13 H.size v2_1 (xi (E 1) 0) (xi (E 1) 0) hI (by exact (fun i9 hi9 => (hh0 i9 hi9).cg (kp_rul hKp (fun o9 ho9 j9 => wl_p rfl rfl ho9) i9)))) (cwV 3 hts (gi_V (in_17 _ (zs16 (zs4 (zs4 (zs1 (zs0)))))) (in_12 _ (zs16 (zs16 (zs1 (zs1 (zs1 (zs0))))))) (in_12 _ (zs16 (zs16 (zs4 (zs0))))) (in_5 _ (zs4 (zs1 (zs1 (zs0))))) (in_6 _ (zs16 (zs4 (zs1 (zs1 (zs0))))))) rfl rfl rfl ⟨rfl, hz_yX0_numberOf_3⟩ ⟨Nat.le_of_ble_eq_true rfl, Nat.le_of_ble_eq_true rfl⟩) ⟨HWL_bl, va_recv hK hP (ci := 1) (q0 := posL 1 (LC cf)) rfl (hI.ob 1 (mF 1 rfl) rfl), (HWL_wi hP hK (WL_D hD) hS hA hEV)⟩ rfl rfl hl.1 rfl (lv_room (Nat.le_of_ble_eq_true rfl)) dX3_weigh_57 ⟨Nat.le_of_ble_eq_true rfl, Nat.le_of_ble_eq_true rfl⟩) (WL_D hD) hS hA (fun r25 E26 H locs hw hP hS => ?_)
            obtain ⟨hI, kq27, hw⟩ := hw
            have hKb := hKp
            have hKp := hKp.tr kq27 (wl_sub rfl rfl)
            have f28 := hw
            have k29 : r25.toInt = numC cf E (nI v2_1.toNatClampNeg) (xi (E 1) 0) (xi (E 1) 0) := by rw [nI_tn (show 0 ≤ v2_1.toInt by omega)]; exact f28.trans (numC_k (K64.of hKb (fun o9 ho9 j9 => wl_p rfl rfl ho9)))
            have i30 : 500 ≤ r25.toInt ∧ r25.toInt ≤ 2000 := by have h9 := numC_in (cf := cf) (E := E) (boat := nI v2_1.toNatClampNeg) (day := (xi (E 1) 0)) (q := (xi (E 1) 0)); omega
            refine th_pi (va_runSN (As := [.int r12, .int r25]) (rest := [.int 1, .int v2_1, .ref (ad 56)]) ⟨hx, hb, hml, hown, hts⟩ (q_capartB l r12 r25 (iv_w i23 (by decide)) (iv_w i30 (by decide))) ⟨va_cnB 2 hts (gi_0 (in_10 _ (zs4 (zs4 (zs4 (zs1 (zs1 (zs1 (zs0))))))))) rfl rfl rfl (hEV.1.1 _ (List.mem_of_getElem? (i := 6) rfl)) (hts _ (vA_in _ _ (in_4 _ (zs16 (zs4 (zs1 (zs1 (zs1 (zs0))))))))) hz_yX12_apart_2 ⟨Nat.le_of_ble_eq_true rfl, Nat.le_of_ble_eq_true rfl⟩, (hts _ (vA_in _ _ (in_13 _ (zs16 (zs4 (zs4 (zs1 (zs0)))))))), trivial⟩ ⟨fun _ _ _ _ q => q, fun _ _ _ => ⟨rfl, trivial⟩⟩ rfl rfl hl.1 rfl (lv_room (Nat.le_of_ble_eq_true rfl)) dX3_weigh_60 ⟨Nat.le_of_ble_eq_true rfl, Nat.le_of_ble_eq_true rfl⟩) hS (fun r31 H1 locs1 hw hk1 hS => ?_)
            have hP := ub_keep hP hk1
            generalize H1 = H at hP hS ⊢
            generalize locs1 = locs at hS ⊢
            have f32 := hw
            have i33 : 0 ≤ r31.toInt ∧ r31.toInt ≤ 2000 := by have h9 := f32; unfold ab at h9; omega
            refine lv_iadd hx hb dX3_weigh_63 ?_
            refine lv_topi (fun y34 ey34 => ?_)
            obtain ⟨ty34, iy34⟩ := ti_add (e := 1) (f := 2001) ln_1 i33 ey34 (by decide)
            have ty34 : y34.toInt = 1 + r31.toInt := ty34
            have iy34 : 1 ≤ y34.toInt ∧ y34.toInt ≤ 2001 := iy34
            have n35 : vp_in v2_1 16 := (iv_in (n := 16) i6 (by decide))
            refine th_iastL hx hb hK hP (WL_D hD) hS hI 56 (mF 56 rfl) rfl rfl n35 (okI rfl (iv_w iy34 (by decide))) dX3_weigh_64 (fun H locs E36 pw37 hI hP hS => ?_)
            have hKp := hKp.pw pw37 rfl
            obtain ⟨g38, eg38⟩ : ∃ z : Nat → Int32, z = upd g2_56 v2_1.toNatClampNeg y34 := ⟨_, rfl⟩
            have hg38 : xi (E36 56) = g38 := by rw [pw37.eu, ((kq27.ef 56 (fun _ => rfl)).trans ((kq14.ef 56 (fun _ => rfl)).trans hr2_56)), eg38]
            obtain ⟨y39, ey39⟩ : ∃ y : Int32, y = v2_1 + (1 : Int32) := ⟨_, rfl⟩
            obtain ⟨ty39, iy39⟩ := ti_add (e := 1) (f := 16) i6 ln_1 ey39 (by decide)
            have ty39 : y39.toInt = v2_1.toInt + 1 := ty39
            have iy39 : 1 ≤ y39.toInt ∧ y39.toInt ≤ 16 := iy39
            refine lv_iinc (v := y39) (lv' := [(1, .int y39), (2, .int r12), (0, .ref (ad 6))]) hx hb dX3_weigh_65 hl (k := 1) rfl (by rw [ey39]; rfl) (by decide) rfl (fun ls hl => ?_)
            refine lv_goto (tgt := 2) hx hb dX3_weigh_68 (by decide) ?_
            exact ih2 g38 y39 E36 _ _ _ (iv_w iy39 (by decide)) (up_s (P := (fun b9 z9 => WgV cf E (xi (E 1) 0) (g1 b9) b9 z9)) hx2_0 eg38 (show WgV cf E (xi (E 1) 0) (g1 v2_1.toNatClampNeg) v2_1.toNatClampNeg y34 from ⟨(fun q9 => by exfalso; rw [← (show g2_56 v2_1.toNatClampNeg = g1 v2_1.toNatClampNeg from hx2_1 _ (Nat.le_refl _)), ← ey7] at q9; omega), fun _ => ⟨_, k17, fun q9 => by exfalso; omega, fun _ => by rw [← k29, ← f32]; omega⟩⟩) (by omega) (by omega)) (up_hi hx2_1 eg38 (by omega) (by omega)) (by first | exact ms_su hx2_2 ty39 (by decide) | omega) hI hKp hg38 hP hS (lv_sub hl [0, 2] rfl)
        · --14 not
          have t40 : y7.toInt = 0 := ti_eq c9
          have i41 : 0 ≤ y7.toInt ∧ y7.toInt ≤ 0 := iv_eqi t40 iy7 (il_ 0) (by decide)
          refine lv_goto (tgt := 65) hx hb dX3_weigh_17 (by decide) ?_
          obtain ⟨y42, ey42⟩ : ∃ y : Int32, y = v2_1 + (1 : Int32) := ⟨_, rfl⟩
          obtain ⟨ty42, iy42⟩ := ti_add (e := 1) (f := 16) i6 ln_1 ey42 (by decide)
          have ty42 : y42.toInt = v2_1.toInt + 1 := ty42
          have iy42 : 1 ≤ y42.toInt ∧ y42.toInt ≤ 16 := iy42
          refine lv_iinc (v := y42) (lv' := [(1, .int y42), (0, .ref (ad 6))]) hx hb dX3_weigh_65 hl (k := 0) rfl (by rw [ey42]; rfl) (by decide) rfl (fun ls hl => ?_)
          refine lv_goto (tgt := 2) hx hb dX3_weigh_68 (by decide) ?_
          exact ih2 g2_56 y42 E2_ _ _ _ (iv_w iy42 (by decide)) (nx_s (P := (fun b9 z9 => WgV cf E (xi (E 1) 0) (g1 b9) b9 z9)) hx2_0 (show WgV cf E (xi (E 1) 0) (g1 v2_1.toNatClampNeg) v2_1.toNatClampNeg (g2_56 v2_1.toNatClampNeg) from ⟨fun _ => by rw [← ey7]; omega, fun q9 => absurd (by rw [← (show g2_56 v2_1.toNatClampNeg = g1 v2_1.toNatClampNeg from hx2_1 _ (Nat.le_refl _)), ← ey7]; omega) q9⟩) (by omega) (by omega)) (nx_hi hx2_1 (by omega) (by omega)) (by first | exact ms_su hx2_2 ty42 (by decide) | omega) hI hKp hr2_56 hP hS (lv_sub hl [0, 1] rfl)
  exact hL2 (17) g1 (0 : Int32) E _ _ _ (iv_w ln_0 (by decide)) (fun b9 h9 => absurd h9 (Nat.not_lt_zero b9)) (fun b9 _ => rfl) (by have h9 := ln_0; first | exact ms_bu h9.1 (by decide) | omega) hI hKp hg1 hP hS (lv_sub hl [0, 1] rfl)
def v_boatInX : List Cond := .code yX3_boatWithin cX3_boatWithin 4 (some .int) :: vA
abbrev rm_boatInX : Room := { frames := 0, cells := 0, slots := 0, locals := 0 }
set_option maxHeartbeats 4000000 in
set_option maxRecDepth 100000 in
theorem q_boatInX (l : Launch) (dC : Nat → ClassId) (dI : Nat → Nat → Nat) (cT : Nat → ClassId) (cf : Nat → Nat) (hC : CF cf) (ad : Nat → Nat) (E : Nat → va_E) (sz : Nat) (a0 : Int32) (hI0 : IXL cT (shC cf) (spC cf) (LC cf) ad E) (hh0 : 0 ≤ a0.toInt ∧ a0.toInt ≤ 32015) : Met l yX3_boatWithin v_boatInX rm_boatInX (va_Pc [.ref (ad 6), .int a0] (HWL dC dI (TYC cT) cf ad E sz)) (va_Qi (S := Unit) (fun r _ => (r = -1 ∧ (sumI (xi (E 56)) 16 ≤ a0.toInt)) ∨ ((0 ≤ r.toInt ∧ r.toInt ≤ 15) ∧ (PkR (xi (E 56)) 16 a0.toInt r.toNatClampNeg))) (fun _ _ => True) (fun _ => False)) 0 0 (fun _ => False) := by
  obtain ⟨⟨hc0, hc1, hc2, hc3, hc4, hc5⟩, hcr⟩ := id hC
  refine Met.ofW (cc := cX3_boatWithin) (maxL := 4) (ret := (some .int)) (by decide) rfl ?_
  intro p e s m args below meth c s₁ B hml hv
  obtain ⟨hargs, hsz, hP, hK, hD0, hEV⟩ := hv
  subst hsz
  have hx := B.exec
  have hb := B.bytes
  have hr := B.returns
  have hts := atoms_spec (ws := v_boatInX) B.pre
  have hown : s.vm.findClass RX3 = some m.cls := findClass_of_methodNamed B.named
  have hlocks := B.notSynchronized
  have hinX3 : ∀ w ∈ u_ws RX3 TX3 18, w ∈ v_boatInX := fun w h => vA_in _ w (in_X3 w h)
  have hS : va_S (fun _ : Nat => False) s.heap s.heap [] := va_S.rf
  have hD := hD0
  have hI := hI0
  have hKp : Kp (wl [] []) E E := Kp.rf
  have hl := lv_entry ([.ref (ad 6), .int a0]) (n := 4) (Nat.le_of_ble_eq_true rfl)
  obtain ⟨Q, hQ⟩ : ∃ Q, Q = MQ below (va_Qi (S := Unit) (fun r _ => (r = -1 ∧ (sumI (xi (E 56)) 16 ≤ a0.toInt)) ∨ ((0 ≤ r.toInt ∧ r.toInt ≤ 15) ∧ (PkR (xi (E 56)) 16 a0.toInt r.toNatClampNeg))) (fun _ _ => True) (fun _ => False)) args s 0 0 (fun _ => False) := ⟨_, rfl⟩
  rw [← hQ, show entryFrame m args 4 = _ from (congrArg (fun z => entryFrame m z 4) hargs).trans (lg_entry_eq _ _ _)]
  generalize (lg_sl ([.ref (ad 6), .int a0]) ++ List.replicate (4 - (lg_sl ([.ref (ad 6), .int a0])).length) Slot.unset).toArray = ls at hl ⊢
  have hl : lv_has ls 4 [(0, .ref (ad 6)), (1, .int a0)] := hl
  have z0z : (0 : Int32).toInt = 0 := rfl
  refine lv_iload_n hx hb dX3_boatWithin_0 rfl (lv_at hl 1 rfl) ?_
  refine lv_istore_n (lv' := [(2, .int a0), (0, .ref (ad 6)), (1, .int a0)]) hx hb dX3_boatWithin_1 rfl hl (by decide) rfl (fun ls hl => ?_)
  refine lv_iconst (v := 0) hx hb dX3_boatWithin_2 (by decide) ?_
  refine lv_istore_n (lv' := [(3, .int 0), (2, .int a0), (0, .ref (ad 6)), (1, .int a0)]) hx hb dX3_boatWithin_3 rfl hl (by decide) rfl (fun ls hl => ?_)
  have hL4 : ∀ d : Nat, ∀ (v4_3 : Int32) (v4_2 : Int32) (H : Heap) (locs : List Loc) (ls : Array Slot), 0 ≤ v4_3.toInt ∧ v4_3.toInt ≤ 16 → 0 ≤ v4_2.toInt ∧ v4_2.toInt ≤ 32015 → v4_2.toInt = a0.toInt - sumI (xi (E 56)) v4_3.toNatClampNeg → 0 ≤ v4_2.toInt ∧ v4_2.toInt ≤ 32015 → 16 - v4_3.toInt < (d : Int) → va_P (dC, dI) vwCl (WL (LC cf) ad E) H → va_S (fun _ : Nat => False) s.heap H locs → lv_has ls 4 [(3, .int v4_3), (2, .int v4_2), (0, .ref (ad 6)), (1, .int a0)] → W p l e (headSpec v_boatInX rm_boatInX).room s m args below meth c H locs 0 0 Q (F0 m 4 ls []) := by
    intro d
    induction d with
    | zero =>
      intro v4_3 v4_2 H locs ls hv4_3 hv4_2 hx4_0 hx4_1 hx4_2 hP hS hl
      exact absurd hx4_2 (by first | exact ms_zu hv4_3.2 | omega)
    | succ d ih4 =>
      intro v4_3 v4_2 H locs ls hv4_3 hv4_2 hx4_0 hx4_1 hx4_2 hP hS hl
      refine lv_iload_n hx hb dX3_boatWithin_4 rfl (lv_at hl 0 rfl) ?_
      refine lv_bipush (v := 16) hx hb dX3_boatWithin_5 (by decide) ?_
      refine lv_icmp_ge (tgt := 37) hx hb dX3_boatWithin_7 (by decide) (fun c1 => ?_) (fun c1 => ?_)
      · --7 taken
        have t2 : (16 : Int) ≤ v4_3.toInt := ti_le c1
        have i3 : 16 ≤ v4_3.toInt ∧ v4_3.toInt ≤ 16 := iv_le_r t2 (il_ 16) hv4_3 (by decide)
        refine lv_iconst (v := -1) hx hb dX3_boatWithin_37 (by decide) ?_
        rw [hQ]
        exact W.iret (v := (-1)) hx hb hr (fun t ht hW => ⟨⟨(-1), (), rfl, Or.inl ⟨rfl, (by have h9 := hx4_0; rw [show v4_3.toNatClampNeg = 16 by rw [tn_]; omega] at h9; omega)⟩, trivial⟩, hS.F ht⟩) hS.2.2 dX3_boatWithin_38
      · --7 not
        have t4 : v4_3.toInt < 16 := ti_nle c1
        have i5 : 0 ≤ v4_3.toInt ∧ v4_3.toInt ≤ 15 := iv_lt_l t4 hv4_3 (il_ 16) (by decide)
        refine lv_iload_n hx hb dX3_boatWithin_10 rfl (lv_at hl 1 rfl) ?_
        refine lv_aload_n hx hb dX3_boatWithin_11 rfl (lv_at hl 2 rfl) ?_
        refine th_getL (ci := 4) (C := RX3) (T := TX3) (N := 18) (v := .ref (ad 56)) hx hb hts hinX3 hown hK hP hI 6 (mF 6 rfl) rfl rfl 17 (Nat.le_of_ble_eq_true rfl) (hts _ (vA_in _ _ (in_16 _ (zs16 (zs16 (zs4 (zs1 (zs0)))))))) (fun _ h9 => h9) (hI.fr 6 (mF 6 rfl) rfl (Nat.le_of_ble_eq_true rfl) 56 rfl) dX3_boatWithin_12 ?_
        refine lv_iload_n hx hb dX3_boatWithin_15 rfl (lv_at hl 0 rfl) ?_
        have n7 : vp_in v4_3 16 := (iv_in (n := 16) i5 (by decide))
        refine th_ialdL hx hb hK hP hI 56 (mF 56 rfl) rfl rfl n7 dX3_boatWithin_16 (fun y6 ey6 => ?_)
        have iy6 : 0 ≤ y6.toInt ∧ y6.toInt ≤ 2001 := hI.el 56 (mF 56 rfl) rfl n7 (fun _ => rfl) ey6
        have ey6 := ey6.trans (hKp.ei 56 _ rfl)
        refine lv_icmp_ge (tgt := 22) hx hb dX3_boatWithin_17 (by decide) (fun c8 => ?_) (fun c8 => ?_)
        · --17 taken
          have t9 : y6.toInt ≤ v4_2.toInt := ti_le c8
          refine lv_iload_n hx hb dX3_boatWithin_22 rfl (lv_at hl 1 rfl) ?_
          refine lv_aload_n hx hb dX3_boatWithin_23 rfl (lv_at hl 2 rfl) ?_
          refine th_getL (ci := 4) (C := RX3) (T := TX3) (N := 18) (v := .ref (ad 56)) hx hb hts hinX3 hown hK hP hI 6 (mF 6 rfl) rfl rfl 17 (Nat.le_of_ble_eq_true rfl) (hts _ (vA_in _ _ (in_16 _ (zs16 (zs16 (zs4 (zs1 (zs0)))))))) (fun _ h9 => h9) (hI.fr 6 (mF 6 rfl) rfl (Nat.le_of_ble_eq_true rfl) 56 rfl) dX3_boatWithin_24 ?_
          refine lv_iload_n hx hb dX3_boatWithin_27 rfl (lv_at hl 0 rfl) ?_
          have n11 : vp_in v4_3 16 := (iv_in (n := 16) i5 (by decide))
          refine th_ialdL hx hb hK hP hI 56 (mF 56 rfl) rfl rfl n11 dX3_boatWithin_28 (fun y10 ey10 => ?_)
          have iy10 : 0 ≤ y10.toInt ∧ y10.toInt ≤ 2001 := hI.el 56 (mF 56 rfl) rfl n11 (fun _ => rfl) ey10
          have ey10 := ey10.trans (hKp.ei 56 _ rfl)
          refine lv_isub hx hb dX3_boatWithin_29 ?_
          refine lv_topi (fun y12 ey12 => ?_)
          obtain ⟨ty12, iy12⟩ := ti_sub (e := (-2001)) (f := 32015) hv4_2 iy10 ey12 (by decide)
          have ty12 : y12.toInt = v4_2.toInt - y10.toInt := ty12
          have iy12 : -2001 ≤ y12.toInt ∧ y12.toInt ≤ 32015 := iy12
          have i13 : 0 ≤ y12.toInt ∧ y12.toInt ≤ 32015 := by have q7 := congrArg Int32.toInt (ey6.trans ey10.symm); omega
          refine lv_istore_n (lv' := [(2, .int y12), (3, .int v4_3), (0, .ref (ad 6)), (1, .int a0)]) hx hb dX3_boatWithin_30 rfl hl (by decide) rfl (fun ls hl => ?_)
          obtain ⟨y14, ey14⟩ : ∃ y : Int32, y = v4_3 + (1 : Int32) := ⟨_, rfl⟩
          obtain ⟨ty14, iy14⟩ := ti_add (e := 1) (f := 16) i5 ln_1 ey14 (by decide)
          have ty14 : y14.toInt = v4_3.toInt + 1 := ty14
          have iy14 : 1 ≤ y14.toInt ∧ y14.toInt ≤ 16 := iy14
          refine lv_iinc (v := y14) (lv' := [(3, .int y14), (2, .int y12), (0, .ref (ad 6)), (1, .int a0)]) hx hb dX3_boatWithin_31 hl (k := 1) rfl (by rw [ey14]; rfl) (by decide) rfl (fun ls hl => ?_)
          refine lv_goto (tgt := 4) hx hb dX3_boatWithin_34 (by decide) ?_
          exact ih4 y14 y12 _ _ _ (iv_w iy14 (by decide)) i13 (by rw [show y14.toNatClampNeg = v4_3.toNatClampNeg + 1 by rw [tn_ y14, tn_ v4_3]; omega]; show y12.toInt = a0.toInt - (sumI (xi (E 56)) v4_3.toNatClampNeg + (xi (E 56) v4_3.toNatClampNeg).toInt); rw [← ey10]; omega) (by omega) (by first | exact ms_su hx4_2 ty14 (by decide) | omega) hP hS (lv_sub hl [0, 1, 2, 3] rfl)
        · --17 not
          have t15 : v4_2.toInt < y6.toInt := ti_nle c8
          have i16 : 0 ≤ v4_2.toInt ∧ v4_2.toInt ≤ 2000 := iv_lt_l t15 hv4_2 iy6 (by decide)
          have i17 : 1 ≤ y6.toInt ∧ y6.toInt ≤ 2001 := iv_lt_r t15 hv4_2 iy6 (by decide)
          refine lv_iload_n hx hb dX3_boatWithin_20 rfl (lv_at hl 0 rfl) ?_
          rw [hQ]
          exact W.iret (v := v4_3) hx hb hr (fun t ht hW => ⟨⟨v4_3, (), rfl, Or.inr (⟨i5, ⟨by rw [tn_]; omega, by omega, by rw [← ey6]; omega⟩⟩), trivial⟩, hS.F ht⟩) hS.2.2 dX3_boatWithin_21
  exact hL4 (17) (0 : Int32) a0 _ _ _ (iv_w ln_0 (by decide)) hh0 (show a0.toInt = a0.toInt - 0 by omega) (by omega) (by have h9 := ln_0; first | exact ms_bu h9.1 (by decide) | omega) hP hS (lv_sub hl [0, 1, 2, 3] rfl)
def v_drawOutX : List Cond := .code yX3_drawOut cX3_drawOut 10 (some .int) :: vA
abbrev rm_drawOutX : Room := { frames := 1, cells := 0, slots := 0, locals := 40 }
def w_drawOutX : Nat → Nat → Bool := wl [56] []
set_option maxHeartbeats 4000000 in
set_option maxRecDepth 100000 in
theorem q_drawOutX (l : Launch) (dC : Nat → ClassId) (dI : Nat → Nat → Nat) (cT : Nat → ClassId) (cf : Nat → Nat) (hC : CF cf) (ad : Nat → Nat) (E : Nat → va_E) (sz : Nat) (a0 : Int32) (a1 : Int64) (hI0 : IXL cT (shC cf) (spC cf) (LC cf) ad E) (hh0 : 1 ≤ a0.toInt ∧ a0.toInt ≤ 16) (hh1 : a0.toInt ≤ (posI (xi (E 56)) 16 : Int)) : Met l yX3_drawOut v_drawOutX rm_drawOutX (va_Pc [.ref (ad 6), .int a0, .long a1] (HWL dC dI (TYC cT) cf ad E sz)) (va_Qi (S := Nat → va_E) (fun r u => IXL cT (shC cf) (spC cf) (LC cf) ad u ∧ Kp w_drawOutX E u ∧ ((∃ (s0 : Int32) (g9 : Nat → Int32) (s9 : Int32) (x9 : Int64), s0.toInt = sumI (xi (E 56)) 16 ∧ DrR (xi (E 56)) s0 a1 16 a0.toNatClampNeg g9 s9 x9 r))) (HBL dC dI (LC cf) ad) (va_A (WL (LC cf) ad E) sz)) 0 0 (va_A (WL (LC cf) ad E) sz) := by
  obtain ⟨⟨hc0, hc1, hc2, hc3, hc4, hc5⟩, hcr⟩ := id hC
  refine Met.ofW (cc := cX3_drawOut) (maxL := 10) (ret := (some .int)) (by decide) rfl ?_
  intro p e s m args below meth c s₁ B hml hv
  obtain ⟨hargs, hsz, hP, hK, hD0, hEV⟩ := hv
  subst hsz
  have hx := B.exec
  have hb := B.bytes
  have hr := B.returns
  have hts := atoms_spec (ws := v_drawOutX) B.pre
  have hown : s.vm.findClass RX3 = some m.cls := findClass_of_methodNamed B.named
  have hlocks := B.notSynchronized
  have hinX3 : ∀ w ∈ u_ws RX3 TX3 18, w ∈ v_drawOutX := fun w h => vA_in _ w (in_X3 w h)
  generalize hAe : va_A (WL (LC cf) ad E) s.heap.size = A at hEV ⊢
  have hA : ∀ q : Nat, s.heap.size ≤ q → A q := fun q h => by rw [← hAe]; exact Or.inr h
  have hD : va_D A (WL (LC cf) ad E) := by rw [← hAe]; exact hD0.self
  have hS : va_S A s.heap s.heap [] := va_S.rf
  have hI := hI0
  have hKp : Kp w_drawOutX E E := Kp.rf
  have hl := lv_entry ([.ref (ad 6), .int a0, .long a1]) (n := 10) (Nat.le_of_ble_eq_true rfl)
  obtain ⟨Q, hQ⟩ : ∃ Q, Q = MQ below (va_Qi (S := Nat → va_E) (fun r u => IXL cT (shC cf) (spC cf) (LC cf) ad u ∧ Kp w_drawOutX E u ∧ ((∃ (s0 : Int32) (g9 : Nat → Int32) (s9 : Int32) (x9 : Int64), s0.toInt = sumI (xi (E 56)) 16 ∧ DrR (xi (E 56)) s0 a1 16 a0.toNatClampNeg g9 s9 x9 r))) (HBL dC dI (LC cf) ad) (A)) args s 0 0 (A) := ⟨_, rfl⟩
  rw [← hQ, show entryFrame m args 10 = _ from (congrArg (fun z => entryFrame m z 10) hargs).trans (lg_entry_eq _ _ _)]
  generalize (lg_sl ([.ref (ad 6), .int a0, .long a1]) ++ List.replicate (10 - (lg_sl ([.ref (ad 6), .int a0, .long a1])).length) Slot.unset).toArray = ls at hl ⊢
  have hl : lv_has ls 10 [(0, .ref (ad 6)), (1, .int a0), (2, .long a1)] := hl
  obtain ⟨g1, hg1⟩ : ∃ g, xi (E 56) = g := ⟨_, rfl⟩
  have z0z : (0 : Int32).toInt = 0 := rfl
  refine lv_iconst (v := 0) hx hb dX3_drawOut_0 (by decide) ?_
  refine lv_istore (lv' := [(4, .int 0), (0, .ref (ad 6)), (1, .int a0), (2, .long a1)]) hx hb dX3_drawOut_1 hl (by decide) rfl (fun ls hl => ?_)
  refine lv_iconst (v := 0) hx hb dX3_drawOut_3 (by decide) ?_
  refine lv_istore (lv' := [(5, .int 0), (4, .int 0), (0, .ref (ad 6)), (1, .int a0), (2, .long a1)]) hx hb dX3_drawOut_4 hl (by decide) rfl (fun ls hl => ?_)
  have hL6 : ∀ d : Nat, ∀ (v6_5 : Int32) (v6_4 : Int32) (H : Heap) (locs : List Loc) (ls : Array Slot), 0 ≤ v6_5.toInt ∧ v6_5.toInt ≤ 16 → 0 ≤ v6_4.toInt ∧ v6_4.toInt ≤ 32016 → v6_4.toInt = sumI g1 v6_5.toNatClampNeg → 0 ≤ v6_4.toInt ∧ v6_4.toInt ≤ 2001 * v6_5.toInt → 16 - v6_5.toInt < (d : Int) → va_P (dC, dI) vwCl (WL (LC cf) ad E) H → va_S A s.heap H locs → lv_has ls 10 [(5, .int v6_5), (4, .int v6_4), (0, .ref (ad 6)), (1, .int a0), (2, .long a1)] → W p l e (headSpec v_drawOutX rm_drawOutX).room s m args below meth c H locs 0 0 Q (F0 m 6 ls []) := by
    intro d
    induction d with
    | zero =>
      intro v6_5 v6_4 H locs ls hv6_5 hv6_4 hx6_0 hx6_1 hx6_2 hP hS hl
      exact absurd hx6_2 (by first | exact ms_zu hv6_5.2 | omega)
    | succ d ih6 =>
      intro v6_5 v6_4 H locs ls hv6_5 hv6_4 hx6_0 hx6_1 hx6_2 hP hS hl
      refine lv_iload hx hb dX3_drawOut_6 (lv_at hl 0 rfl) ?_
      refine lv_bipush (v := 16) hx hb dX3_drawOut_8 (by decide) ?_
      refine lv_icmp_ge (tgt := 31) hx hb dX3_drawOut_10 (by decide) (fun c2 => ?_) (fun c2 => ?_)
      · --10 taken
        have t3 : (16 : Int) ≤ v6_5.toInt := ti_le c2
        have i4 : 16 ≤ v6_5.toInt ∧ v6_5.toInt ≤ 16 := iv_le_r t3 (il_ 16) hv6_5 (by decide)
        refine lv_lload_n hx hb dX3_drawOut_31 rfl (lv_at hl 4 rfl) ?_
        refine lv_lstore (lv' := [(5, .long a1), (4, .int v6_4), (0, .ref (ad 6)), (1, .int a0), (2, .long a1)]) hx hb dX3_drawOut_32 hl (by decide) rfl (fun ls hl => ?_)
        refine lv_iconst (v := 0) hx hb dX3_drawOut_34 (by decide) ?_
        refine lv_istore (lv' := [(7, .int 0), (5, .long a1), (4, .int v6_4), (0, .ref (ad 6)), (1, .int a0), (2, .long a1)]) hx hb dX3_drawOut_35 hl (by decide) rfl (fun ls hl => ?_)
        refine lv_iconst (v := 0) hx hb dX3_drawOut_37 (by decide) ?_
        refine lv_istore (lv' := [(8, .int 0), (7, .int 0), (5, .long a1), (4, .int v6_4), (0, .ref (ad 6)), (1, .int a0), (2, .long a1)]) hx hb dX3_drawOut_38 hl (by decide) rfl (fun ls hl => ?_)
        have hL40 : ∀ d : Nat, ∀ (g40_56 : Nat → Int32) (v40_8 : Int32) (v40_7 : Int32) (v40_5 : Int64) (v40_4 : Int32) (E40_ : Nat → va_E) (H : Heap) (locs : List Loc) (ls : Array Slot), 0 ≤ v40_8.toInt ∧ v40_8.toInt ≤ 16 → 0 ≤ v40_7.toInt ∧ v40_7.toInt ≤ 65535 → -2000 ≤ v40_4.toInt ∧ v40_4.toInt ≤ 32016 → DrR g1 v6_4 a1 16 v40_8.toNatClampNeg g40_56 v40_4 v40_5 v40_7 → v40_4.toInt = sumI g40_56 16 → a0.toInt - v40_8.toInt ≤ (posI g40_56 16 : Int) → v40_8.toInt ≤ a0.toInt → 16 - v40_8.toInt < (d : Int) → IXL cT (shC cf) (spC cf) (LC cf) ad E40_ → Kp w_drawOutX E E40_ → xi (E40_ 56) = g40_56 → va_P (dC, dI) vwCl (WL (LC cf) ad E40_) H → va_S A s.heap H locs → lv_has ls 10 [(8, .int v40_8), (7, .int v40_7), (5, .long v40_5), (4, .int v40_4), (0, .ref (ad 6)), (1, .int a0), (2, .long a1)] → W p l e (headSpec v_drawOutX rm_drawOutX).room s m args below meth c H locs 0 0 Q (F0 m 40 ls []) := by
          intro d
          induction d with
          | zero =>
            intro g40_56 v40_8 v40_7 v40_5 v40_4 E40_ H locs ls hv40_8 hv40_7 hv40_4 hx40_0 hx40_1 hx40_2 hx40_3 hx40_4 hI hKp hr40_56 hP hS hl
            exact absurd hx40_4 (by first | exact ms_zu hv40_8.2 | omega)
          | succ d ih40 =>
            intro g40_56 v40_8 v40_7 v40_5 v40_4 E40_ H locs ls hv40_8 hv40_7 hv40_4 hx40_0 hx40_1 hx40_2 hx40_3 hx40_4 hI hKp hr40_56 hP hS hl
            refine lv_iload hx hb dX3_drawOut_40 (lv_at hl 0 rfl) ?_
            refine lv_iload_n hx hb dX3_drawOut_42 rfl (lv_at hl 5 rfl) ?_
            refine lv_icmp_ge (tgt := 123) hx hb dX3_drawOut_43 (by decide) (fun c5 => ?_) (fun c5 => ?_)
            · --43 taken
              have t6 : a0.toInt ≤ v40_8.toInt := ti_le c5
              have i7 : 1 ≤ v40_8.toInt ∧ v40_8.toInt ≤ 16 := iv_le_r t6 hh0 hv40_8 (by decide)
              refine lv_iload hx hb dX3_drawOut_123 (lv_at hl 1 rfl) ?_
              rw [hQ]
              exact W.iret (v := v40_7) hx hb hr (fun t ht hW => ⟨⟨v40_7, E40_, rfl, ⟨hI, hKp, ⟨v6_4, _, _, _, (by rw [show xi (E 56) = g1 from hg1]; have h9 := hx6_0; rw [show v6_5.toNatClampNeg = 16 by rw [tn_]; omega] at h9; exact h9), (by rw [show xi (E 56) = g1 from hg1, show a0.toNatClampNeg = v40_8.toNatClampNeg by rw [tn_, tn_]; omega]; exact hx40_0)⟩⟩, by show va_P (dC, dI) vwCl (WL (LC cf) ad E40_) t.heap; rw [ht]; exact hP⟩, hS.F ht⟩) hS.2.2 dX3_drawOut_125
            · --43 not
              have t8 : v40_8.toInt < a0.toInt := ti_nle c5
              have i9 : 0 ≤ v40_8.toInt ∧ v40_8.toInt ≤ 15 := iv_lt_l t8 hv40_8 hh0 (by decide)
              refine lv_iload hx hb dX3_drawOut_46 (lv_at hl 3 rfl) ?_
              refine lv_if_le (tgt := 123) hx hb dX3_drawOut_48 (by decide) (fun c10 => ?_) (fun c10 => ?_)
              · --48 taken
                have t11 : v40_4.toInt ≤ 0 := ti_le c10
                have i12 : -2000 ≤ v40_4.toInt ∧ v40_4.toInt ≤ 0 := iv_le_l t11 hv40_4 (il_ 0) (by decide)
                exfalso; have h9 := sumI_pos (g := g40_56) 16 (fun j9 h9 => by rw [← hr40_56]; exact (hI.iv 56 (mF 56 rfl) rfl (show j9 < 16 from h9) rfl).1); omega
              · --48 not
                have t13 : (0 : Int) < v40_4.toInt := ti_nle c10
                have i14 : 1 ≤ v40_4.toInt ∧ v40_4.toInt ≤ 32016 := iv_lt_r t13 (il_ 0) hv40_4 (by decide)
                have hns : ∀ j9, j9 < 16 → 0 ≤ (g40_56 j9).toInt ∧ (g40_56 j9).toInt ≤ 2001 := fun j9 h9 => by rw [← hr40_56]; exact hI.iv 56 (mF 56 rfl) rfl (show j9 < 16 from h9) rfl
                have hsl := sumI_le 16 hns
                refine lv_lload hx hb dX3_drawOut_51 (lv_at hl 2 rfl) ?_
                refine lv_ldc2 hx hb hown (hts _ (vA_in _ _ (in_17 _ (zs16 (zs4 (zs4 (zs4 (zs1 (zs1 (zs0)))))))))) dX3_drawOut_53 ?_
                refine lv_topl (fun y15 ey15 => ?_)
                refine lv_lmul hx hb dX3_drawOut_56 ?_
                refine lv_topl (fun y16 ey16 => ?_)
                refine lv_ldc2 hx hb hown (hts _ (vA_in _ _ (in_17 _ (zs16 (zs4 (zs4 (zs4 (zs1 (zs1 (zs1 (zs0))))))))))) dX3_drawOut_57 ?_
                refine lv_topl (fun y17 ey17 => ?_)
                refine lv_ladd hx hb dX3_drawOut_60 ?_
                refine lv_topl (fun y18 ey18 => ?_)
                refine lv_lstore (lv' := [(5, .long y18), (8, .int v40_8), (7, .int v40_7), (4, .int v40_4), (0, .ref (ad 6)), (1, .int a0), (2, .long a1)]) hx hb dX3_drawOut_61 hl (by decide) rfl (fun ls hl => ?_)
                refine lv_aload_n hx hb dX3_drawOut_63 rfl (lv_at hl 4 rfl) ?_
                refine lv_lload hx hb dX3_drawOut_64 (lv_at hl 0 rfl) ?_
                refine lv_bipush (v := 33) hx hb dX3_drawOut_66 (by decide) ?_
                refine lv_lushr hx hb dX3_drawOut_68 rfl ?_
                refine lv_topl (fun y19 ey19 => ?_)
                refine lv_iload hx hb dX3_drawOut_69 (lv_at hl 3 rfl) ?_
                refine lv_i2l hx hb dX3_drawOut_71 rfl ?_
                refine lv_topl (fun y20 ey20 => ?_)
                refine lv_lrem hx hb dX3_drawOut_72 (i2l_n0 ey20 (by omega)) ?_
                refine lv_topl (fun y21 ey21 => ?_)
                refine lv_l2i hx hb dX3_drawOut_73 rfl ?_
                refine lv_topi (fun y22 ey22 => ?_)
                obtain ⟨q1y22, q2y22⟩ := dr_place ey19 ey20 ey21 ey22 (by omega) (by omega)
                have i24 : 0 ≤ y22.toInt ∧ y22.toInt ≤ 32015 := by omega
                have k23 : y22 = plcL y18 v40_4 := plcL_of ey19 ey20 ey21 ey22
                refine th_riL (va_runV (As := [.int y22]) (rest := []) ⟨hx, hb, hml, hown, hts⟩ (q_boatInX l dC dI cT cf hC ad E40_ H.size y22 hI i24) (cwV 1 hts (gi_V (in_17 _ (zs16 (zs16 (zs0)))) (in_17 _ (zs16 (zs16 (zs1 (zs0))))) (in_17 _ (zs16 (zs16 (zs1 (zs1 (zs0)))))) (in_11 _ (zs4 (zs4 (zs4 (zs1 (zs1 (zs1 (zs0)))))))) (in_17 _ (zs16 (zs16 (zs1 (zs1 (zs1 (zs0)))))))) rfl rfl rfl ⟨rfl, hz_yX3_boatWithin_1⟩ ⟨Nat.le_of_ble_eq_true rfl, Nat.le_of_ble_eq_true rfl⟩) ⟨HWL_bl, va_recv hK hP (ci := 4) (q0 := posL 6 (LC cf)) rfl (hI.ob 6 (mF 6 rfl) rfl), (HWL_wi hP hK (WL_D hD) hS hA hEV)⟩ rfl rfl hl.1 rfl (lv_room (Nat.le_of_ble_eq_true rfl)) dX3_drawOut_74 ⟨Nat.le_of_ble_eq_true rfl, Nat.le_of_ble_eq_true rfl⟩) hS hP (fun r25 H locs hw hP hS => ?_)
                rcases hw with hw | hw
                · -- boatInX, case 0
                  obtain ⟨rfl, f26⟩ := hw
                  exfalso; have h9 := f26; rw [show xi (E40_ 56) = g40_56 from hr40_56] at h9; omega
                · -- boatInX, case 1
                  obtain ⟨f27, f28⟩ := hw
                  have k29 : PkR g40_56 16 (plcL y18 v40_4).toInt r25.toNatClampNeg := by have h9 := f28; rw [show xi (E40_ 56) = g40_56 from hr40_56, k23] at h9; exact h9
                  refine lv_istore (lv' := [(9, .int r25), (5, .long y18), (8, .int v40_8), (7, .int v40_7), (4, .int v40_4), (0, .ref (ad 6)), (1, .int a0), (2, .long a1)]) hx hb dX3_drawOut_77 hl (by decide) rfl (fun ls hl => ?_)
                  refine lv_iload hx hb dX3_drawOut_79 (lv_at hl 0 rfl) ?_
                  refine lv_iconst (v := -1) hx hb dX3_drawOut_81 (by decide) ?_
                  refine lv_icmp_ne (tgt := 88) hx hb dX3_drawOut_82 (by decide) (fun c30 => ?_) (fun c30 => ?_)
                  · --82 taken
                    have t31 : ¬ r25.toInt = -1 := ti_ne c30
                    refine lv_iload hx hb dX3_drawOut_88 (lv_at hl 3 rfl) ?_
                    refine lv_iconst (v := 1) hx hb dX3_drawOut_90 (by decide) ?_
                    refine lv_iload hx hb dX3_drawOut_91 (lv_at hl 0 rfl) ?_
                    refine lv_ishl hx hb dX3_drawOut_93 ?_
                    refine lv_topi (fun y32 ey32 => ?_)
                    have iy32 : 1 ≤ y32.toInt ∧ y32.toInt ≤ 32768 := ti_shl16 f27 ey32 (by decide)
                    refine lv_ior hx hb dX3_drawOut_94 ?_
                    refine lv_topi (fun y33 ey33 => ?_)
                    have iy33 : 0 ≤ y33.toInt ∧ y33.toInt ≤ 65535 := ti_or65535 ey33 (by omega) (by omega)
                    refine lv_istore (lv' := [(7, .int y33), (9, .int r25), (5, .long y18), (8, .int v40_8), (4, .int v40_4), (0, .ref (ad 6)), (1, .int a0), (2, .long a1)]) hx hb dX3_drawOut_95 hl (by decide) rfl (fun ls hl => ?_)
                    refine lv_iload hx hb dX3_drawOut_97 (lv_at hl 4 rfl) ?_
                    refine lv_aload_n hx hb dX3_drawOut_99 rfl (lv_at hl 5 rfl) ?_
                    refine th_getL (ci := 4) (C := RX3) (T := TX3) (N := 18) (v := .ref (ad 56)) hx hb hts hinX3 hown hK hP hI 6 (mF 6 rfl) rfl rfl 17 (Nat.le_of_ble_eq_true rfl) (hts _ (vA_in _ _ (in_16 _ (zs16 (zs16 (zs4 (zs1 (zs0)))))))) (fun _ h9 => h9) (hI.fr 6 (mF 6 rfl) rfl (Nat.le_of_ble_eq_true rfl) 56 rfl) dX3_drawOut_100 ?_
                    refine lv_iload hx hb dX3_drawOut_103 (lv_at hl 1 rfl) ?_
                    have n35 : vp_in r25 16 := (iv_in (n := 16) f27 (by decide))
                    refine th_ialdL hx hb hK hP hI 56 (mF 56 rfl) rfl rfl n35 dX3_drawOut_105 (fun y34 ey34 => ?_)
                    have iy34 : 0 ≤ y34.toInt ∧ y34.toInt ≤ 2001 := hI.el 56 (mF 56 rfl) rfl n35 (fun _ => rfl) ey34
                    have ey34 := ey34.trans (congrFun hr40_56 _)
                    refine lv_isub hx hb dX3_drawOut_106 ?_
                    refine lv_topi (fun y36 ey36 => ?_)
                    obtain ⟨ty36, iy36⟩ := ti_sub (e := (-2000)) (f := 32016) i14 iy34 ey36 (by decide)
                    have ty36 : y36.toInt = v40_4.toInt - y34.toInt := ty36
                    have iy36 : -2000 ≤ y36.toInt ∧ y36.toInt ≤ 32016 := iy36
                    refine lv_istore (lv' := [(4, .int y36), (7, .int y33), (9, .int r25), (5, .long y18), (8, .int v40_8), (0, .ref (ad 6)), (1, .int a0), (2, .long a1)]) hx hb dX3_drawOut_107 hl (by decide) rfl (fun ls hl => ?_)
                    refine lv_aload_n hx hb dX3_drawOut_109 rfl (lv_at hl 5 rfl) ?_
                    refine th_getL (ci := 4) (C := RX3) (T := TX3) (N := 18) (v := .ref (ad 56)) hx hb hts hinX3 hown hK hP hI 6 (mF 6 rfl) rfl rfl 17 (Nat.le_of_ble_eq_true rfl) (hts _ (vA_in _ _ (in_16 _ (zs16 (zs16 (zs4 (zs1 (zs0)))))))) (fun _ h9 => h9) (hI.fr 6 (mF 6 rfl) rfl (Nat.le_of_ble_eq_true rfl) 56 rfl) dX3_drawOut_110 ?_
                    refine lv_iload hx hb dX3_drawOut_113 (lv_at hl 2 rfl) ?_
                    refine lv_iconst (v := 0) hx hb dX3_drawOut_115 (by decide) ?_
                    have n37 : vp_in r25 16 := (iv_in (n := 16) f27 (by decide))
                    refine th_iastL hx hb hK hP (WL_D hD) hS hI 56 (mF 56 rfl) rfl rfl n37 (okI rfl (iv_w ln_0 (by decide))) dX3_drawOut_116 (fun H locs E38 pw39 hI hP hS => ?_)
                    have hKp := hKp.pw pw39 rfl
                    obtain ⟨g40, eg40⟩ : ∃ z : Nat → Int32, z = upd g40_56 r25.toNatClampNeg (0 : Int32) := ⟨_, rfl⟩
                    have hg40 : xi (E38 56) = g40 := by rw [pw39.eu, hr40_56, eg40]
                    obtain ⟨y41, ey41⟩ : ∃ y : Int32, y = v40_8 + (1 : Int32) := ⟨_, rfl⟩
                    obtain ⟨ty41, iy41⟩ := ti_add (e := 1) (f := 16) i9 ln_1 ey41 (by decide)
                    have ty41 : y41.toInt = v40_8.toInt + 1 := ty41
                    have iy41 : 1 ≤ y41.toInt ∧ y41.toInt ≤ 16 := iy41
                    refine lv_iinc (v := y41) (lv' := [(8, .int y41), (4, .int y36), (7, .int y33), (9, .int r25), (5, .long y18), (0, .ref (ad 6)), (1, .int a0), (2, .long a1)]) hx hb dX3_drawOut_117 hl (k := 4) rfl (by rw [ey41]; rfl) (by decide) rfl (fun ls hl => ?_)
                    refine lv_goto (tgt := 40) hx hb dX3_drawOut_120 (by decide) ?_
                    exact ih40 g40 y41 y33 y18 y36 E38 _ _ _ (iv_w iy41 (by decide)) iy33 iy36 (hx40_0.go (nxtL_of ey15 ey16 ey17 ey18) (by omega) k29 eg40 ey34 ey36 ey32 ey33 (by rw [tn_ y41, tn_ v40_8]; omega)) (by have h6 := sumI_upd (g := g40_56) (k := r25.toNatClampNeg) (x := 0) 16 (by rw [tn_]; omega); rw [← eg40, ← ey34] at h6; have z0 := ln_0; omega) (by have h6 := sumI_upd (g := g40_56) (k := r25.toNatClampNeg) (x := 0) 16 (by rw [tn_]; omega); rw [← eg40, ← ey34] at h6; have z0 := ln_0; have h4 := h6.2; split at h4 <;> split at h4 <;> omega) (by omega) (by first | exact ms_su hx40_4 ty41 (by decide) | omega) hI hKp hg40 hP hS (lv_sub hl [0, 2, 4, 1, 5, 6, 7] rfl)
                  · --82 not
                    have t42 : r25.toInt = -1 := ti_eq c30
                    have i43 : 0 ≤ r25.toInt ∧ r25.toInt ≤ -1 := iv_eqi t42 f27 (il_ (-1)) (by decide)
                    exact iv_no i43 (by decide)
        exact hL40 (17) g1 (0 : Int32) (0 : Int32) a1 v6_4 E _ _ _ (iv_w ln_0 (by decide)) (iv_w ln_0 (by decide)) (iv_w hv6_4 (by decide)) (show DrR g1 v6_4 a1 16 0 g1 v6_4 a1 0 from ⟨rfl, rfl, rfl, rfl⟩) (by have h9 := hx6_0; rw [show v6_5.toNatClampNeg = 16 by rw [tn_]; omega] at h9; exact h9) (by have h9 := hh1; have z9 := ln_0; rw [show xi (E 56) = g1 from hg1] at h9; omega) (by have z9 := ln_0; omega) (by have h9 := ln_0; first | exact ms_bu h9.1 (by decide) | omega) hI hKp hg1 hP hS (lv_sub hl [0, 1, 2, 3, 4, 5, 6] rfl)
      · --10 not
        have t44 : v6_5.toInt < 16 := ti_nle c2
        have i45 : 0 ≤ v6_5.toInt ∧ v6_5.toInt ≤ 15 := iv_lt_l t44 hv6_5 (il_ 16) (by decide)
        have i46 : 0 ≤ v6_4.toInt ∧ v6_4.toInt ≤ 30015 := by omega
        refine lv_iload hx hb dX3_drawOut_13 (lv_at hl 1 rfl) ?_
        refine lv_aload_n hx hb dX3_drawOut_15 rfl (lv_at hl 2 rfl) ?_
        refine th_getL (ci := 4) (C := RX3) (T := TX3) (N := 18) (v := .ref (ad 56)) hx hb hts hinX3 hown hK hP hI 6 (mF 6 rfl) rfl rfl 17 (Nat.le_of_ble_eq_true rfl) (hts _ (vA_in _ _ (in_16 _ (zs16 (zs16 (zs4 (zs1 (zs0)))))))) (fun _ h9 => h9) (hI.fr 6 (mF 6 rfl) rfl (Nat.le_of_ble_eq_true rfl) 56 rfl) dX3_drawOut_16 ?_
        refine lv_iload hx hb dX3_drawOut_19 (lv_at hl 0 rfl) ?_
        have n48 : vp_in v6_5 16 := (iv_in (n := 16) i45 (by decide))
        refine th_ialdL hx hb hK hP hI 56 (mF 56 rfl) rfl rfl n48 dX3_drawOut_21 (fun y47 ey47 => ?_)
        have iy47 : 0 ≤ y47.toInt ∧ y47.toInt ≤ 2001 := hI.el 56 (mF 56 rfl) rfl n48 (fun _ => rfl) ey47
        have ey47 := ey47.trans (congrFun hg1 _)
        refine lv_iadd hx hb dX3_drawOut_22 ?_
        refine lv_topi (fun y49 ey49 => ?_)
        obtain ⟨ty49, iy49⟩ := ti_add (e := 0) (f := 32016) i46 iy47 ey49 (by decide)
        have ty49 : y49.toInt = v6_4.toInt + y47.toInt := ty49
        have iy49 : 0 ≤ y49.toInt ∧ y49.toInt ≤ 32016 := iy49
        refine lv_istore (lv' := [(4, .int y49), (5, .int v6_5), (0, .ref (ad 6)), (1, .int a0), (2, .long a1)]) hx hb dX3_drawOut_23 hl (by decide) rfl (fun ls hl => ?_)
        obtain ⟨y50, ey50⟩ : ∃ y : Int32, y = v6_5 + (1 : Int32) := ⟨_, rfl⟩
        obtain ⟨ty50, iy50⟩ := ti_add (e := 1) (f := 16) i45 ln_1 ey50 (by decide)
        have ty50 : y50.toInt = v6_5.toInt + 1 := ty50
        have iy50 : 1 ≤ y50.toInt ∧ y50.toInt ≤ 16 := iy50
        refine lv_iinc (v := y50) (lv' := [(5, .int y50), (4, .int y49), (0, .ref (ad 6)), (1, .int a0), (2, .long a1)]) hx hb dX3_drawOut_25 hl (k := 1) rfl (by rw [ey50]; rfl) (by decide) rfl (fun ls hl => ?_)
        refine lv_goto (tgt := 6) hx hb dX3_drawOut_28 (by decide) ?_
        exact ih6 y50 y49 _ _ _ (iv_w iy50 (by decide)) iy49 (by rw [show y50.toNatClampNeg = v6_5.toNatClampNeg + 1 by rw [tn_ y50, tn_ v6_5]; omega]; show y49.toInt = sumI g1 v6_5.toNatClampNeg + (g1 v6_5.toNatClampNeg).toInt; rw [← ey47]; omega) (by omega) (by first | exact ms_su hx6_2 ty50 (by decide) | omega) hP hS (lv_sub hl [0, 1, 2, 3, 4] rfl)
  exact hL6 (17) (0 : Int32) (0 : Int32) _ _ _ (iv_w ln_0 (by decide)) (iv_w ln_0 (by decide)) (show (0 : Int32).toInt = 0 from rfl) (by have z9 := ln_0; omega) (by have h9 := ln_0; first | exact ms_bu h9.1 (by decide) | omega) hP hS (lv_sub hl [0, 1, 2, 3, 4] rfl)
def v_u_drawX : List Cond := .code yX12_draw cX12_draw 4 (some .int) :: vA
abbrev rm_u_drawX : Room := { frames := 8, cells := 0, slots := 0, locals := 320 }
def w_u_drawX : Nat → Nat → Bool := wl [19, 20, 26, 27, 28, 29, 30, 43, 44, 45, 46, 47, 48, 49, 51, 56] [(3, 6), (3, 7), (3, 8)]
set_option maxHeartbeats 4000000 in
set_option maxRecDepth 100000 in
theorem q_u_drawX (l : Launch) (dC : Nat → ClassId) (dI : Nat → Nat → Nat) (cT : Nat → ClassId) (cf : Nat → Nat) (hC : CF cf) (ad : Nat → Nat) (E : Nat → va_E) (sz : Nat) (a0 : Int32) (a1 : Int64) (hI0 : IXL cT (shC cf) (spC cf) (LC cf) ad E) (hh0 : RulAll cf E) : Met l yX12_draw v_u_drawX rm_u_drawX (va_Pc [.ref (ad 0), .int a0, .long a1] (HWL dC dI (TYC cT) cf ad E sz)) (va_Qi (S := Nat → va_E) (fun r u => IXL cT (shC cf) (spC cf) (LC cf) ad u ∧ Kp w_u_drawX E u ∧ ((DwR (cxC cf E) (WdC cf E (xi (E 1) 0)) 16 a0.toInt a1 r))) (HBL dC dI (LC cf) ad) (va_A (WL (LC cf) ad E) sz)) 0 0 (va_A (WL (LC cf) ad E) sz) := by
  obtain ⟨⟨hc0, hc1, hc2, hc3, hc4, hc5⟩, hcr⟩ := id hC
  refine Met.ofW (cc := cX12_draw) (maxL := 4) (ret := (some .int)) (by decide) rfl ?_
  intro p e s m args below meth c s₁ B hml hv
  obtain ⟨hargs, hsz, hP, hK, hD0, hEV⟩ := hv
  subst hsz
  have hx := B.exec
  have hb := B.bytes
  have hr := B.returns
  have hts := atoms_spec (ws := v_u_drawX) B.pre
  have hown : s.vm.findClass RX12 = some m.cls := findClass_of_methodNamed B.named
  have hlocks := B.notSynchronized
  have hinX12 : ∀ w ∈ u_ws RX12 TX12 6, w ∈ v_u_drawX := fun w h => vA_in _ w (in_X12 w h)
  generalize hAe : va_A (WL (LC cf) ad E) s.heap.size = A at hEV ⊢
  have hA : ∀ q : Nat, s.heap.size ≤ q → A q := fun q h => by rw [← hAe]; exact Or.inr h
  have hD : va_D A (WL (LC cf) ad E) := by rw [← hAe]; exact hD0.self
  have hS : va_S A s.heap s.heap [] := va_S.rf
  have hI := hI0
  have hKp : Kp w_u_drawX E E := Kp.rf
  have hl := lv_entry ([.ref (ad 0), .int a0, .long a1]) (n := 4) (Nat.le_of_ble_eq_true rfl)
  obtain ⟨Q, hQ⟩ : ∃ Q, Q = MQ below (va_Qi (S := Nat → va_E) (fun r u => IXL cT (shC cf) (spC cf) (LC cf) ad u ∧ Kp w_u_drawX E u ∧ ((DwR (cxC cf E) (WdC cf E (xi (E 1) 0)) 16 a0.toInt a1 r))) (HBL dC dI (LC cf) ad) (A)) args s 0 0 (A) := ⟨_, rfl⟩
  rw [← hQ, show entryFrame m args 4 = _ from (congrArg (fun z => entryFrame m z 4) hargs).trans (lg_entry_eq _ _ _)]
  generalize (lg_sl ([.ref (ad 0), .int a0, .long a1]) ++ List.replicate (4 - (lg_sl ([.ref (ad 0), .int a0, .long a1])).length) Slot.unset).toArray = ls at hl ⊢
  have hl : lv_has ls 4 [(0, .ref (ad 0)), (1, .int a0), (2, .long a1)] := hl
  have z0z : (0 : Int32).toInt = 0 := rfl
  refine lv_iload_n hx hb dX12_draw_0 rfl (lv_at hl 1 rfl) ?_
  refine lv_iconst (v := 1) hx hb dX12_draw_1 (by decide) ?_
  refine lv_icmp_lt (tgt := 16) hx hb dX12_draw_2 (by decide) (fun c1 => ?_) (fun c1 => ?_)
  · --2 taken
    have t2 : a0.toInt < 1 := ti_lt c1
    have i3 : -2147483648 ≤ a0.toInt ∧ a0.toInt ≤ 0 := iv_lt_l t2 (iv_all _) (il_ 1) (by decide)
    refine lv_iconst (v := -1) hx hb dX12_draw_16 (by decide) ?_
    rw [hQ]
    exact W.iret (v := (-1)) hx hb hr (fun t ht hW => ⟨⟨(-1), E, rfl, ⟨hI, hKp, ⟨fun _ => rfl, fun q9 => by exfalso; omega⟩⟩, by show va_P (dC, dI) vwCl (WL (LC cf) ad E) t.heap; rw [ht]; exact hP⟩, hS.F ht⟩) hS.2.2 dX12_draw_17
  · --2 not
    have t4 : (1 : Int) ≤ a0.toInt := ti_nlt c1
    have i5 : 1 ≤ a0.toInt ∧ a0.toInt ≤ 2147483647 := iv_le_r t4 (il_ 1) (iv_all _) (by decide)
    refine lv_iload_n hx hb dX12_draw_5 rfl (lv_at hl 1 rfl) ?_
    refine lv_aload_n hx hb dX12_draw_6 rfl (lv_at hl 0 rfl) ?_
    refine th_getL (ci := 13) (C := RX12) (T := TX12) (N := 6) (v := .ref (ad 6)) hx hb hts hinX12 hown hK hP hI 0 (mF 0 rfl) rfl rfl 5 (Nat.le_of_ble_eq_true rfl) (hts _ (vA_in _ _ (in_11 _ (zs4 (zs4 (zs0)))))) (fun _ h9 => h9) (hI.fr 0 (mF 0 rfl) rfl (Nat.le_of_ble_eq_true rfl) 6 rfl) dX12_draw_7 ?_
    refine th_iL (va_runV (As := []) (rest := [.int a0]) ⟨hx, hb, hml, hown, hts⟩ (q_markX l dC dI cT cf hC ad E s.heap.size hI) (cwV 0 hts (gi_V (in_16 _ (zs16 (zs16 (zs1 (zs0))))) (in_16 _ (zs16 (zs16 (zs1 (zs1 (zs0)))))) (in_16 _ (zs16 (zs16 (zs1 (zs1 (zs1 (zs0))))))) (in_11 _ (zs4 (zs4 (zs4 (zs1 (zs1 (zs1 (zs0)))))))) (in_16 _ (zs16 (zs16 (zs4 (zs0)))))) rfl rfl rfl ⟨rfl, hz_yX3_markCertified_0⟩ ⟨Nat.le_of_ble_eq_true rfl, Nat.le_of_ble_eq_true rfl⟩) ⟨HWL_bl, va_recv hK hP (ci := 4) (q0 := posL 6 (LC cf)) rfl (hI.ob 6 (mF 6 rfl) rfl), (HWL_wi hP hK (WL_D hD) hS hA hEV)⟩ rfl rfl hl.1 rfl (lv_room (Nat.le_of_ble_eq_true rfl)) dX12_draw_10 ⟨Nat.le_of_ble_eq_true rfl, Nat.le_of_ble_eq_true rfl⟩) (WL_D hD) hS hA (fun r6 E7 H locs hw hP hS => ?_)
    obtain ⟨hI, kq8, hw⟩ := hw
    have hKb := hKp
    have hKp := hKp.tr kq8 (wl_sub rfl rfl)
    obtain ⟨f9, f10, f11⟩ := hw
    obtain ⟨g12, hg12⟩ : ∃ g, xi (E7 56) = g := ⟨_, rfl⟩
    have k13 : MkR (cxC cf E) g12 := by rw [← hg12]; exact f10
    have hbc := CnR.bd 16 _ f11
    refine lv_icmp_le (tgt := 18) hx hb dX12_draw_13 (by decide) (fun c14 => ?_) (fun c14 => ?_)
    · --13 taken
      have t15 : a0.toInt ≤ r6.toInt := ti_le c14
      have i16 : 1 ≤ a0.toInt ∧ a0.toInt ≤ 16 := iv_le_l t15 i5 f9 (by decide)
      have i17 : 1 ≤ r6.toInt ∧ r6.toInt ≤ 16 := iv_le_r t15 i5 f9 (by decide)
      refine lv_aload_n hx hb dX12_draw_18 rfl (lv_at hl 0 rfl) ?_
      refine th_getL (ci := 13) (C := RX12) (T := TX12) (N := 6) (v := .ref (ad 6)) hx hb hts hinX12 hown hK hP hI 0 (mF 0 rfl) rfl rfl 5 (Nat.le_of_ble_eq_true rfl) (hts _ (vA_in _ _ (in_11 _ (zs4 (zs4 (zs0)))))) (fun _ h9 => h9) (hI.fr 0 (mF 0 rfl) rfl (Nat.le_of_ble_eq_true rfl) 6 rfl) dX12_draw_19 ?_
      refine th_vL (va_runV (As := []) (rest := []) ⟨hx, hb, hml, hown, hts⟩ (q_loadAllX l dC dI cT cf hC ad E7 H.size hI (by exact (fun i9 hi9 => (hh0 i9 hi9).cg (kp_rul hKp (fun o9 ho9 j9 => wl_p rfl rfl ho9) i9)))) (cwV 0 hts (gi_V (in_11 _ (zs4 (zs4 (zs4 (zs0))))) (in_11 _ (zs4 (zs4 (zs4 (zs1 (zs0)))))) (in_11 _ (zs4 (zs4 (zs4 (zs1 (zs1 (zs0))))))) (in_11 _ (zs4 (zs4 (zs4 (zs1 (zs1 (zs1 (zs0)))))))) (in_11 _ (zs16 (zs0)))) rfl rfl rfl ⟨rfl, hz_yX3_loadAll_0⟩ ⟨Nat.le_of_ble_eq_true rfl, Nat.le_of_ble_eq_true rfl⟩) ⟨HWL_bl, va_recv hK hP (ci := 4) (q0 := posL 6 (LC cf)) rfl (hI.ob 6 (mF 6 rfl) rfl), (HWL_wi hP hK (WL_D hD) hS hA hEV)⟩ rfl rfl hl.1 rfl (lv_room (Nat.le_of_ble_eq_true rfl)) dX12_draw_22 ⟨Nat.le_of_ble_eq_true rfl, Nat.le_of_ble_eq_true rfl⟩) (WL_D hD) hS hA (fun E19 H locs hw hP hS => ?_)
      obtain ⟨hI, kq20, hw⟩ := hw
      have hKb := hKp
      have hKp := hKp.tr kq20 (wl_sub rfl rfl)
      have f21 := hw
      have i22 : 0 ≤ (xi (E 1) 0).toInt ∧ (xi (E 1) 0).toInt ≤ 400 := hI0.iv 1 (mF 1 rfl) rfl (Nat.le_of_ble_eq_true rfl) rfl
      try rw [hKb.ei 1 0 rfl] at f21
      have k23 : ∀ r9 : Nat, r9 < cf 2 → ∀ b9 : Nat, b9 < 16 → LdB cf E E19 (nI r9) (xi (E 1) 0) b9 := fun r9 h8 b9 h9 => (f21 r9 h8 b9 h9).k (K64.of hKb (fun o9 ho9 j9 => wl_p rfl rfl ho9))
      refine lv_aload_n hx hb dX12_draw_25 rfl (lv_at hl 0 rfl) ?_
      refine th_getL (ci := 13) (C := RX12) (T := TX12) (N := 6) (v := .ref (ad 6)) hx hb hts hinX12 hown hK hP hI 0 (mF 0 rfl) rfl rfl 5 (Nat.le_of_ble_eq_true rfl) (hts _ (vA_in _ _ (in_11 _ (zs4 (zs4 (zs0)))))) (fun _ h9 => h9) (hI.fr 0 (mF 0 rfl) rfl (Nat.le_of_ble_eq_true rfl) 6 rfl) dX12_draw_26 ?_
      refine th_vL (va_runV (As := []) (rest := []) ⟨hx, hb, hml, hown, hts⟩ (q_weighX l dC dI cT cf hC ad E19 H.size hI (by exact (fun i9 hi9 => (hh0 i9 hi9).cg (kp_rul hKp (fun o9 ho9 j9 => wl_p rfl rfl ho9) i9)))) (cwV 0 hts (gi_V (in_17 _ (zs1 (zs1 (zs0)))) (in_17 _ (zs1 (zs1 (zs1 (zs0))))) (in_17 _ (zs4 (zs0))) (in_11 _ (zs4 (zs4 (zs4 (zs1 (zs1 (zs1 (zs0)))))))) (in_17 _ (zs4 (zs1 (zs0))))) rfl rfl rfl ⟨rfl, hz_yX3_weigh_0⟩ ⟨Nat.le_of_ble_eq_true rfl, Nat.le_of_ble_eq_true rfl⟩) ⟨HWL_bl, va_recv hK hP (ci := 4) (q0 := posL 6 (LC cf)) rfl (hI.ob 6 (mF 6 rfl) rfl), (HWL_wi hP hK (WL_D hD) hS hA hEV)⟩ rfl rfl hl.1 rfl (lv_room (Nat.le_of_ble_eq_true rfl)) dX12_draw_29 ⟨Nat.le_of_ble_eq_true rfl, Nat.le_of_ble_eq_true rfl⟩) (WL_D hD) hS hA (fun E25 H locs hw hP hS => ?_)
      obtain ⟨hI, kq26, hw⟩ := hw
      have hKb := hKp
      have hKp := hKp.tr kq26 (wl_sub rfl rfl)
      have f27 := hw
      try rw [hKb.ei 1 0 rfl] at f27
      obtain ⟨g28, hg28⟩ : ∃ g, xi (E25 56) = g := ⟨_, rfl⟩
      have k29 : ∀ b9 : Nat, b9 < 16 → WdC cf E (xi (E 1) 0) b9 (g28 b9).toInt := fun b9 h9 => Wg_c (K64.of hKb (fun o9 ho9 j9 => wl_p rfl rfl ho9)) k13 h9 (by omega) k23 (by have h8 := f27 b9 h9; rw [show xi (E19 56) = g12 from ((kq20.ef 56 (fun _ => rfl)).trans hg12), show xi (E25 56) = g28 from hg28] at h8; exact h8)
      refine lv_aload_n hx hb dX12_draw_32 rfl (lv_at hl 0 rfl) ?_
      refine th_getL (ci := 13) (C := RX12) (T := TX12) (N := 6) (v := .ref (ad 6)) hx hb hts hinX12 hown hK hP hI 0 (mF 0 rfl) rfl rfl 5 (Nat.le_of_ble_eq_true rfl) (hts _ (vA_in _ _ (in_11 _ (zs4 (zs4 (zs0)))))) (fun _ h9 => h9) (hI.fr 0 (mF 0 rfl) rfl (Nat.le_of_ble_eq_true rfl) 6 rfl) dX12_draw_33 ?_
      refine lv_iload_n hx hb dX12_draw_36 rfl (lv_at hl 1 rfl) ?_
      refine lv_lload_n hx hb dX12_draw_37 rfl (lv_at hl 2 rfl) ?_
      refine th_iL (va_runV (As := [.int a0, .long a1]) (rest := []) ⟨hx, hb, hml, hown, hts⟩ (q_drawOutX l dC dI cT cf hC ad E25 H.size a0 a1 hI i16 (by rw [show xi (E25 56) = g28 from hg28, Wd_pos k29 f11]; omega)) (cwV 2 hts (gi_V (in_17 _ (zs16 (zs4 (zs4 (zs1 (zs1 (zs0))))))) (in_17 _ (zs16 (zs4 (zs4 (zs1 (zs1 (zs1 (zs0)))))))) (in_17 _ (zs16 (zs4 (zs4 (zs4 (zs0)))))) (in_11 _ (zs4 (zs4 (zs4 (zs1 (zs1 (zs1 (zs0)))))))) (in_17 _ (zs16 (zs4 (zs4 (zs4 (zs1 (zs0)))))))) rfl rfl rfl ⟨rfl, hz_yX3_drawOut_2⟩ ⟨Nat.le_of_ble_eq_true rfl, Nat.le_of_ble_eq_true rfl⟩) ⟨HWL_bl, va_recv hK hP (ci := 4) (q0 := posL 6 (LC cf)) rfl (hI.ob 6 (mF 6 rfl) rfl), (HWL_wi hP hK (WL_D hD) hS hA hEV)⟩ rfl rfl hl.1 rfl (lv_room (Nat.le_of_ble_eq_true rfl)) dX12_draw_38 ⟨Nat.le_of_ble_eq_true rfl, Nat.le_of_ble_eq_true rfl⟩) (WL_D hD) hS hA (fun r30 E31 H locs hw hP hS => ?_)
      obtain ⟨hI, kq32, hw⟩ := hw
      have hKb := hKp
      have hKp := hKp.tr kq32 (wl_sub rfl rfl)
      have f33 := hw
      rw [hQ]
      exact W.iret (v := r30) hx hb hr (fun t ht hW => ⟨⟨r30, E31, rfl, ⟨hI, hKp, ⟨fun q9 => by exfalso; omega, fun _ => ⟨_, f11, fun q9 => by exfalso; omega, fun _ => by obtain ⟨s0, g9, s9, x9, h8, h9⟩ := f33; rw [show xi (E25 56) = g28 from hg28] at h8 h9; exact ⟨_, s0, g9, s9, x9, k29, h8, h9⟩⟩⟩⟩, by show va_P (dC, dI) vwCl (WL (LC cf) ad E31) t.heap; rw [ht]; exact hP⟩, hS.F ht⟩) hS.2.2 dX12_draw_41
    · --13 not
      have t34 : r6.toInt < a0.toInt := ti_nle c14
      refine lv_iconst (v := -1) hx hb dX12_draw_16 (by decide) ?_
      rw [hQ]
      exact W.iret (v := (-1)) hx hb hr (fun t ht hW => ⟨⟨(-1), E7, rfl, ⟨hI, hKp, ⟨fun _ => rfl, fun _ => ⟨_, f11, fun _ => rfl, fun q9 => by exfalso; omega⟩⟩⟩, by show va_P (dC, dI) vwCl (WL (LC cf) ad E7) t.heap; rw [ht]; exact hP⟩, hS.F ht⟩) hS.2.2 dX12_draw_17
section
/-! ===== the DRAW of the reference (pure) ===== -/
/-- whether one of the first ones is it -/
def HsR (P : Nat → Prop) (k : Nat) (v : Int) : Prop := (v = 0 ∨ v = 1) ∧ (v = 1 ↔ ∃ i, i < k ∧ P i)
theorem HsR.start {P : Nat → Prop} {v : Int} (h : v = 0) : HsR P 0 v := ⟨Or.inl h, ⟨fun z => by omega, fun ⟨_, hi, _⟩ => absurd hi (Nat.not_lt_zero _)⟩⟩
theorem HsR.keep {P : Nat → Prop} {k k' : Nat} {v v' : Int} (h : HsR P k v) (hv : ¬ v = 0) (e : v' = 1) (ek : k' = k + 1) : HsR P k' v' := by
  subst ek
  refine ⟨Or.inr e, ⟨fun _ => ?_, fun _ => e⟩⟩
  obtain ⟨i, h1, h2⟩ := h.2.mp (by
    rcases h.1 with q | q
    · exact absurd q hv
    · exact q)
  exact ⟨i, by omega, h2⟩
theorem HsR.hit {P : Nat → Prop} {k k' : Nat} {v' : Int} (hp : P k) (e : v' = 1) (ek : k' = k + 1) : HsR P k' v' := by
  subst ek
  exact ⟨Or.inr e, ⟨fun _ => ⟨k, by omega, hp⟩, fun _ => e⟩⟩
theorem HsR.no {P : Nat → Prop} {k k' : Nat} {v v' : Int} (h : HsR P k v) (hv : v = 0) (hn : ¬ P k) (e : v' = 0) (ek : k' = k + 1) : HsR P k' v' := by
  subst ek
  refine ⟨Or.inl e, ⟨fun z => by omega, fun ⟨i, h1, h2⟩ => ?_⟩⟩
  exfalso
  by_cases q : i = k
  · rw [q] at h2
    exact hn h2
  · have := h.2.mpr ⟨i, by omega, h2⟩
    omega
def cxM (E : Nat → va_E) (b : Nat) : Prop := ∃ i, i < (xi (E 0) 9).toNatClampNeg ∧ (xi (E 1) i).toInt = (b : Int)
def ftMP (E : Nat → va_E) (b q : Int32) : Nat → Prop := fun r9 => ∃ x9 : Int32, MdM E b q r9 x9 ∧ ¬ x9.toInt = -1000000000
def ftMF (E : Nat → va_E) (b q : Int32) : Int → Nat → Int → Prop := fun v9 r9 x9 => ∃ s9 m9 : Int32, (MdM E b q r9 m9 ∧ ¬ m9.toInt = -1000000000 ∧ s9 = xi (E 27) (lRM E (nI r9) b q).toNatClampNeg) ∧ x9 = tFt s9 m9 v9
def WdM (E : Nat → va_E) (q : Int32) (b : Nat) (w : Int) : Prop := WgP (cxM E b) (FtR (ftMP E (nI b) q) (ftMF E (nI b) q) (xi (E 0) 46).toNatClampNeg) (numM E (nI b) q q) w
theorem cnM_y {E : Nat → va_E} {k k' c c' : Int32} (h : CnR (cxM E) k.toNatClampNeg c.toInt) (hp : cxM E k.toNatClampNeg) (ec : c'.toInt = c.toInt + 1) (ek : k'.toInt = k.toInt + 1) (h0 : 0 ≤ k.toInt) : CnR (cxM E) k'.toNatClampNeg c'.toInt := h.one hp ec (by rw [tn_, tn_]; omega)
theorem cnM_n {E : Nat → va_E} {k k' c c' : Int32} (h : CnR (cxM E) k.toNatClampNeg c.toInt) (hp : ¬ cxM E k.toNatClampNeg) (ec : c'.toInt = c.toInt) (ek : k'.toInt = k.toInt + 1) (h0 : 0 ≤ k.toInt) : CnR (cxM E) k'.toNatClampNeg c'.toInt := h.no hp ec (by rw [tn_, tn_]; omega)
end

