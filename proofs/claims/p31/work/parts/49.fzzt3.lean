set_option maxRecDepth 100000 in
theorem zh_dX0_areSome_0_0 : zc cX0_areSome 0 [27, 3, 4, 42, 180, 0, 48, 120, 4, 100, 184, 0, 52, 153, 0, 19] = true := by decide +kernel
set_option maxRecDepth 100000 in
theorem zh_dX0_areSome_16_16 : zc cX0_areSome 16 [27, 184, 0, 88, 5, 7, 184, 0, 52, 153, 0, 7, 4, 167, 0, 4] = true := by decide +kernel
set_option maxRecDepth 100000 in
theorem zh_dX0_areSome_32_32 : zc cX0_areSome 32 [3, 172] = true := by decide +kernel
set_option maxRecDepth 100000 in
theorem zh_dX3_evenOut_0_0 : zc cX3_evenOut 0 [3, 61, 3, 62, 29, 16, 16, 162, 0, 35, 27, 29, 122, 4, 126, 153] = true := by decide +kernel
set_option maxRecDepth 100000 in
theorem zh_dX3_evenOut_15_16 : zc cX3_evenOut 16 [0, 21, 28, 7, 161, 0, 6, 167, 0, 13, 42, 180, 0, 43, 28, 29] = true := by decide +kernel
set_option maxRecDepth 100000 in
theorem zh_dX3_evenOut_32_32 : zc cX3_evenOut 32 [79, 132, 2, 1, 132, 3, 1, 167, 255, 221, 42, 28, 182, 0, 143, 4] = true := by decide +kernel
set_option maxRecDepth 100000 in
theorem zh_dX3_evenOut_48_48 : zc cX3_evenOut 48 [62, 3, 54, 4, 21, 4, 28, 162, 0, 14, 29, 16, 7, 104, 62, 132] = true := by decide +kernel
set_option maxRecDepth 100000 in
theorem zh_dX3_evenOut_63_64 : zc cX3_evenOut 64 [4, 1, 167, 255, 242, 42, 18, 125, 181, 0, 146, 3, 54, 4, 3, 54] = true := by decide +kernel
set_option maxRecDepth 100000 in
theorem zh_dX3_evenOut_79_80 : zc cX3_evenOut 80 [5, 21, 5, 29, 162, 0, 126, 21, 5, 54, 6, 3, 54, 7, 28, 4] = true := by decide +kernel
set_option maxRecDepth 100000 in
theorem zh_dX3_evenOut_96_96 : zc cX3_evenOut 96 [100, 54, 8, 21, 8, 155, 0, 44, 42, 180, 0, 46, 21, 8, 21, 6] = true := by decide +kernel
set_option maxRecDepth 100000 in
theorem zh_dX3_evenOut_112_112 : zc cX3_evenOut 112 [16, 7, 112, 79, 21, 6, 16, 7, 108, 54, 6, 21, 7, 42, 180, 0] = true := by decide +kernel
set_option maxRecDepth 100000 in
theorem zh_dX3_evenOut_126_128 : zc cX3_evenOut 128 [46, 21, 8, 46, 6, 184, 0, 126, 96, 54, 7, 132, 8, 255, 167, 255] = true := by decide +kernel
set_option maxRecDepth 100000 in
theorem zh_dX3_evenOut_142_144 : zc cX3_evenOut 144 [213, 42, 28, 182, 0, 149, 54, 8, 21, 8, 42, 180, 0, 146, 163, 0] = true := by decide +kernel
set_option maxRecDepth 100000 in
theorem zh_dX3_evenOut_158_160 : zc cX3_evenOut 160 [46, 21, 8, 42, 180, 0, 146, 160, 0, 13, 21, 7, 21, 4, 161, 0] = true := by decide +kernel
set_option maxRecDepth 100000 in
theorem zh_dX3_evenOut_174_176 : zc cX3_evenOut 176 [6, 167, 0, 27, 42, 21, 8, 181, 0, 146, 21, 7, 54, 4, 42, 180] = true := by decide +kernel
set_option maxRecDepth 100000 in
theorem zh_dX3_evenOut_191_192 : zc cX3_evenOut 192 [0, 46, 3, 42, 180, 0, 49, 3, 7, 184, 0, 152, 132, 5, 1, 167] = true := by decide +kernel
set_option maxRecDepth 100000 in
theorem zh_dX3_evenOut_207_208 : zc cX3_evenOut 208 [255, 130, 177] = true := by decide +kernel
set_option maxRecDepth 100000 in
theorem zh_dX3_gatherChanged_0_0 : zc cX3_gatherChanged 0 [42, 3, 181, 0, 158, 3, 61, 28, 42, 180, 0, 55, 180, 0, 63, 182] = true := by decide +kernel
set_option maxRecDepth 100000 in
theorem zh_dX3_gatherChanged_15_16 : zc cX3_gatherChanged 16 [0, 69, 162, 0, 169, 42, 180, 0, 55, 180, 0, 63, 28, 182, 0, 99] = true := by decide +kernel
set_option maxRecDepth 100000 in
theorem zh_dX3_gatherChanged_32_32 : zc cX3_gatherChanged 32 [192, 0, 103, 180, 0, 105, 153, 0, 6, 167, 0, 140, 3, 62, 3, 54] = true := by decide +kernel
set_option maxRecDepth 100000 in
theorem zh_dX3_gatherChanged_47_48 : zc cX3_gatherChanged 48 [4, 21, 4, 27, 162, 0, 114, 28, 42, 180, 0, 43, 21, 4, 46, 184] = true := by decide +kernel
set_option maxRecDepth 100000 in
theorem zh_dX3_gatherChanged_63_64 : zc cX3_gatherChanged 64 [0, 89, 54, 5, 42, 180, 0, 11, 21, 5, 51, 153, 0, 6, 132, 3] = true := by decide +kernel
set_option maxRecDepth 100000 in
theorem zh_dX3_gatherChanged_78_80 : zc cX3_gatherChanged 80 [1, 3, 54, 6, 21, 6, 16, 7, 162, 0, 72, 4, 42, 180, 0, 19] = true := by decide +kernel
set_option maxRecDepth 100000 in
theorem zh_dX3_gatherChanged_96_96 : zc cX3_gatherChanged 96 [21, 5, 46, 21, 6, 96, 6, 100, 184, 0, 129, 54, 7, 42, 180, 0] = true := by decide +kernel
set_option maxRecDepth 100000 in
theorem zh_dX3_gatherChanged_110_112 : zc cX3_gatherChanged 112 [40, 42, 180, 0, 158, 21, 4, 184, 0, 161, 21, 6, 96, 42, 180, 0] = true := by decide +kernel
set_option maxRecDepth 100000 in
theorem zh_dX3_gatherChanged_126_128 : zc cX3_gatherChanged 128 [11, 21, 5, 51, 153, 0, 20, 42, 180, 0, 15, 21, 5, 46, 21, 7] = true := by decide +kernel
set_option maxRecDepth 100000 in
theorem zh_dX3_gatherChanged_144_144 : zc cX3_gatherChanged 144 [104, 17, 3, 232, 108, 167, 0, 4, 2, 79, 132, 6, 1, 167, 255, 183] = true := by decide +kernel
set_option maxRecDepth 100000 in
theorem zh_dX3_gatherChanged_160_160 : zc cX3_gatherChanged 160 [132, 4, 1, 167, 255, 142, 29, 5, 161, 0, 13, 42, 89, 180, 0, 158] = true := by decide +kernel
set_option maxRecDepth 100000 in
theorem zh_dX3_gatherChanged_176_176 : zc cX3_gatherChanged 176 [4, 96, 181, 0, 158, 132, 2, 1, 167, 255, 79, 177] = true := by decide +kernel
set_option maxRecDepth 100000 in
theorem zh_dX3_spreadTried_0_0 : zc cX3_spreadTried 0 [3, 61, 3, 62, 29, 42, 180, 0, 158, 162, 0, 99, 28, 42, 180, 0] = true := by decide +kernel
set_option maxRecDepth 100000 in
theorem zh_dX3_spreadTried_14_16 : zc cX3_spreadTried 16 [146, 163, 0, 91, 18, 125, 54, 4, 3, 54, 5, 3, 54, 6, 21, 6] = true := by decide +kernel
set_option maxRecDepth 100000 in
theorem zh_dX3_spreadTried_32_32 : zc cX3_spreadTried 32 [27, 162, 0, 61, 42, 180, 0, 40, 29, 21, 6, 184, 0, 161, 42, 180] = true := by decide +kernel
set_option maxRecDepth 100000 in
theorem zh_dX3_spreadTried_47_48 : zc cX3_spreadTried 48 [0, 46, 21, 6, 46, 96, 46, 54, 7, 21, 7, 2, 160, 0, 6, 167] = true := by decide +kernel
set_option maxRecDepth 100000 in
theorem zh_dX3_spreadTried_63_64 : zc cX3_spreadTried 64 [0, 25, 21, 7, 21, 4, 162, 0, 7, 21, 7, 54, 4, 21, 7, 21] = true := by decide +kernel
set_option maxRecDepth 100000 in
theorem zh_dX3_spreadTried_79_80 : zc cX3_spreadTried 80 [5, 164, 0, 7, 21, 7, 54, 5, 132, 6, 1, 167, 255, 195, 28, 21] = true := by decide +kernel
set_option maxRecDepth 100000 in
theorem zh_dX3_spreadTried_95_96 : zc cX3_spreadTried 96 [5, 21, 4, 100, 96, 61, 132, 3, 1, 167, 255, 155, 28, 172] = true := by decide +kernel
set_option maxRecDepth 100000 in
theorem zh_dX3_bestChangeOf_0_0 : zc cX3_bestChangeOf 0 [3, 61, 28, 7, 162, 0, 28, 42, 180, 0, 43, 28, 46, 27, 160, 0] = true := by decide +kernel
set_option maxRecDepth 100000 in
theorem zh_dX3_bestChangeOf_14_16 : zc cX3_bestChangeOf 16 [12, 42, 180, 0, 49, 28, 46, 6, 100, 172, 132, 2, 1, 167, 255, 229] = true := by decide +kernel
set_option maxRecDepth 100000 in
theorem zh_dX3_bestChangeOf_32_32 : zc cX3_bestChangeOf 32 [18, 108, 172] = true := by decide +kernel
set_option maxRecDepth 100000 in
theorem zh_dX12_even_0_0 : zc cX12_even 0 [42, 180, 0, 10, 27, 182, 0, 246, 154, 0, 5, 2, 172, 42, 180, 0] = true := by decide +kernel
set_option maxRecDepth 100000 in
theorem zh_dX12_even_14_16 : zc cX12_even 16 [51, 182, 0, 249, 42, 180, 0, 51, 27, 182, 0, 252, 42, 180, 0, 51] = true := by decide +kernel
set_option maxRecDepth 100000 in
theorem zh_dX12_even_32_32 : zc cX12_even 32 [180, 0, 255, 172] = true := by decide +kernel
set_option maxRecDepth 100000 in
theorem zh_dX12_change_0_0 : zc cX12_change 0 [42, 180, 0, 10, 27, 182, 0, 246, 153, 0, 22, 42, 180, 0, 10, 28] = true := by decide +kernel
set_option maxRecDepth 100000 in
theorem zh_dX12_change_16_16 : zc cX12_change 16 [182, 0, 66, 153, 0, 11, 27, 28, 122, 4, 126, 154, 0, 6, 18, 172] = true := by decide +kernel
set_option maxRecDepth 100000 in
theorem zh_dX12_change_32_32 : zc cX12_change 32 [172, 42, 180, 0, 51, 182, 0, 249, 42, 180, 0, 51, 27, 182, 0, 252] = true := by decide +kernel
set_option maxRecDepth 100000 in
theorem zh_dX12_change_48_48 : zc cX12_change 48 [42, 180, 0, 51, 28, 182, 1, 2, 172] = true := by decide +kernel
theorem dX0_areSome_0 : decode cX0_areSome 0 = .ok (.iload_n 1, 1) := zo_27 (zi_at zh_dX0_areSome_0_0 0 rfl)
theorem dX0_areSome_1 : decode cX0_areSome 1 = .ok (.iconst 0, 1) := zo_3 (zi_at zh_dX0_areSome_0_0 1 rfl)
theorem dX0_areSome_2 : decode cX0_areSome 2 = .ok (.iconst 1, 1) := zo_4 (zi_at zh_dX0_areSome_0_0 2 rfl)
theorem dX0_areSome_3 : decode cX0_areSome 3 = .ok (.aload_n 0, 1) := zo_42 (zi_at zh_dX0_areSome_0_0 3 rfl)
theorem dX0_areSome_4 : decode cX0_areSome 4 = .ok (.getfield 48, 3) := zo_180 (zi_at zh_dX0_areSome_0_0 4 rfl) (zi_at zh_dX0_areSome_0_0 5 rfl) (zi_at zh_dX0_areSome_0_0 6 rfl) rfl
theorem dX0_areSome_7 : decode cX0_areSome 7 = .ok (.ishl, 1) := zo_120 (zi_at zh_dX0_areSome_0_0 7 rfl)
theorem dX0_areSome_8 : decode cX0_areSome 8 = .ok (.iconst 1, 1) := zo_4 (zi_at zh_dX0_areSome_0_0 8 rfl)
theorem dX0_areSome_9 : decode cX0_areSome 9 = .ok (.isub, 1) := zo_100 (zi_at zh_dX0_areSome_0_0 9 rfl)
theorem dX0_areSome_10 : decode cX0_areSome 10 = .ok (.invokestatic 52, 3) := zo_184 (zi_at zh_dX0_areSome_0_0 10 rfl) (zi_at zh_dX0_areSome_0_0 11 rfl) (zi_at zh_dX0_areSome_0_0 12 rfl) rfl
theorem dX0_areSome_13 : decode cX0_areSome 13 = .ok (.ifCond .eq 19, 3) := zo_153 (zi_at zh_dX0_areSome_0_0 13 rfl) (zi_at zh_dX0_areSome_0_0 14 rfl) (zi_at zh_dX0_areSome_0_0 15 rfl) rfl
theorem dX0_areSome_16 : decode cX0_areSome 16 = .ok (.iload_n 1, 1) := zo_27 (zi_at zh_dX0_areSome_16_16 0 rfl)
theorem dX0_areSome_17 : decode cX0_areSome 17 = .ok (.invokestatic 88, 3) := zo_184 (zi_at zh_dX0_areSome_16_16 1 rfl) (zi_at zh_dX0_areSome_16_16 2 rfl) (zi_at zh_dX0_areSome_16_16 3 rfl) rfl
theorem dX0_areSome_20 : decode cX0_areSome 20 = .ok (.iconst 2, 1) := zo_5 (zi_at zh_dX0_areSome_16_16 4 rfl)
theorem dX0_areSome_21 : decode cX0_areSome 21 = .ok (.iconst 4, 1) := zo_7 (zi_at zh_dX0_areSome_16_16 5 rfl)
theorem dX0_areSome_22 : decode cX0_areSome 22 = .ok (.invokestatic 52, 3) := zo_184 (zi_at zh_dX0_areSome_16_16 6 rfl) (zi_at zh_dX0_areSome_16_16 7 rfl) (zi_at zh_dX0_areSome_16_16 8 rfl) rfl
theorem dX0_areSome_25 : decode cX0_areSome 25 = .ok (.ifCond .eq 7, 3) := zo_153 (zi_at zh_dX0_areSome_16_16 9 rfl) (zi_at zh_dX0_areSome_16_16 10 rfl) (zi_at zh_dX0_areSome_16_16 11 rfl) rfl
theorem dX0_areSome_28 : decode cX0_areSome 28 = .ok (.iconst 1, 1) := zo_4 (zi_at zh_dX0_areSome_16_16 12 rfl)
theorem dX0_areSome_29 : decode cX0_areSome 29 = .ok (.goto 4, 3) := zo_167 (zi_at zh_dX0_areSome_16_16 13 rfl) (zi_at zh_dX0_areSome_16_16 14 rfl) (zi_at zh_dX0_areSome_16_16 15 rfl) rfl
theorem dX0_areSome_32 : decode cX0_areSome 32 = .ok (.iconst 0, 1) := zo_3 (zi_at zh_dX0_areSome_32_32 0 rfl)
theorem dX0_areSome_33 : decode cX0_areSome 33 = .ok (.ireturn, 1) := zo_172 (zi_at zh_dX0_areSome_32_32 1 rfl)
theorem dX3_evenOut_0 : decode cX3_evenOut 0 = .ok (.iconst 0, 1) := zo_3 (zi_at zh_dX3_evenOut_0_0 0 rfl)
theorem dX3_evenOut_1 : decode cX3_evenOut 1 = .ok (.istore_n 2, 1) := zo_61 (zi_at zh_dX3_evenOut_0_0 1 rfl)
theorem dX3_evenOut_2 : decode cX3_evenOut 2 = .ok (.iconst 0, 1) := zo_3 (zi_at zh_dX3_evenOut_0_0 2 rfl)
theorem dX3_evenOut_3 : decode cX3_evenOut 3 = .ok (.istore_n 3, 1) := zo_62 (zi_at zh_dX3_evenOut_0_0 3 rfl)
theorem dX3_evenOut_4 : decode cX3_evenOut 4 = .ok (.iload_n 3, 1) := zo_29 (zi_at zh_dX3_evenOut_0_0 4 rfl)
theorem dX3_evenOut_5 : decode cX3_evenOut 5 = .ok (.bipush 16, 2) := zo_16 (zi_at zh_dX3_evenOut_0_0 5 rfl) (zi_at zh_dX3_evenOut_0_0 6 rfl) rfl
theorem dX3_evenOut_7 : decode cX3_evenOut 7 = .ok (.if_icmp .ge 35, 3) := zo_162 (zi_at zh_dX3_evenOut_0_0 7 rfl) (zi_at zh_dX3_evenOut_0_0 8 rfl) (zi_at zh_dX3_evenOut_0_0 9 rfl) rfl
theorem dX3_evenOut_10 : decode cX3_evenOut 10 = .ok (.iload_n 1, 1) := zo_27 (zi_at zh_dX3_evenOut_0_0 10 rfl)
theorem dX3_evenOut_11 : decode cX3_evenOut 11 = .ok (.iload_n 3, 1) := zo_29 (zi_at zh_dX3_evenOut_0_0 11 rfl)
theorem dX3_evenOut_12 : decode cX3_evenOut 12 = .ok (.ishr, 1) := zo_122 (zi_at zh_dX3_evenOut_0_0 12 rfl)
theorem dX3_evenOut_13 : decode cX3_evenOut 13 = .ok (.iconst 1, 1) := zo_4 (zi_at zh_dX3_evenOut_0_0 13 rfl)
theorem dX3_evenOut_14 : decode cX3_evenOut 14 = .ok (.iand, 1) := zo_126 (zi_at zh_dX3_evenOut_0_0 14 rfl)
theorem dX3_evenOut_15 : decode cX3_evenOut 15 = .ok (.ifCond .eq 21, 3) := zo_153 (zi_at zh_dX3_evenOut_0_0 15 rfl) (zi_at zh_dX3_evenOut_15_16 0 rfl) (zi_at zh_dX3_evenOut_15_16 1 rfl) rfl
theorem dX3_evenOut_18 : decode cX3_evenOut 18 = .ok (.iload_n 2, 1) := zo_28 (zi_at zh_dX3_evenOut_15_16 2 rfl)
theorem dX3_evenOut_19 : decode cX3_evenOut 19 = .ok (.iconst 4, 1) := zo_7 (zi_at zh_dX3_evenOut_15_16 3 rfl)
theorem dX3_evenOut_20 : decode cX3_evenOut 20 = .ok (.if_icmp .lt 6, 3) := zo_161 (zi_at zh_dX3_evenOut_15_16 4 rfl) (zi_at zh_dX3_evenOut_15_16 5 rfl) (zi_at zh_dX3_evenOut_15_16 6 rfl) rfl
theorem dX3_evenOut_23 : decode cX3_evenOut 23 = .ok (.goto 13, 3) := zo_167 (zi_at zh_dX3_evenOut_15_16 7 rfl) (zi_at zh_dX3_evenOut_15_16 8 rfl) (zi_at zh_dX3_evenOut_15_16 9 rfl) rfl
theorem dX3_evenOut_26 : decode cX3_evenOut 26 = .ok (.aload_n 0, 1) := zo_42 (zi_at zh_dX3_evenOut_15_16 10 rfl)
theorem dX3_evenOut_27 : decode cX3_evenOut 27 = .ok (.getfield 43, 3) := zo_180 (zi_at zh_dX3_evenOut_15_16 11 rfl) (zi_at zh_dX3_evenOut_15_16 12 rfl) (zi_at zh_dX3_evenOut_15_16 13 rfl) rfl
theorem dX3_evenOut_30 : decode cX3_evenOut 30 = .ok (.iload_n 2, 1) := zo_28 (zi_at zh_dX3_evenOut_15_16 14 rfl)
theorem dX3_evenOut_31 : decode cX3_evenOut 31 = .ok (.iload_n 3, 1) := zo_29 (zi_at zh_dX3_evenOut_15_16 15 rfl)
theorem dX3_evenOut_32 : decode cX3_evenOut 32 = .ok (.iastore, 1) := zo_79 (zi_at zh_dX3_evenOut_32_32 0 rfl)
theorem dX3_evenOut_33 : decode cX3_evenOut 33 = .ok (.iinc 2 1, 3) := zo_132 (zi_at zh_dX3_evenOut_32_32 1 rfl) (zi_at zh_dX3_evenOut_32_32 2 rfl) (zi_at zh_dX3_evenOut_32_32 3 rfl) rfl
theorem dX3_evenOut_36 : decode cX3_evenOut 36 = .ok (.iinc 3 1, 3) := zo_132 (zi_at zh_dX3_evenOut_32_32 4 rfl) (zi_at zh_dX3_evenOut_32_32 5 rfl) (zi_at zh_dX3_evenOut_32_32 6 rfl) rfl
theorem dX3_evenOut_39 : decode cX3_evenOut 39 = .ok (.goto (-35), 3) := zo_167 (zi_at zh_dX3_evenOut_32_32 7 rfl) (zi_at zh_dX3_evenOut_32_32 8 rfl) (zi_at zh_dX3_evenOut_32_32 9 rfl) rfl
theorem dX3_evenOut_42 : decode cX3_evenOut 42 = .ok (.aload_n 0, 1) := zo_42 (zi_at zh_dX3_evenOut_32_32 10 rfl)
theorem dX3_evenOut_43 : decode cX3_evenOut 43 = .ok (.iload_n 2, 1) := zo_28 (zi_at zh_dX3_evenOut_32_32 11 rfl)
theorem dX3_evenOut_44 : decode cX3_evenOut 44 = .ok (.invokevirtual 143, 3) := zo_182 (zi_at zh_dX3_evenOut_32_32 12 rfl) (zi_at zh_dX3_evenOut_32_32 13 rfl) (zi_at zh_dX3_evenOut_32_32 14 rfl) rfl
theorem dX3_evenOut_47 : decode cX3_evenOut 47 = .ok (.iconst 1, 1) := zo_4 (zi_at zh_dX3_evenOut_32_32 15 rfl)
theorem dX3_evenOut_48 : decode cX3_evenOut 48 = .ok (.istore_n 3, 1) := zo_62 (zi_at zh_dX3_evenOut_48_48 0 rfl)
theorem dX3_evenOut_49 : decode cX3_evenOut 49 = .ok (.iconst 0, 1) := zo_3 (zi_at zh_dX3_evenOut_48_48 1 rfl)
theorem dX3_evenOut_50 : decode cX3_evenOut 50 = .ok (.istore 4, 2) := zo_54 (zi_at zh_dX3_evenOut_48_48 2 rfl) (zi_at zh_dX3_evenOut_48_48 3 rfl)
theorem dX3_evenOut_52 : decode cX3_evenOut 52 = .ok (.iload 4, 2) := zo_21 (zi_at zh_dX3_evenOut_48_48 4 rfl) (zi_at zh_dX3_evenOut_48_48 5 rfl)
theorem dX3_evenOut_54 : decode cX3_evenOut 54 = .ok (.iload_n 2, 1) := zo_28 (zi_at zh_dX3_evenOut_48_48 6 rfl)
theorem dX3_evenOut_55 : decode cX3_evenOut 55 = .ok (.if_icmp .ge 14, 3) := zo_162 (zi_at zh_dX3_evenOut_48_48 7 rfl) (zi_at zh_dX3_evenOut_48_48 8 rfl) (zi_at zh_dX3_evenOut_48_48 9 rfl) rfl
theorem dX3_evenOut_58 : decode cX3_evenOut 58 = .ok (.iload_n 3, 1) := zo_29 (zi_at zh_dX3_evenOut_48_48 10 rfl)
theorem dX3_evenOut_59 : decode cX3_evenOut 59 = .ok (.bipush 7, 2) := zo_16 (zi_at zh_dX3_evenOut_48_48 11 rfl) (zi_at zh_dX3_evenOut_48_48 12 rfl) rfl
theorem dX3_evenOut_61 : decode cX3_evenOut 61 = .ok (.imul, 1) := zo_104 (zi_at zh_dX3_evenOut_48_48 13 rfl)
theorem dX3_evenOut_62 : decode cX3_evenOut 62 = .ok (.istore_n 3, 1) := zo_62 (zi_at zh_dX3_evenOut_48_48 14 rfl)
theorem dX3_evenOut_63 : decode cX3_evenOut 63 = .ok (.iinc 4 1, 3) := zo_132 (zi_at zh_dX3_evenOut_48_48 15 rfl) (zi_at zh_dX3_evenOut_63_64 0 rfl) (zi_at zh_dX3_evenOut_63_64 1 rfl) rfl
theorem dX3_evenOut_66 : decode cX3_evenOut 66 = .ok (.goto (-14), 3) := zo_167 (zi_at zh_dX3_evenOut_63_64 2 rfl) (zi_at zh_dX3_evenOut_63_64 3 rfl) (zi_at zh_dX3_evenOut_63_64 4 rfl) rfl
theorem dX3_evenOut_69 : decode cX3_evenOut 69 = .ok (.aload_n 0, 1) := zo_42 (zi_at zh_dX3_evenOut_63_64 5 rfl)
theorem dX3_evenOut_70 : decode cX3_evenOut 70 = .ok (.ldc 125, 2) := zo_18 (zi_at zh_dX3_evenOut_63_64 6 rfl) (zi_at zh_dX3_evenOut_63_64 7 rfl)
theorem dX3_evenOut_72 : decode cX3_evenOut 72 = .ok (.putfield 146, 3) := zo_181 (zi_at zh_dX3_evenOut_63_64 8 rfl) (zi_at zh_dX3_evenOut_63_64 9 rfl) (zi_at zh_dX3_evenOut_63_64 10 rfl) rfl
theorem dX3_evenOut_75 : decode cX3_evenOut 75 = .ok (.iconst 0, 1) := zo_3 (zi_at zh_dX3_evenOut_63_64 11 rfl)
theorem dX3_evenOut_76 : decode cX3_evenOut 76 = .ok (.istore 4, 2) := zo_54 (zi_at zh_dX3_evenOut_63_64 12 rfl) (zi_at zh_dX3_evenOut_63_64 13 rfl)
theorem dX3_evenOut_78 : decode cX3_evenOut 78 = .ok (.iconst 0, 1) := zo_3 (zi_at zh_dX3_evenOut_63_64 14 rfl)
theorem dX3_evenOut_79 : decode cX3_evenOut 79 = .ok (.istore 5, 2) := zo_54 (zi_at zh_dX3_evenOut_63_64 15 rfl) (zi_at zh_dX3_evenOut_79_80 0 rfl)
theorem dX3_evenOut_81 : decode cX3_evenOut 81 = .ok (.iload 5, 2) := zo_21 (zi_at zh_dX3_evenOut_79_80 1 rfl) (zi_at zh_dX3_evenOut_79_80 2 rfl)
theorem dX3_evenOut_83 : decode cX3_evenOut 83 = .ok (.iload_n 3, 1) := zo_29 (zi_at zh_dX3_evenOut_79_80 3 rfl)
theorem dX3_evenOut_84 : decode cX3_evenOut 84 = .ok (.if_icmp .ge 126, 3) := zo_162 (zi_at zh_dX3_evenOut_79_80 4 rfl) (zi_at zh_dX3_evenOut_79_80 5 rfl) (zi_at zh_dX3_evenOut_79_80 6 rfl) rfl
theorem dX3_evenOut_87 : decode cX3_evenOut 87 = .ok (.iload 5, 2) := zo_21 (zi_at zh_dX3_evenOut_79_80 7 rfl) (zi_at zh_dX3_evenOut_79_80 8 rfl)
theorem dX3_evenOut_89 : decode cX3_evenOut 89 = .ok (.istore 6, 2) := zo_54 (zi_at zh_dX3_evenOut_79_80 9 rfl) (zi_at zh_dX3_evenOut_79_80 10 rfl)
theorem dX3_evenOut_91 : decode cX3_evenOut 91 = .ok (.iconst 0, 1) := zo_3 (zi_at zh_dX3_evenOut_79_80 11 rfl)
theorem dX3_evenOut_92 : decode cX3_evenOut 92 = .ok (.istore 7, 2) := zo_54 (zi_at zh_dX3_evenOut_79_80 12 rfl) (zi_at zh_dX3_evenOut_79_80 13 rfl)
theorem dX3_evenOut_94 : decode cX3_evenOut 94 = .ok (.iload_n 2, 1) := zo_28 (zi_at zh_dX3_evenOut_79_80 14 rfl)
theorem dX3_evenOut_95 : decode cX3_evenOut 95 = .ok (.iconst 1, 1) := zo_4 (zi_at zh_dX3_evenOut_79_80 15 rfl)
theorem dX3_evenOut_96 : decode cX3_evenOut 96 = .ok (.isub, 1) := zo_100 (zi_at zh_dX3_evenOut_96_96 0 rfl)
theorem dX3_evenOut_97 : decode cX3_evenOut 97 = .ok (.istore 8, 2) := zo_54 (zi_at zh_dX3_evenOut_96_96 1 rfl) (zi_at zh_dX3_evenOut_96_96 2 rfl)
theorem dX3_evenOut_99 : decode cX3_evenOut 99 = .ok (.iload 8, 2) := zo_21 (zi_at zh_dX3_evenOut_96_96 3 rfl) (zi_at zh_dX3_evenOut_96_96 4 rfl)
theorem dX3_evenOut_101 : decode cX3_evenOut 101 = .ok (.ifCond .lt 44, 3) := zo_155 (zi_at zh_dX3_evenOut_96_96 5 rfl) (zi_at zh_dX3_evenOut_96_96 6 rfl) (zi_at zh_dX3_evenOut_96_96 7 rfl) rfl
theorem dX3_evenOut_104 : decode cX3_evenOut 104 = .ok (.aload_n 0, 1) := zo_42 (zi_at zh_dX3_evenOut_96_96 8 rfl)
theorem dX3_evenOut_105 : decode cX3_evenOut 105 = .ok (.getfield 46, 3) := zo_180 (zi_at zh_dX3_evenOut_96_96 9 rfl) (zi_at zh_dX3_evenOut_96_96 10 rfl) (zi_at zh_dX3_evenOut_96_96 11 rfl) rfl
theorem dX3_evenOut_108 : decode cX3_evenOut 108 = .ok (.iload 8, 2) := zo_21 (zi_at zh_dX3_evenOut_96_96 12 rfl) (zi_at zh_dX3_evenOut_96_96 13 rfl)
theorem dX3_evenOut_110 : decode cX3_evenOut 110 = .ok (.iload 6, 2) := zo_21 (zi_at zh_dX3_evenOut_96_96 14 rfl) (zi_at zh_dX3_evenOut_96_96 15 rfl)
theorem dX3_evenOut_112 : decode cX3_evenOut 112 = .ok (.bipush 7, 2) := zo_16 (zi_at zh_dX3_evenOut_112_112 0 rfl) (zi_at zh_dX3_evenOut_112_112 1 rfl) rfl
theorem dX3_evenOut_114 : decode cX3_evenOut 114 = .ok (.irem, 1) := zo_112 (zi_at zh_dX3_evenOut_112_112 2 rfl)
theorem dX3_evenOut_115 : decode cX3_evenOut 115 = .ok (.iastore, 1) := zo_79 (zi_at zh_dX3_evenOut_112_112 3 rfl)
theorem dX3_evenOut_116 : decode cX3_evenOut 116 = .ok (.iload 6, 2) := zo_21 (zi_at zh_dX3_evenOut_112_112 4 rfl) (zi_at zh_dX3_evenOut_112_112 5 rfl)
theorem dX3_evenOut_118 : decode cX3_evenOut 118 = .ok (.bipush 7, 2) := zo_16 (zi_at zh_dX3_evenOut_112_112 6 rfl) (zi_at zh_dX3_evenOut_112_112 7 rfl) rfl
theorem dX3_evenOut_120 : decode cX3_evenOut 120 = .ok (.idiv, 1) := zo_108 (zi_at zh_dX3_evenOut_112_112 8 rfl)
theorem dX3_evenOut_121 : decode cX3_evenOut 121 = .ok (.istore 6, 2) := zo_54 (zi_at zh_dX3_evenOut_112_112 9 rfl) (zi_at zh_dX3_evenOut_112_112 10 rfl)
theorem dX3_evenOut_123 : decode cX3_evenOut 123 = .ok (.iload 7, 2) := zo_21 (zi_at zh_dX3_evenOut_112_112 11 rfl) (zi_at zh_dX3_evenOut_112_112 12 rfl)
theorem dX3_evenOut_125 : decode cX3_evenOut 125 = .ok (.aload_n 0, 1) := zo_42 (zi_at zh_dX3_evenOut_112_112 13 rfl)
theorem dX3_evenOut_126 : decode cX3_evenOut 126 = .ok (.getfield 46, 3) := zo_180 (zi_at zh_dX3_evenOut_112_112 14 rfl) (zi_at zh_dX3_evenOut_112_112 15 rfl) (zi_at zh_dX3_evenOut_126_128 0 rfl) rfl
theorem dX3_evenOut_129 : decode cX3_evenOut 129 = .ok (.iload 8, 2) := zo_21 (zi_at zh_dX3_evenOut_126_128 1 rfl) (zi_at zh_dX3_evenOut_126_128 2 rfl)
theorem dX3_evenOut_131 : decode cX3_evenOut 131 = .ok (.iaload, 1) := zo_46 (zi_at zh_dX3_evenOut_126_128 3 rfl)
theorem dX3_evenOut_132 : decode cX3_evenOut 132 = .ok (.iconst 3, 1) := zo_6 (zi_at zh_dX3_evenOut_126_128 4 rfl)
theorem dX3_evenOut_133 : decode cX3_evenOut 133 = .ok (.invokestatic 126, 3) := zo_184 (zi_at zh_dX3_evenOut_126_128 5 rfl) (zi_at zh_dX3_evenOut_126_128 6 rfl) (zi_at zh_dX3_evenOut_126_128 7 rfl) rfl
theorem dX3_evenOut_136 : decode cX3_evenOut 136 = .ok (.iadd, 1) := zo_96 (zi_at zh_dX3_evenOut_126_128 8 rfl)
theorem dX3_evenOut_137 : decode cX3_evenOut 137 = .ok (.istore 7, 2) := zo_54 (zi_at zh_dX3_evenOut_126_128 9 rfl) (zi_at zh_dX3_evenOut_126_128 10 rfl)
theorem dX3_evenOut_139 : decode cX3_evenOut 139 = .ok (.iinc 8 (-1), 3) := zo_132 (zi_at zh_dX3_evenOut_126_128 11 rfl) (zi_at zh_dX3_evenOut_126_128 12 rfl) (zi_at zh_dX3_evenOut_126_128 13 rfl) rfl
theorem dX3_evenOut_142 : decode cX3_evenOut 142 = .ok (.goto (-43), 3) := zo_167 (zi_at zh_dX3_evenOut_126_128 14 rfl) (zi_at zh_dX3_evenOut_126_128 15 rfl) (zi_at zh_dX3_evenOut_142_144 0 rfl) rfl
theorem dX3_evenOut_145 : decode cX3_evenOut 145 = .ok (.aload_n 0, 1) := zo_42 (zi_at zh_dX3_evenOut_142_144 1 rfl)
theorem dX3_evenOut_146 : decode cX3_evenOut 146 = .ok (.iload_n 2, 1) := zo_28 (zi_at zh_dX3_evenOut_142_144 2 rfl)
theorem dX3_evenOut_147 : decode cX3_evenOut 147 = .ok (.invokevirtual 149, 3) := zo_182 (zi_at zh_dX3_evenOut_142_144 3 rfl) (zi_at zh_dX3_evenOut_142_144 4 rfl) (zi_at zh_dX3_evenOut_142_144 5 rfl) rfl
theorem dX3_evenOut_150 : decode cX3_evenOut 150 = .ok (.istore 8, 2) := zo_54 (zi_at zh_dX3_evenOut_142_144 6 rfl) (zi_at zh_dX3_evenOut_142_144 7 rfl)
theorem dX3_evenOut_152 : decode cX3_evenOut 152 = .ok (.iload 8, 2) := zo_21 (zi_at zh_dX3_evenOut_142_144 8 rfl) (zi_at zh_dX3_evenOut_142_144 9 rfl)
theorem dX3_evenOut_154 : decode cX3_evenOut 154 = .ok (.aload_n 0, 1) := zo_42 (zi_at zh_dX3_evenOut_142_144 10 rfl)
theorem dX3_evenOut_155 : decode cX3_evenOut 155 = .ok (.getfield 146, 3) := zo_180 (zi_at zh_dX3_evenOut_142_144 11 rfl) (zi_at zh_dX3_evenOut_142_144 12 rfl) (zi_at zh_dX3_evenOut_142_144 13 rfl) rfl
theorem dX3_evenOut_158 : decode cX3_evenOut 158 = .ok (.if_icmp .gt 46, 3) := zo_163 (zi_at zh_dX3_evenOut_142_144 14 rfl) (zi_at zh_dX3_evenOut_142_144 15 rfl) (zi_at zh_dX3_evenOut_158_160 0 rfl) rfl
theorem dX3_evenOut_161 : decode cX3_evenOut 161 = .ok (.iload 8, 2) := zo_21 (zi_at zh_dX3_evenOut_158_160 1 rfl) (zi_at zh_dX3_evenOut_158_160 2 rfl)
theorem dX3_evenOut_163 : decode cX3_evenOut 163 = .ok (.aload_n 0, 1) := zo_42 (zi_at zh_dX3_evenOut_158_160 3 rfl)
theorem dX3_evenOut_164 : decode cX3_evenOut 164 = .ok (.getfield 146, 3) := zo_180 (zi_at zh_dX3_evenOut_158_160 4 rfl) (zi_at zh_dX3_evenOut_158_160 5 rfl) (zi_at zh_dX3_evenOut_158_160 6 rfl) rfl
theorem dX3_evenOut_167 : decode cX3_evenOut 167 = .ok (.if_icmp .ne 13, 3) := zo_160 (zi_at zh_dX3_evenOut_158_160 7 rfl) (zi_at zh_dX3_evenOut_158_160 8 rfl) (zi_at zh_dX3_evenOut_158_160 9 rfl) rfl
theorem dX3_evenOut_170 : decode cX3_evenOut 170 = .ok (.iload 7, 2) := zo_21 (zi_at zh_dX3_evenOut_158_160 10 rfl) (zi_at zh_dX3_evenOut_158_160 11 rfl)
theorem dX3_evenOut_172 : decode cX3_evenOut 172 = .ok (.iload 4, 2) := zo_21 (zi_at zh_dX3_evenOut_158_160 12 rfl) (zi_at zh_dX3_evenOut_158_160 13 rfl)
theorem dX3_evenOut_174 : decode cX3_evenOut 174 = .ok (.if_icmp .lt 6, 3) := zo_161 (zi_at zh_dX3_evenOut_158_160 14 rfl) (zi_at zh_dX3_evenOut_158_160 15 rfl) (zi_at zh_dX3_evenOut_174_176 0 rfl) rfl
theorem dX3_evenOut_177 : decode cX3_evenOut 177 = .ok (.goto 27, 3) := zo_167 (zi_at zh_dX3_evenOut_174_176 1 rfl) (zi_at zh_dX3_evenOut_174_176 2 rfl) (zi_at zh_dX3_evenOut_174_176 3 rfl) rfl
theorem dX3_evenOut_180 : decode cX3_evenOut 180 = .ok (.aload_n 0, 1) := zo_42 (zi_at zh_dX3_evenOut_174_176 4 rfl)
theorem dX3_evenOut_181 : decode cX3_evenOut 181 = .ok (.iload 8, 2) := zo_21 (zi_at zh_dX3_evenOut_174_176 5 rfl) (zi_at zh_dX3_evenOut_174_176 6 rfl)
theorem dX3_evenOut_183 : decode cX3_evenOut 183 = .ok (.putfield 146, 3) := zo_181 (zi_at zh_dX3_evenOut_174_176 7 rfl) (zi_at zh_dX3_evenOut_174_176 8 rfl) (zi_at zh_dX3_evenOut_174_176 9 rfl) rfl
theorem dX3_evenOut_186 : decode cX3_evenOut 186 = .ok (.iload 7, 2) := zo_21 (zi_at zh_dX3_evenOut_174_176 10 rfl) (zi_at zh_dX3_evenOut_174_176 11 rfl)
theorem dX3_evenOut_188 : decode cX3_evenOut 188 = .ok (.istore 4, 2) := zo_54 (zi_at zh_dX3_evenOut_174_176 12 rfl) (zi_at zh_dX3_evenOut_174_176 13 rfl)
theorem dX3_evenOut_190 : decode cX3_evenOut 190 = .ok (.aload_n 0, 1) := zo_42 (zi_at zh_dX3_evenOut_174_176 14 rfl)
theorem dX3_evenOut_191 : decode cX3_evenOut 191 = .ok (.getfield 46, 3) := zo_180 (zi_at zh_dX3_evenOut_174_176 15 rfl) (zi_at zh_dX3_evenOut_191_192 0 rfl) (zi_at zh_dX3_evenOut_191_192 1 rfl) rfl
theorem dX3_evenOut_194 : decode cX3_evenOut 194 = .ok (.iconst 0, 1) := zo_3 (zi_at zh_dX3_evenOut_191_192 2 rfl)
theorem dX3_evenOut_195 : decode cX3_evenOut 195 = .ok (.aload_n 0, 1) := zo_42 (zi_at zh_dX3_evenOut_191_192 3 rfl)
theorem dX3_evenOut_196 : decode cX3_evenOut 196 = .ok (.getfield 49, 3) := zo_180 (zi_at zh_dX3_evenOut_191_192 4 rfl) (zi_at zh_dX3_evenOut_191_192 5 rfl) (zi_at zh_dX3_evenOut_191_192 6 rfl) rfl
theorem dX3_evenOut_199 : decode cX3_evenOut 199 = .ok (.iconst 0, 1) := zo_3 (zi_at zh_dX3_evenOut_191_192 7 rfl)
theorem dX3_evenOut_200 : decode cX3_evenOut 200 = .ok (.iconst 4, 1) := zo_7 (zi_at zh_dX3_evenOut_191_192 8 rfl)
theorem dX3_evenOut_201 : decode cX3_evenOut 201 = .ok (.invokestatic 152, 3) := zo_184 (zi_at zh_dX3_evenOut_191_192 9 rfl) (zi_at zh_dX3_evenOut_191_192 10 rfl) (zi_at zh_dX3_evenOut_191_192 11 rfl) rfl
theorem dX3_evenOut_204 : decode cX3_evenOut 204 = .ok (.iinc 5 1, 3) := zo_132 (zi_at zh_dX3_evenOut_191_192 12 rfl) (zi_at zh_dX3_evenOut_191_192 13 rfl) (zi_at zh_dX3_evenOut_191_192 14 rfl) rfl
theorem dX3_evenOut_207 : decode cX3_evenOut 207 = .ok (.goto (-126), 3) := zo_167 (zi_at zh_dX3_evenOut_191_192 15 rfl) (zi_at zh_dX3_evenOut_207_208 0 rfl) (zi_at zh_dX3_evenOut_207_208 1 rfl) rfl
theorem dX3_evenOut_210 : decode cX3_evenOut 210 = .ok (.return_, 1) := zo_177 (zi_at zh_dX3_evenOut_207_208 2 rfl)
theorem dX3_gatherChanged_0 : decode cX3_gatherChanged 0 = .ok (.aload_n 0, 1) := zo_42 (zi_at zh_dX3_gatherChanged_0_0 0 rfl)
theorem dX3_gatherChanged_1 : decode cX3_gatherChanged 1 = .ok (.iconst 0, 1) := zo_3 (zi_at zh_dX3_gatherChanged_0_0 1 rfl)
theorem dX3_gatherChanged_2 : decode cX3_gatherChanged 2 = .ok (.putfield 158, 3) := zo_181 (zi_at zh_dX3_gatherChanged_0_0 2 rfl) (zi_at zh_dX3_gatherChanged_0_0 3 rfl) (zi_at zh_dX3_gatherChanged_0_0 4 rfl) rfl
theorem dX3_gatherChanged_5 : decode cX3_gatherChanged 5 = .ok (.iconst 0, 1) := zo_3 (zi_at zh_dX3_gatherChanged_0_0 5 rfl)
theorem dX3_gatherChanged_6 : decode cX3_gatherChanged 6 = .ok (.istore_n 2, 1) := zo_61 (zi_at zh_dX3_gatherChanged_0_0 6 rfl)
theorem dX3_gatherChanged_7 : decode cX3_gatherChanged 7 = .ok (.iload_n 2, 1) := zo_28 (zi_at zh_dX3_gatherChanged_0_0 7 rfl)
theorem dX3_gatherChanged_8 : decode cX3_gatherChanged 8 = .ok (.aload_n 0, 1) := zo_42 (zi_at zh_dX3_gatherChanged_0_0 8 rfl)
theorem dX3_gatherChanged_9 : decode cX3_gatherChanged 9 = .ok (.getfield 55, 3) := zo_180 (zi_at zh_dX3_gatherChanged_0_0 9 rfl) (zi_at zh_dX3_gatherChanged_0_0 10 rfl) (zi_at zh_dX3_gatherChanged_0_0 11 rfl) rfl
theorem dX3_gatherChanged_12 : decode cX3_gatherChanged 12 = .ok (.getfield 63, 3) := zo_180 (zi_at zh_dX3_gatherChanged_0_0 12 rfl) (zi_at zh_dX3_gatherChanged_0_0 13 rfl) (zi_at zh_dX3_gatherChanged_0_0 14 rfl) rfl
theorem dX3_gatherChanged_15 : decode cX3_gatherChanged 15 = .ok (.invokevirtual 69, 3) := zo_182 (zi_at zh_dX3_gatherChanged_0_0 15 rfl) (zi_at zh_dX3_gatherChanged_15_16 0 rfl) (zi_at zh_dX3_gatherChanged_15_16 1 rfl) rfl
theorem dX3_gatherChanged_18 : decode cX3_gatherChanged 18 = .ok (.if_icmp .ge 169, 3) := zo_162 (zi_at zh_dX3_gatherChanged_15_16 2 rfl) (zi_at zh_dX3_gatherChanged_15_16 3 rfl) (zi_at zh_dX3_gatherChanged_15_16 4 rfl) rfl
theorem dX3_gatherChanged_21 : decode cX3_gatherChanged 21 = .ok (.aload_n 0, 1) := zo_42 (zi_at zh_dX3_gatherChanged_15_16 5 rfl)
theorem dX3_gatherChanged_22 : decode cX3_gatherChanged 22 = .ok (.getfield 55, 3) := zo_180 (zi_at zh_dX3_gatherChanged_15_16 6 rfl) (zi_at zh_dX3_gatherChanged_15_16 7 rfl) (zi_at zh_dX3_gatherChanged_15_16 8 rfl) rfl
theorem dX3_gatherChanged_25 : decode cX3_gatherChanged 25 = .ok (.getfield 63, 3) := zo_180 (zi_at zh_dX3_gatherChanged_15_16 9 rfl) (zi_at zh_dX3_gatherChanged_15_16 10 rfl) (zi_at zh_dX3_gatherChanged_15_16 11 rfl) rfl
theorem dX3_gatherChanged_28 : decode cX3_gatherChanged 28 = .ok (.iload_n 2, 1) := zo_28 (zi_at zh_dX3_gatherChanged_15_16 12 rfl)
theorem dX3_gatherChanged_29 : decode cX3_gatherChanged 29 = .ok (.invokevirtual 99, 3) := zo_182 (zi_at zh_dX3_gatherChanged_15_16 13 rfl) (zi_at zh_dX3_gatherChanged_15_16 14 rfl) (zi_at zh_dX3_gatherChanged_15_16 15 rfl) rfl
theorem dX3_gatherChanged_32 : decode cX3_gatherChanged 32 = .ok (.checkcast 103, 3) := zo_192 (zi_at zh_dX3_gatherChanged_32_32 0 rfl) (zi_at zh_dX3_gatherChanged_32_32 1 rfl) (zi_at zh_dX3_gatherChanged_32_32 2 rfl) rfl
theorem dX3_gatherChanged_35 : decode cX3_gatherChanged 35 = .ok (.getfield 105, 3) := zo_180 (zi_at zh_dX3_gatherChanged_32_32 3 rfl) (zi_at zh_dX3_gatherChanged_32_32 4 rfl) (zi_at zh_dX3_gatherChanged_32_32 5 rfl) rfl
theorem dX3_gatherChanged_38 : decode cX3_gatherChanged 38 = .ok (.ifCond .eq 6, 3) := zo_153 (zi_at zh_dX3_gatherChanged_32_32 6 rfl) (zi_at zh_dX3_gatherChanged_32_32 7 rfl) (zi_at zh_dX3_gatherChanged_32_32 8 rfl) rfl
theorem dX3_gatherChanged_41 : decode cX3_gatherChanged 41 = .ok (.goto 140, 3) := zo_167 (zi_at zh_dX3_gatherChanged_32_32 9 rfl) (zi_at zh_dX3_gatherChanged_32_32 10 rfl) (zi_at zh_dX3_gatherChanged_32_32 11 rfl) rfl
theorem dX3_gatherChanged_44 : decode cX3_gatherChanged 44 = .ok (.iconst 0, 1) := zo_3 (zi_at zh_dX3_gatherChanged_32_32 12 rfl)
theorem dX3_gatherChanged_45 : decode cX3_gatherChanged 45 = .ok (.istore_n 3, 1) := zo_62 (zi_at zh_dX3_gatherChanged_32_32 13 rfl)
theorem dX3_gatherChanged_46 : decode cX3_gatherChanged 46 = .ok (.iconst 0, 1) := zo_3 (zi_at zh_dX3_gatherChanged_32_32 14 rfl)
theorem dX3_gatherChanged_47 : decode cX3_gatherChanged 47 = .ok (.istore 4, 2) := zo_54 (zi_at zh_dX3_gatherChanged_32_32 15 rfl) (zi_at zh_dX3_gatherChanged_47_48 0 rfl)
theorem dX3_gatherChanged_49 : decode cX3_gatherChanged 49 = .ok (.iload 4, 2) := zo_21 (zi_at zh_dX3_gatherChanged_47_48 1 rfl) (zi_at zh_dX3_gatherChanged_47_48 2 rfl)
theorem dX3_gatherChanged_51 : decode cX3_gatherChanged 51 = .ok (.iload_n 1, 1) := zo_27 (zi_at zh_dX3_gatherChanged_47_48 3 rfl)
theorem dX3_gatherChanged_52 : decode cX3_gatherChanged 52 = .ok (.if_icmp .ge 114, 3) := zo_162 (zi_at zh_dX3_gatherChanged_47_48 4 rfl) (zi_at zh_dX3_gatherChanged_47_48 5 rfl) (zi_at zh_dX3_gatherChanged_47_48 6 rfl) rfl
theorem dX3_gatherChanged_55 : decode cX3_gatherChanged 55 = .ok (.iload_n 2, 1) := zo_28 (zi_at zh_dX3_gatherChanged_47_48 7 rfl)
theorem dX3_gatherChanged_56 : decode cX3_gatherChanged 56 = .ok (.aload_n 0, 1) := zo_42 (zi_at zh_dX3_gatherChanged_47_48 8 rfl)
theorem dX3_gatherChanged_57 : decode cX3_gatherChanged 57 = .ok (.getfield 43, 3) := zo_180 (zi_at zh_dX3_gatherChanged_47_48 9 rfl) (zi_at zh_dX3_gatherChanged_47_48 10 rfl) (zi_at zh_dX3_gatherChanged_47_48 11 rfl) rfl
theorem dX3_gatherChanged_60 : decode cX3_gatherChanged 60 = .ok (.iload 4, 2) := zo_21 (zi_at zh_dX3_gatherChanged_47_48 12 rfl) (zi_at zh_dX3_gatherChanged_47_48 13 rfl)
theorem dX3_gatherChanged_62 : decode cX3_gatherChanged 62 = .ok (.iaload, 1) := zo_46 (zi_at zh_dX3_gatherChanged_47_48 14 rfl)
theorem dX3_gatherChanged_63 : decode cX3_gatherChanged 63 = .ok (.invokestatic 89, 3) := zo_184 (zi_at zh_dX3_gatherChanged_47_48 15 rfl) (zi_at zh_dX3_gatherChanged_63_64 0 rfl) (zi_at zh_dX3_gatherChanged_63_64 1 rfl) rfl
theorem dX3_gatherChanged_66 : decode cX3_gatherChanged 66 = .ok (.istore 5, 2) := zo_54 (zi_at zh_dX3_gatherChanged_63_64 2 rfl) (zi_at zh_dX3_gatherChanged_63_64 3 rfl)
theorem dX3_gatherChanged_68 : decode cX3_gatherChanged 68 = .ok (.aload_n 0, 1) := zo_42 (zi_at zh_dX3_gatherChanged_63_64 4 rfl)
theorem dX3_gatherChanged_69 : decode cX3_gatherChanged 69 = .ok (.getfield 11, 3) := zo_180 (zi_at zh_dX3_gatherChanged_63_64 5 rfl) (zi_at zh_dX3_gatherChanged_63_64 6 rfl) (zi_at zh_dX3_gatherChanged_63_64 7 rfl) rfl
theorem dX3_gatherChanged_72 : decode cX3_gatherChanged 72 = .ok (.iload 5, 2) := zo_21 (zi_at zh_dX3_gatherChanged_63_64 8 rfl) (zi_at zh_dX3_gatherChanged_63_64 9 rfl)
theorem dX3_gatherChanged_74 : decode cX3_gatherChanged 74 = .ok (.baload, 1) := zo_51 (zi_at zh_dX3_gatherChanged_63_64 10 rfl)
theorem dX3_gatherChanged_75 : decode cX3_gatherChanged 75 = .ok (.ifCond .eq 6, 3) := zo_153 (zi_at zh_dX3_gatherChanged_63_64 11 rfl) (zi_at zh_dX3_gatherChanged_63_64 12 rfl) (zi_at zh_dX3_gatherChanged_63_64 13 rfl) rfl
theorem dX3_gatherChanged_78 : decode cX3_gatherChanged 78 = .ok (.iinc 3 1, 3) := zo_132 (zi_at zh_dX3_gatherChanged_63_64 14 rfl) (zi_at zh_dX3_gatherChanged_63_64 15 rfl) (zi_at zh_dX3_gatherChanged_78_80 0 rfl) rfl
theorem dX3_gatherChanged_81 : decode cX3_gatherChanged 81 = .ok (.iconst 0, 1) := zo_3 (zi_at zh_dX3_gatherChanged_78_80 1 rfl)
theorem dX3_gatherChanged_82 : decode cX3_gatherChanged 82 = .ok (.istore 6, 2) := zo_54 (zi_at zh_dX3_gatherChanged_78_80 2 rfl) (zi_at zh_dX3_gatherChanged_78_80 3 rfl)
theorem dX3_gatherChanged_84 : decode cX3_gatherChanged 84 = .ok (.iload 6, 2) := zo_21 (zi_at zh_dX3_gatherChanged_78_80 4 rfl) (zi_at zh_dX3_gatherChanged_78_80 5 rfl)
theorem dX3_gatherChanged_86 : decode cX3_gatherChanged 86 = .ok (.bipush 7, 2) := zo_16 (zi_at zh_dX3_gatherChanged_78_80 6 rfl) (zi_at zh_dX3_gatherChanged_78_80 7 rfl) rfl
theorem dX3_gatherChanged_88 : decode cX3_gatherChanged 88 = .ok (.if_icmp .ge 72, 3) := zo_162 (zi_at zh_dX3_gatherChanged_78_80 8 rfl) (zi_at zh_dX3_gatherChanged_78_80 9 rfl) (zi_at zh_dX3_gatherChanged_78_80 10 rfl) rfl
theorem dX3_gatherChanged_91 : decode cX3_gatherChanged 91 = .ok (.iconst 1, 1) := zo_4 (zi_at zh_dX3_gatherChanged_78_80 11 rfl)
theorem dX3_gatherChanged_92 : decode cX3_gatherChanged 92 = .ok (.aload_n 0, 1) := zo_42 (zi_at zh_dX3_gatherChanged_78_80 12 rfl)
theorem dX3_gatherChanged_93 : decode cX3_gatherChanged 93 = .ok (.getfield 19, 3) := zo_180 (zi_at zh_dX3_gatherChanged_78_80 13 rfl) (zi_at zh_dX3_gatherChanged_78_80 14 rfl) (zi_at zh_dX3_gatherChanged_78_80 15 rfl) rfl
theorem dX3_gatherChanged_96 : decode cX3_gatherChanged 96 = .ok (.iload 5, 2) := zo_21 (zi_at zh_dX3_gatherChanged_96_96 0 rfl) (zi_at zh_dX3_gatherChanged_96_96 1 rfl)
theorem dX3_gatherChanged_98 : decode cX3_gatherChanged 98 = .ok (.iaload, 1) := zo_46 (zi_at zh_dX3_gatherChanged_96_96 2 rfl)
theorem dX3_gatherChanged_99 : decode cX3_gatherChanged 99 = .ok (.iload 6, 2) := zo_21 (zi_at zh_dX3_gatherChanged_96_96 3 rfl) (zi_at zh_dX3_gatherChanged_96_96 4 rfl)
theorem dX3_gatherChanged_101 : decode cX3_gatherChanged 101 = .ok (.iadd, 1) := zo_96 (zi_at zh_dX3_gatherChanged_96_96 5 rfl)
theorem dX3_gatherChanged_102 : decode cX3_gatherChanged 102 = .ok (.iconst 3, 1) := zo_6 (zi_at zh_dX3_gatherChanged_96_96 6 rfl)
theorem dX3_gatherChanged_103 : decode cX3_gatherChanged 103 = .ok (.isub, 1) := zo_100 (zi_at zh_dX3_gatherChanged_96_96 7 rfl)
theorem dX3_gatherChanged_104 : decode cX3_gatherChanged 104 = .ok (.invokestatic 129, 3) := zo_184 (zi_at zh_dX3_gatherChanged_96_96 8 rfl) (zi_at zh_dX3_gatherChanged_96_96 9 rfl) (zi_at zh_dX3_gatherChanged_96_96 10 rfl) rfl
theorem dX3_gatherChanged_107 : decode cX3_gatherChanged 107 = .ok (.istore 7, 2) := zo_54 (zi_at zh_dX3_gatherChanged_96_96 11 rfl) (zi_at zh_dX3_gatherChanged_96_96 12 rfl)
theorem dX3_gatherChanged_109 : decode cX3_gatherChanged 109 = .ok (.aload_n 0, 1) := zo_42 (zi_at zh_dX3_gatherChanged_96_96 13 rfl)
theorem dX3_gatherChanged_110 : decode cX3_gatherChanged 110 = .ok (.getfield 40, 3) := zo_180 (zi_at zh_dX3_gatherChanged_96_96 14 rfl) (zi_at zh_dX3_gatherChanged_96_96 15 rfl) (zi_at zh_dX3_gatherChanged_110_112 0 rfl) rfl
theorem dX3_gatherChanged_113 : decode cX3_gatherChanged 113 = .ok (.aload_n 0, 1) := zo_42 (zi_at zh_dX3_gatherChanged_110_112 1 rfl)
theorem dX3_gatherChanged_114 : decode cX3_gatherChanged 114 = .ok (.getfield 158, 3) := zo_180 (zi_at zh_dX3_gatherChanged_110_112 2 rfl) (zi_at zh_dX3_gatherChanged_110_112 3 rfl) (zi_at zh_dX3_gatherChanged_110_112 4 rfl) rfl
theorem dX3_gatherChanged_117 : decode cX3_gatherChanged 117 = .ok (.iload 4, 2) := zo_21 (zi_at zh_dX3_gatherChanged_110_112 5 rfl) (zi_at zh_dX3_gatherChanged_110_112 6 rfl)
theorem dX3_gatherChanged_119 : decode cX3_gatherChanged 119 = .ok (.invokestatic 161, 3) := zo_184 (zi_at zh_dX3_gatherChanged_110_112 7 rfl) (zi_at zh_dX3_gatherChanged_110_112 8 rfl) (zi_at zh_dX3_gatherChanged_110_112 9 rfl) rfl
theorem dX3_gatherChanged_122 : decode cX3_gatherChanged 122 = .ok (.iload 6, 2) := zo_21 (zi_at zh_dX3_gatherChanged_110_112 10 rfl) (zi_at zh_dX3_gatherChanged_110_112 11 rfl)
theorem dX3_gatherChanged_124 : decode cX3_gatherChanged 124 = .ok (.iadd, 1) := zo_96 (zi_at zh_dX3_gatherChanged_110_112 12 rfl)
theorem dX3_gatherChanged_125 : decode cX3_gatherChanged 125 = .ok (.aload_n 0, 1) := zo_42 (zi_at zh_dX3_gatherChanged_110_112 13 rfl)
theorem dX3_gatherChanged_126 : decode cX3_gatherChanged 126 = .ok (.getfield 11, 3) := zo_180 (zi_at zh_dX3_gatherChanged_110_112 14 rfl) (zi_at zh_dX3_gatherChanged_110_112 15 rfl) (zi_at zh_dX3_gatherChanged_126_128 0 rfl) rfl
theorem dX3_gatherChanged_129 : decode cX3_gatherChanged 129 = .ok (.iload 5, 2) := zo_21 (zi_at zh_dX3_gatherChanged_126_128 1 rfl) (zi_at zh_dX3_gatherChanged_126_128 2 rfl)
theorem dX3_gatherChanged_131 : decode cX3_gatherChanged 131 = .ok (.baload, 1) := zo_51 (zi_at zh_dX3_gatherChanged_126_128 3 rfl)
theorem dX3_gatherChanged_132 : decode cX3_gatherChanged 132 = .ok (.ifCond .eq 20, 3) := zo_153 (zi_at zh_dX3_gatherChanged_126_128 4 rfl) (zi_at zh_dX3_gatherChanged_126_128 5 rfl) (zi_at zh_dX3_gatherChanged_126_128 6 rfl) rfl
theorem dX3_gatherChanged_135 : decode cX3_gatherChanged 135 = .ok (.aload_n 0, 1) := zo_42 (zi_at zh_dX3_gatherChanged_126_128 7 rfl)
theorem dX3_gatherChanged_136 : decode cX3_gatherChanged 136 = .ok (.getfield 15, 3) := zo_180 (zi_at zh_dX3_gatherChanged_126_128 8 rfl) (zi_at zh_dX3_gatherChanged_126_128 9 rfl) (zi_at zh_dX3_gatherChanged_126_128 10 rfl) rfl
theorem dX3_gatherChanged_139 : decode cX3_gatherChanged 139 = .ok (.iload 5, 2) := zo_21 (zi_at zh_dX3_gatherChanged_126_128 11 rfl) (zi_at zh_dX3_gatherChanged_126_128 12 rfl)
theorem dX3_gatherChanged_141 : decode cX3_gatherChanged 141 = .ok (.iaload, 1) := zo_46 (zi_at zh_dX3_gatherChanged_126_128 13 rfl)
theorem dX3_gatherChanged_142 : decode cX3_gatherChanged 142 = .ok (.iload 7, 2) := zo_21 (zi_at zh_dX3_gatherChanged_126_128 14 rfl) (zi_at zh_dX3_gatherChanged_126_128 15 rfl)
theorem dX3_gatherChanged_144 : decode cX3_gatherChanged 144 = .ok (.imul, 1) := zo_104 (zi_at zh_dX3_gatherChanged_144_144 0 rfl)
theorem dX3_gatherChanged_145 : decode cX3_gatherChanged 145 = .ok (.sipush 1000, 3) := zo_17 (zi_at zh_dX3_gatherChanged_144_144 1 rfl) (zi_at zh_dX3_gatherChanged_144_144 2 rfl) (zi_at zh_dX3_gatherChanged_144_144 3 rfl) rfl
theorem dX3_gatherChanged_148 : decode cX3_gatherChanged 148 = .ok (.idiv, 1) := zo_108 (zi_at zh_dX3_gatherChanged_144_144 4 rfl)
theorem dX3_gatherChanged_149 : decode cX3_gatherChanged 149 = .ok (.goto 4, 3) := zo_167 (zi_at zh_dX3_gatherChanged_144_144 5 rfl) (zi_at zh_dX3_gatherChanged_144_144 6 rfl) (zi_at zh_dX3_gatherChanged_144_144 7 rfl) rfl
theorem dX3_gatherChanged_152 : decode cX3_gatherChanged 152 = .ok (.iconst (-1), 1) := zo_2 (zi_at zh_dX3_gatherChanged_144_144 8 rfl)
theorem dX3_gatherChanged_153 : decode cX3_gatherChanged 153 = .ok (.iastore, 1) := zo_79 (zi_at zh_dX3_gatherChanged_144_144 9 rfl)
theorem dX3_gatherChanged_154 : decode cX3_gatherChanged 154 = .ok (.iinc 6 1, 3) := zo_132 (zi_at zh_dX3_gatherChanged_144_144 10 rfl) (zi_at zh_dX3_gatherChanged_144_144 11 rfl) (zi_at zh_dX3_gatherChanged_144_144 12 rfl) rfl
theorem dX3_gatherChanged_157 : decode cX3_gatherChanged 157 = .ok (.goto (-73), 3) := zo_167 (zi_at zh_dX3_gatherChanged_144_144 13 rfl) (zi_at zh_dX3_gatherChanged_144_144 14 rfl) (zi_at zh_dX3_gatherChanged_144_144 15 rfl) rfl
theorem dX3_gatherChanged_160 : decode cX3_gatherChanged 160 = .ok (.iinc 4 1, 3) := zo_132 (zi_at zh_dX3_gatherChanged_160_160 0 rfl) (zi_at zh_dX3_gatherChanged_160_160 1 rfl) (zi_at zh_dX3_gatherChanged_160_160 2 rfl) rfl
theorem dX3_gatherChanged_163 : decode cX3_gatherChanged 163 = .ok (.goto (-114), 3) := zo_167 (zi_at zh_dX3_gatherChanged_160_160 3 rfl) (zi_at zh_dX3_gatherChanged_160_160 4 rfl) (zi_at zh_dX3_gatherChanged_160_160 5 rfl) rfl
theorem dX3_gatherChanged_166 : decode cX3_gatherChanged 166 = .ok (.iload_n 3, 1) := zo_29 (zi_at zh_dX3_gatherChanged_160_160 6 rfl)
theorem dX3_gatherChanged_167 : decode cX3_gatherChanged 167 = .ok (.iconst 2, 1) := zo_5 (zi_at zh_dX3_gatherChanged_160_160 7 rfl)
theorem dX3_gatherChanged_168 : decode cX3_gatherChanged 168 = .ok (.if_icmp .lt 13, 3) := zo_161 (zi_at zh_dX3_gatherChanged_160_160 8 rfl) (zi_at zh_dX3_gatherChanged_160_160 9 rfl) (zi_at zh_dX3_gatherChanged_160_160 10 rfl) rfl
theorem dX3_gatherChanged_171 : decode cX3_gatherChanged 171 = .ok (.aload_n 0, 1) := zo_42 (zi_at zh_dX3_gatherChanged_160_160 11 rfl)
theorem dX3_gatherChanged_172 : decode cX3_gatherChanged 172 = .ok (.dup, 1) := zo_89 (zi_at zh_dX3_gatherChanged_160_160 12 rfl)
theorem dX3_gatherChanged_173 : decode cX3_gatherChanged 173 = .ok (.getfield 158, 3) := zo_180 (zi_at zh_dX3_gatherChanged_160_160 13 rfl) (zi_at zh_dX3_gatherChanged_160_160 14 rfl) (zi_at zh_dX3_gatherChanged_160_160 15 rfl) rfl
theorem dX3_gatherChanged_176 : decode cX3_gatherChanged 176 = .ok (.iconst 1, 1) := zo_4 (zi_at zh_dX3_gatherChanged_176_176 0 rfl)
theorem dX3_gatherChanged_177 : decode cX3_gatherChanged 177 = .ok (.iadd, 1) := zo_96 (zi_at zh_dX3_gatherChanged_176_176 1 rfl)
theorem dX3_gatherChanged_178 : decode cX3_gatherChanged 178 = .ok (.putfield 158, 3) := zo_181 (zi_at zh_dX3_gatherChanged_176_176 2 rfl) (zi_at zh_dX3_gatherChanged_176_176 3 rfl) (zi_at zh_dX3_gatherChanged_176_176 4 rfl) rfl
theorem dX3_gatherChanged_181 : decode cX3_gatherChanged 181 = .ok (.iinc 2 1, 3) := zo_132 (zi_at zh_dX3_gatherChanged_176_176 5 rfl) (zi_at zh_dX3_gatherChanged_176_176 6 rfl) (zi_at zh_dX3_gatherChanged_176_176 7 rfl) rfl
theorem dX3_gatherChanged_184 : decode cX3_gatherChanged 184 = .ok (.goto (-177), 3) := zo_167 (zi_at zh_dX3_gatherChanged_176_176 8 rfl) (zi_at zh_dX3_gatherChanged_176_176 9 rfl) (zi_at zh_dX3_gatherChanged_176_176 10 rfl) rfl
theorem dX3_gatherChanged_187 : decode cX3_gatherChanged 187 = .ok (.return_, 1) := zo_177 (zi_at zh_dX3_gatherChanged_176_176 11 rfl)
theorem dX3_spreadTried_0 : decode cX3_spreadTried 0 = .ok (.iconst 0, 1) := zo_3 (zi_at zh_dX3_spreadTried_0_0 0 rfl)
theorem dX3_spreadTried_1 : decode cX3_spreadTried 1 = .ok (.istore_n 2, 1) := zo_61 (zi_at zh_dX3_spreadTried_0_0 1 rfl)
theorem dX3_spreadTried_2 : decode cX3_spreadTried 2 = .ok (.iconst 0, 1) := zo_3 (zi_at zh_dX3_spreadTried_0_0 2 rfl)
theorem dX3_spreadTried_3 : decode cX3_spreadTried 3 = .ok (.istore_n 3, 1) := zo_62 (zi_at zh_dX3_spreadTried_0_0 3 rfl)
theorem dX3_spreadTried_4 : decode cX3_spreadTried 4 = .ok (.iload_n 3, 1) := zo_29 (zi_at zh_dX3_spreadTried_0_0 4 rfl)
theorem dX3_spreadTried_5 : decode cX3_spreadTried 5 = .ok (.aload_n 0, 1) := zo_42 (zi_at zh_dX3_spreadTried_0_0 5 rfl)
theorem dX3_spreadTried_6 : decode cX3_spreadTried 6 = .ok (.getfield 158, 3) := zo_180 (zi_at zh_dX3_spreadTried_0_0 6 rfl) (zi_at zh_dX3_spreadTried_0_0 7 rfl) (zi_at zh_dX3_spreadTried_0_0 8 rfl) rfl
theorem dX3_spreadTried_9 : decode cX3_spreadTried 9 = .ok (.if_icmp .ge 99, 3) := zo_162 (zi_at zh_dX3_spreadTried_0_0 9 rfl) (zi_at zh_dX3_spreadTried_0_0 10 rfl) (zi_at zh_dX3_spreadTried_0_0 11 rfl) rfl
theorem dX3_spreadTried_12 : decode cX3_spreadTried 12 = .ok (.iload_n 2, 1) := zo_28 (zi_at zh_dX3_spreadTried_0_0 12 rfl)
theorem dX3_spreadTried_13 : decode cX3_spreadTried 13 = .ok (.aload_n 0, 1) := zo_42 (zi_at zh_dX3_spreadTried_0_0 13 rfl)
theorem dX3_spreadTried_14 : decode cX3_spreadTried 14 = .ok (.getfield 146, 3) := zo_180 (zi_at zh_dX3_spreadTried_0_0 14 rfl) (zi_at zh_dX3_spreadTried_0_0 15 rfl) (zi_at zh_dX3_spreadTried_14_16 0 rfl) rfl
theorem dX3_spreadTried_17 : decode cX3_spreadTried 17 = .ok (.if_icmp .gt 91, 3) := zo_163 (zi_at zh_dX3_spreadTried_14_16 1 rfl) (zi_at zh_dX3_spreadTried_14_16 2 rfl) (zi_at zh_dX3_spreadTried_14_16 3 rfl) rfl
theorem dX3_spreadTried_20 : decode cX3_spreadTried 20 = .ok (.ldc 125, 2) := zo_18 (zi_at zh_dX3_spreadTried_14_16 4 rfl) (zi_at zh_dX3_spreadTried_14_16 5 rfl)
theorem dX3_spreadTried_22 : decode cX3_spreadTried 22 = .ok (.istore 4, 2) := zo_54 (zi_at zh_dX3_spreadTried_14_16 6 rfl) (zi_at zh_dX3_spreadTried_14_16 7 rfl)
theorem dX3_spreadTried_24 : decode cX3_spreadTried 24 = .ok (.iconst 0, 1) := zo_3 (zi_at zh_dX3_spreadTried_14_16 8 rfl)
theorem dX3_spreadTried_25 : decode cX3_spreadTried 25 = .ok (.istore 5, 2) := zo_54 (zi_at zh_dX3_spreadTried_14_16 9 rfl) (zi_at zh_dX3_spreadTried_14_16 10 rfl)
theorem dX3_spreadTried_27 : decode cX3_spreadTried 27 = .ok (.iconst 0, 1) := zo_3 (zi_at zh_dX3_spreadTried_14_16 11 rfl)
theorem dX3_spreadTried_28 : decode cX3_spreadTried 28 = .ok (.istore 6, 2) := zo_54 (zi_at zh_dX3_spreadTried_14_16 12 rfl) (zi_at zh_dX3_spreadTried_14_16 13 rfl)
theorem dX3_spreadTried_30 : decode cX3_spreadTried 30 = .ok (.iload 6, 2) := zo_21 (zi_at zh_dX3_spreadTried_14_16 14 rfl) (zi_at zh_dX3_spreadTried_14_16 15 rfl)
theorem dX3_spreadTried_32 : decode cX3_spreadTried 32 = .ok (.iload_n 1, 1) := zo_27 (zi_at zh_dX3_spreadTried_32_32 0 rfl)
theorem dX3_spreadTried_33 : decode cX3_spreadTried 33 = .ok (.if_icmp .ge 61, 3) := zo_162 (zi_at zh_dX3_spreadTried_32_32 1 rfl) (zi_at zh_dX3_spreadTried_32_32 2 rfl) (zi_at zh_dX3_spreadTried_32_32 3 rfl) rfl
theorem dX3_spreadTried_36 : decode cX3_spreadTried 36 = .ok (.aload_n 0, 1) := zo_42 (zi_at zh_dX3_spreadTried_32_32 4 rfl)
theorem dX3_spreadTried_37 : decode cX3_spreadTried 37 = .ok (.getfield 40, 3) := zo_180 (zi_at zh_dX3_spreadTried_32_32 5 rfl) (zi_at zh_dX3_spreadTried_32_32 6 rfl) (zi_at zh_dX3_spreadTried_32_32 7 rfl) rfl
theorem dX3_spreadTried_40 : decode cX3_spreadTried 40 = .ok (.iload_n 3, 1) := zo_29 (zi_at zh_dX3_spreadTried_32_32 8 rfl)
theorem dX3_spreadTried_41 : decode cX3_spreadTried 41 = .ok (.iload 6, 2) := zo_21 (zi_at zh_dX3_spreadTried_32_32 9 rfl) (zi_at zh_dX3_spreadTried_32_32 10 rfl)
theorem dX3_spreadTried_43 : decode cX3_spreadTried 43 = .ok (.invokestatic 161, 3) := zo_184 (zi_at zh_dX3_spreadTried_32_32 11 rfl) (zi_at zh_dX3_spreadTried_32_32 12 rfl) (zi_at zh_dX3_spreadTried_32_32 13 rfl) rfl
theorem dX3_spreadTried_46 : decode cX3_spreadTried 46 = .ok (.aload_n 0, 1) := zo_42 (zi_at zh_dX3_spreadTried_32_32 14 rfl)
theorem dX3_spreadTried_47 : decode cX3_spreadTried 47 = .ok (.getfield 46, 3) := zo_180 (zi_at zh_dX3_spreadTried_32_32 15 rfl) (zi_at zh_dX3_spreadTried_47_48 0 rfl) (zi_at zh_dX3_spreadTried_47_48 1 rfl) rfl
theorem dX3_spreadTried_50 : decode cX3_spreadTried 50 = .ok (.iload 6, 2) := zo_21 (zi_at zh_dX3_spreadTried_47_48 2 rfl) (zi_at zh_dX3_spreadTried_47_48 3 rfl)
theorem dX3_spreadTried_52 : decode cX3_spreadTried 52 = .ok (.iaload, 1) := zo_46 (zi_at zh_dX3_spreadTried_47_48 4 rfl)
theorem dX3_spreadTried_53 : decode cX3_spreadTried 53 = .ok (.iadd, 1) := zo_96 (zi_at zh_dX3_spreadTried_47_48 5 rfl)
theorem dX3_spreadTried_54 : decode cX3_spreadTried 54 = .ok (.iaload, 1) := zo_46 (zi_at zh_dX3_spreadTried_47_48 6 rfl)
theorem dX3_spreadTried_55 : decode cX3_spreadTried 55 = .ok (.istore 7, 2) := zo_54 (zi_at zh_dX3_spreadTried_47_48 7 rfl) (zi_at zh_dX3_spreadTried_47_48 8 rfl)
theorem dX3_spreadTried_57 : decode cX3_spreadTried 57 = .ok (.iload 7, 2) := zo_21 (zi_at zh_dX3_spreadTried_47_48 9 rfl) (zi_at zh_dX3_spreadTried_47_48 10 rfl)
theorem dX3_spreadTried_59 : decode cX3_spreadTried 59 = .ok (.iconst (-1), 1) := zo_2 (zi_at zh_dX3_spreadTried_47_48 11 rfl)
theorem dX3_spreadTried_60 : decode cX3_spreadTried 60 = .ok (.if_icmp .ne 6, 3) := zo_160 (zi_at zh_dX3_spreadTried_47_48 12 rfl) (zi_at zh_dX3_spreadTried_47_48 13 rfl) (zi_at zh_dX3_spreadTried_47_48 14 rfl) rfl
theorem dX3_spreadTried_63 : decode cX3_spreadTried 63 = .ok (.goto 25, 3) := zo_167 (zi_at zh_dX3_spreadTried_47_48 15 rfl) (zi_at zh_dX3_spreadTried_63_64 0 rfl) (zi_at zh_dX3_spreadTried_63_64 1 rfl) rfl
theorem dX3_spreadTried_66 : decode cX3_spreadTried 66 = .ok (.iload 7, 2) := zo_21 (zi_at zh_dX3_spreadTried_63_64 2 rfl) (zi_at zh_dX3_spreadTried_63_64 3 rfl)
theorem dX3_spreadTried_68 : decode cX3_spreadTried 68 = .ok (.iload 4, 2) := zo_21 (zi_at zh_dX3_spreadTried_63_64 4 rfl) (zi_at zh_dX3_spreadTried_63_64 5 rfl)
theorem dX3_spreadTried_70 : decode cX3_spreadTried 70 = .ok (.if_icmp .ge 7, 3) := zo_162 (zi_at zh_dX3_spreadTried_63_64 6 rfl) (zi_at zh_dX3_spreadTried_63_64 7 rfl) (zi_at zh_dX3_spreadTried_63_64 8 rfl) rfl
theorem dX3_spreadTried_73 : decode cX3_spreadTried 73 = .ok (.iload 7, 2) := zo_21 (zi_at zh_dX3_spreadTried_63_64 9 rfl) (zi_at zh_dX3_spreadTried_63_64 10 rfl)
theorem dX3_spreadTried_75 : decode cX3_spreadTried 75 = .ok (.istore 4, 2) := zo_54 (zi_at zh_dX3_spreadTried_63_64 11 rfl) (zi_at zh_dX3_spreadTried_63_64 12 rfl)
theorem dX3_spreadTried_77 : decode cX3_spreadTried 77 = .ok (.iload 7, 2) := zo_21 (zi_at zh_dX3_spreadTried_63_64 13 rfl) (zi_at zh_dX3_spreadTried_63_64 14 rfl)
theorem dX3_spreadTried_79 : decode cX3_spreadTried 79 = .ok (.iload 5, 2) := zo_21 (zi_at zh_dX3_spreadTried_63_64 15 rfl) (zi_at zh_dX3_spreadTried_79_80 0 rfl)
theorem dX3_spreadTried_81 : decode cX3_spreadTried 81 = .ok (.if_icmp .le 7, 3) := zo_164 (zi_at zh_dX3_spreadTried_79_80 1 rfl) (zi_at zh_dX3_spreadTried_79_80 2 rfl) (zi_at zh_dX3_spreadTried_79_80 3 rfl) rfl
theorem dX3_spreadTried_84 : decode cX3_spreadTried 84 = .ok (.iload 7, 2) := zo_21 (zi_at zh_dX3_spreadTried_79_80 4 rfl) (zi_at zh_dX3_spreadTried_79_80 5 rfl)
theorem dX3_spreadTried_86 : decode cX3_spreadTried 86 = .ok (.istore 5, 2) := zo_54 (zi_at zh_dX3_spreadTried_79_80 6 rfl) (zi_at zh_dX3_spreadTried_79_80 7 rfl)
theorem dX3_spreadTried_88 : decode cX3_spreadTried 88 = .ok (.iinc 6 1, 3) := zo_132 (zi_at zh_dX3_spreadTried_79_80 8 rfl) (zi_at zh_dX3_spreadTried_79_80 9 rfl) (zi_at zh_dX3_spreadTried_79_80 10 rfl) rfl
theorem dX3_spreadTried_91 : decode cX3_spreadTried 91 = .ok (.goto (-61), 3) := zo_167 (zi_at zh_dX3_spreadTried_79_80 11 rfl) (zi_at zh_dX3_spreadTried_79_80 12 rfl) (zi_at zh_dX3_spreadTried_79_80 13 rfl) rfl
theorem dX3_spreadTried_94 : decode cX3_spreadTried 94 = .ok (.iload_n 2, 1) := zo_28 (zi_at zh_dX3_spreadTried_79_80 14 rfl)
theorem dX3_spreadTried_95 : decode cX3_spreadTried 95 = .ok (.iload 5, 2) := zo_21 (zi_at zh_dX3_spreadTried_79_80 15 rfl) (zi_at zh_dX3_spreadTried_95_96 0 rfl)
theorem dX3_spreadTried_97 : decode cX3_spreadTried 97 = .ok (.iload 4, 2) := zo_21 (zi_at zh_dX3_spreadTried_95_96 1 rfl) (zi_at zh_dX3_spreadTried_95_96 2 rfl)
theorem dX3_spreadTried_99 : decode cX3_spreadTried 99 = .ok (.isub, 1) := zo_100 (zi_at zh_dX3_spreadTried_95_96 3 rfl)
theorem dX3_spreadTried_100 : decode cX3_spreadTried 100 = .ok (.iadd, 1) := zo_96 (zi_at zh_dX3_spreadTried_95_96 4 rfl)
theorem dX3_spreadTried_101 : decode cX3_spreadTried 101 = .ok (.istore_n 2, 1) := zo_61 (zi_at zh_dX3_spreadTried_95_96 5 rfl)
theorem dX3_spreadTried_102 : decode cX3_spreadTried 102 = .ok (.iinc 3 1, 3) := zo_132 (zi_at zh_dX3_spreadTried_95_96 6 rfl) (zi_at zh_dX3_spreadTried_95_96 7 rfl) (zi_at zh_dX3_spreadTried_95_96 8 rfl) rfl
theorem dX3_spreadTried_105 : decode cX3_spreadTried 105 = .ok (.goto (-101), 3) := zo_167 (zi_at zh_dX3_spreadTried_95_96 9 rfl) (zi_at zh_dX3_spreadTried_95_96 10 rfl) (zi_at zh_dX3_spreadTried_95_96 11 rfl) rfl
theorem dX3_spreadTried_108 : decode cX3_spreadTried 108 = .ok (.iload_n 2, 1) := zo_28 (zi_at zh_dX3_spreadTried_95_96 12 rfl)
theorem dX3_spreadTried_109 : decode cX3_spreadTried 109 = .ok (.ireturn, 1) := zo_172 (zi_at zh_dX3_spreadTried_95_96 13 rfl)
theorem dX3_bestChangeOf_0 : decode cX3_bestChangeOf 0 = .ok (.iconst 0, 1) := zo_3 (zi_at zh_dX3_bestChangeOf_0_0 0 rfl)
theorem dX3_bestChangeOf_1 : decode cX3_bestChangeOf 1 = .ok (.istore_n 2, 1) := zo_61 (zi_at zh_dX3_bestChangeOf_0_0 1 rfl)
theorem dX3_bestChangeOf_2 : decode cX3_bestChangeOf 2 = .ok (.iload_n 2, 1) := zo_28 (zi_at zh_dX3_bestChangeOf_0_0 2 rfl)
theorem dX3_bestChangeOf_3 : decode cX3_bestChangeOf 3 = .ok (.iconst 4, 1) := zo_7 (zi_at zh_dX3_bestChangeOf_0_0 3 rfl)
theorem dX3_bestChangeOf_4 : decode cX3_bestChangeOf 4 = .ok (.if_icmp .ge 28, 3) := zo_162 (zi_at zh_dX3_bestChangeOf_0_0 4 rfl) (zi_at zh_dX3_bestChangeOf_0_0 5 rfl) (zi_at zh_dX3_bestChangeOf_0_0 6 rfl) rfl
theorem dX3_bestChangeOf_7 : decode cX3_bestChangeOf 7 = .ok (.aload_n 0, 1) := zo_42 (zi_at zh_dX3_bestChangeOf_0_0 7 rfl)
theorem dX3_bestChangeOf_8 : decode cX3_bestChangeOf 8 = .ok (.getfield 43, 3) := zo_180 (zi_at zh_dX3_bestChangeOf_0_0 8 rfl) (zi_at zh_dX3_bestChangeOf_0_0 9 rfl) (zi_at zh_dX3_bestChangeOf_0_0 10 rfl) rfl
theorem dX3_bestChangeOf_11 : decode cX3_bestChangeOf 11 = .ok (.iload_n 2, 1) := zo_28 (zi_at zh_dX3_bestChangeOf_0_0 11 rfl)
theorem dX3_bestChangeOf_12 : decode cX3_bestChangeOf 12 = .ok (.iaload, 1) := zo_46 (zi_at zh_dX3_bestChangeOf_0_0 12 rfl)
theorem dX3_bestChangeOf_13 : decode cX3_bestChangeOf 13 = .ok (.iload_n 1, 1) := zo_27 (zi_at zh_dX3_bestChangeOf_0_0 13 rfl)
theorem dX3_bestChangeOf_14 : decode cX3_bestChangeOf 14 = .ok (.if_icmp .ne 12, 3) := zo_160 (zi_at zh_dX3_bestChangeOf_0_0 14 rfl) (zi_at zh_dX3_bestChangeOf_0_0 15 rfl) (zi_at zh_dX3_bestChangeOf_14_16 0 rfl) rfl
theorem dX3_bestChangeOf_17 : decode cX3_bestChangeOf 17 = .ok (.aload_n 0, 1) := zo_42 (zi_at zh_dX3_bestChangeOf_14_16 1 rfl)
theorem dX3_bestChangeOf_18 : decode cX3_bestChangeOf 18 = .ok (.getfield 49, 3) := zo_180 (zi_at zh_dX3_bestChangeOf_14_16 2 rfl) (zi_at zh_dX3_bestChangeOf_14_16 3 rfl) (zi_at zh_dX3_bestChangeOf_14_16 4 rfl) rfl
theorem dX3_bestChangeOf_21 : decode cX3_bestChangeOf 21 = .ok (.iload_n 2, 1) := zo_28 (zi_at zh_dX3_bestChangeOf_14_16 5 rfl)
theorem dX3_bestChangeOf_22 : decode cX3_bestChangeOf 22 = .ok (.iaload, 1) := zo_46 (zi_at zh_dX3_bestChangeOf_14_16 6 rfl)
theorem dX3_bestChangeOf_23 : decode cX3_bestChangeOf 23 = .ok (.iconst 3, 1) := zo_6 (zi_at zh_dX3_bestChangeOf_14_16 7 rfl)
theorem dX3_bestChangeOf_24 : decode cX3_bestChangeOf 24 = .ok (.isub, 1) := zo_100 (zi_at zh_dX3_bestChangeOf_14_16 8 rfl)
theorem dX3_bestChangeOf_25 : decode cX3_bestChangeOf 25 = .ok (.ireturn, 1) := zo_172 (zi_at zh_dX3_bestChangeOf_14_16 9 rfl)
theorem dX3_bestChangeOf_26 : decode cX3_bestChangeOf 26 = .ok (.iinc 2 1, 3) := zo_132 (zi_at zh_dX3_bestChangeOf_14_16 10 rfl) (zi_at zh_dX3_bestChangeOf_14_16 11 rfl) (zi_at zh_dX3_bestChangeOf_14_16 12 rfl) rfl
theorem dX3_bestChangeOf_29 : decode cX3_bestChangeOf 29 = .ok (.goto (-27), 3) := zo_167 (zi_at zh_dX3_bestChangeOf_14_16 13 rfl) (zi_at zh_dX3_bestChangeOf_14_16 14 rfl) (zi_at zh_dX3_bestChangeOf_14_16 15 rfl) rfl
theorem dX3_bestChangeOf_32 : decode cX3_bestChangeOf 32 = .ok (.ldc 108, 2) := zo_18 (zi_at zh_dX3_bestChangeOf_32_32 0 rfl) (zi_at zh_dX3_bestChangeOf_32_32 1 rfl)
theorem dX3_bestChangeOf_34 : decode cX3_bestChangeOf 34 = .ok (.ireturn, 1) := zo_172 (zi_at zh_dX3_bestChangeOf_32_32 2 rfl)
theorem dX12_even_0 : decode cX12_even 0 = .ok (.aload_n 0, 1) := zo_42 (zi_at zh_dX12_even_0_0 0 rfl)
theorem dX12_even_1 : decode cX12_even 1 = .ok (.getfield 10, 3) := zo_180 (zi_at zh_dX12_even_0_0 1 rfl) (zi_at zh_dX12_even_0_0 2 rfl) (zi_at zh_dX12_even_0_0 3 rfl) rfl
theorem dX12_even_4 : decode cX12_even 4 = .ok (.iload_n 1, 1) := zo_27 (zi_at zh_dX12_even_0_0 4 rfl)
theorem dX12_even_5 : decode cX12_even 5 = .ok (.invokevirtual 246, 3) := zo_182 (zi_at zh_dX12_even_0_0 5 rfl) (zi_at zh_dX12_even_0_0 6 rfl) (zi_at zh_dX12_even_0_0 7 rfl) rfl
theorem dX12_even_8 : decode cX12_even 8 = .ok (.ifCond .ne 5, 3) := zo_154 (zi_at zh_dX12_even_0_0 8 rfl) (zi_at zh_dX12_even_0_0 9 rfl) (zi_at zh_dX12_even_0_0 10 rfl) rfl
theorem dX12_even_11 : decode cX12_even 11 = .ok (.iconst (-1), 1) := zo_2 (zi_at zh_dX12_even_0_0 11 rfl)
theorem dX12_even_12 : decode cX12_even 12 = .ok (.ireturn, 1) := zo_172 (zi_at zh_dX12_even_0_0 12 rfl)
theorem dX12_even_13 : decode cX12_even 13 = .ok (.aload_n 0, 1) := zo_42 (zi_at zh_dX12_even_0_0 13 rfl)
theorem dX12_even_14 : decode cX12_even 14 = .ok (.getfield 51, 3) := zo_180 (zi_at zh_dX12_even_0_0 14 rfl) (zi_at zh_dX12_even_0_0 15 rfl) (zi_at zh_dX12_even_14_16 0 rfl) rfl
theorem dX12_even_17 : decode cX12_even 17 = .ok (.invokevirtual 249, 3) := zo_182 (zi_at zh_dX12_even_14_16 1 rfl) (zi_at zh_dX12_even_14_16 2 rfl) (zi_at zh_dX12_even_14_16 3 rfl) rfl
theorem dX12_even_20 : decode cX12_even 20 = .ok (.aload_n 0, 1) := zo_42 (zi_at zh_dX12_even_14_16 4 rfl)
theorem dX12_even_21 : decode cX12_even 21 = .ok (.getfield 51, 3) := zo_180 (zi_at zh_dX12_even_14_16 5 rfl) (zi_at zh_dX12_even_14_16 6 rfl) (zi_at zh_dX12_even_14_16 7 rfl) rfl
theorem dX12_even_24 : decode cX12_even 24 = .ok (.iload_n 1, 1) := zo_27 (zi_at zh_dX12_even_14_16 8 rfl)
theorem dX12_even_25 : decode cX12_even 25 = .ok (.invokevirtual 252, 3) := zo_182 (zi_at zh_dX12_even_14_16 9 rfl) (zi_at zh_dX12_even_14_16 10 rfl) (zi_at zh_dX12_even_14_16 11 rfl) rfl
theorem dX12_even_28 : decode cX12_even 28 = .ok (.aload_n 0, 1) := zo_42 (zi_at zh_dX12_even_14_16 12 rfl)
theorem dX12_even_29 : decode cX12_even 29 = .ok (.getfield 51, 3) := zo_180 (zi_at zh_dX12_even_14_16 13 rfl) (zi_at zh_dX12_even_14_16 14 rfl) (zi_at zh_dX12_even_14_16 15 rfl) rfl
theorem dX12_even_32 : decode cX12_even 32 = .ok (.getfield 255, 3) := zo_180 (zi_at zh_dX12_even_32_32 0 rfl) (zi_at zh_dX12_even_32_32 1 rfl) (zi_at zh_dX12_even_32_32 2 rfl) rfl
theorem dX12_even_35 : decode cX12_even 35 = .ok (.ireturn, 1) := zo_172 (zi_at zh_dX12_even_32_32 3 rfl)
theorem dX12_change_0 : decode cX12_change 0 = .ok (.aload_n 0, 1) := zo_42 (zi_at zh_dX12_change_0_0 0 rfl)
theorem dX12_change_1 : decode cX12_change 1 = .ok (.getfield 10, 3) := zo_180 (zi_at zh_dX12_change_0_0 1 rfl) (zi_at zh_dX12_change_0_0 2 rfl) (zi_at zh_dX12_change_0_0 3 rfl) rfl
theorem dX12_change_4 : decode cX12_change 4 = .ok (.iload_n 1, 1) := zo_27 (zi_at zh_dX12_change_0_0 4 rfl)
theorem dX12_change_5 : decode cX12_change 5 = .ok (.invokevirtual 246, 3) := zo_182 (zi_at zh_dX12_change_0_0 5 rfl) (zi_at zh_dX12_change_0_0 6 rfl) (zi_at zh_dX12_change_0_0 7 rfl) rfl
theorem dX12_change_8 : decode cX12_change 8 = .ok (.ifCond .eq 22, 3) := zo_153 (zi_at zh_dX12_change_0_0 8 rfl) (zi_at zh_dX12_change_0_0 9 rfl) (zi_at zh_dX12_change_0_0 10 rfl) rfl
theorem dX12_change_11 : decode cX12_change 11 = .ok (.aload_n 0, 1) := zo_42 (zi_at zh_dX12_change_0_0 11 rfl)
theorem dX12_change_12 : decode cX12_change 12 = .ok (.getfield 10, 3) := zo_180 (zi_at zh_dX12_change_0_0 12 rfl) (zi_at zh_dX12_change_0_0 13 rfl) (zi_at zh_dX12_change_0_0 14 rfl) rfl
theorem dX12_change_15 : decode cX12_change 15 = .ok (.iload_n 2, 1) := zo_28 (zi_at zh_dX12_change_0_0 15 rfl)
theorem dX12_change_16 : decode cX12_change 16 = .ok (.invokevirtual 66, 3) := zo_182 (zi_at zh_dX12_change_16_16 0 rfl) (zi_at zh_dX12_change_16_16 1 rfl) (zi_at zh_dX12_change_16_16 2 rfl) rfl
theorem dX12_change_19 : decode cX12_change 19 = .ok (.ifCond .eq 11, 3) := zo_153 (zi_at zh_dX12_change_16_16 3 rfl) (zi_at zh_dX12_change_16_16 4 rfl) (zi_at zh_dX12_change_16_16 5 rfl) rfl
theorem dX12_change_22 : decode cX12_change 22 = .ok (.iload_n 1, 1) := zo_27 (zi_at zh_dX12_change_16_16 6 rfl)
theorem dX12_change_23 : decode cX12_change 23 = .ok (.iload_n 2, 1) := zo_28 (zi_at zh_dX12_change_16_16 7 rfl)
theorem dX12_change_24 : decode cX12_change 24 = .ok (.ishr, 1) := zo_122 (zi_at zh_dX12_change_16_16 8 rfl)
theorem dX12_change_25 : decode cX12_change 25 = .ok (.iconst 1, 1) := zo_4 (zi_at zh_dX12_change_16_16 9 rfl)
theorem dX12_change_26 : decode cX12_change 26 = .ok (.iand, 1) := zo_126 (zi_at zh_dX12_change_16_16 10 rfl)
theorem dX12_change_27 : decode cX12_change 27 = .ok (.ifCond .ne 6, 3) := zo_154 (zi_at zh_dX12_change_16_16 11 rfl) (zi_at zh_dX12_change_16_16 12 rfl) (zi_at zh_dX12_change_16_16 13 rfl) rfl
theorem dX12_change_30 : decode cX12_change 30 = .ok (.ldc 172, 2) := zo_18 (zi_at zh_dX12_change_16_16 14 rfl) (zi_at zh_dX12_change_16_16 15 rfl)
theorem dX12_change_32 : decode cX12_change 32 = .ok (.ireturn, 1) := zo_172 (zi_at zh_dX12_change_32_32 0 rfl)
theorem dX12_change_33 : decode cX12_change 33 = .ok (.aload_n 0, 1) := zo_42 (zi_at zh_dX12_change_32_32 1 rfl)
theorem dX12_change_34 : decode cX12_change 34 = .ok (.getfield 51, 3) := zo_180 (zi_at zh_dX12_change_32_32 2 rfl) (zi_at zh_dX12_change_32_32 3 rfl) (zi_at zh_dX12_change_32_32 4 rfl) rfl
theorem dX12_change_37 : decode cX12_change 37 = .ok (.invokevirtual 249, 3) := zo_182 (zi_at zh_dX12_change_32_32 5 rfl) (zi_at zh_dX12_change_32_32 6 rfl) (zi_at zh_dX12_change_32_32 7 rfl) rfl
theorem dX12_change_40 : decode cX12_change 40 = .ok (.aload_n 0, 1) := zo_42 (zi_at zh_dX12_change_32_32 8 rfl)
theorem dX12_change_41 : decode cX12_change 41 = .ok (.getfield 51, 3) := zo_180 (zi_at zh_dX12_change_32_32 9 rfl) (zi_at zh_dX12_change_32_32 10 rfl) (zi_at zh_dX12_change_32_32 11 rfl) rfl
theorem dX12_change_44 : decode cX12_change 44 = .ok (.iload_n 1, 1) := zo_27 (zi_at zh_dX12_change_32_32 12 rfl)
theorem dX12_change_45 : decode cX12_change 45 = .ok (.invokevirtual 252, 3) := zo_182 (zi_at zh_dX12_change_32_32 13 rfl) (zi_at zh_dX12_change_32_32 14 rfl) (zi_at zh_dX12_change_32_32 15 rfl) rfl
theorem dX12_change_48 : decode cX12_change 48 = .ok (.aload_n 0, 1) := zo_42 (zi_at zh_dX12_change_48_48 0 rfl)
theorem dX12_change_49 : decode cX12_change 49 = .ok (.getfield 51, 3) := zo_180 (zi_at zh_dX12_change_48_48 1 rfl) (zi_at zh_dX12_change_48_48 2 rfl) (zi_at zh_dX12_change_48_48 3 rfl) rfl
theorem dX12_change_52 : decode cX12_change 52 = .ok (.iload_n 2, 1) := zo_28 (zi_at zh_dX12_change_48_48 4 rfl)
theorem dX12_change_53 : decode cX12_change 53 = .ok (.invokevirtual 258, 3) := zo_182 (zi_at zh_dX12_change_48_48 5 rfl) (zi_at zh_dX12_change_48_48 6 rfl) (zi_at zh_dX12_change_48_48 7 rfl) rfl
theorem dX12_change_56 : decode cX12_change 56 = .ok (.ireturn, 1) := zo_172 (zi_at zh_dX12_change_48_48 8 rfl)
theorem hz_yX3_rowOf_2 : yX3_rowOf.cls ≠ "java/lang/invoke/MethodHandle" ∧ yX3_rowOf.cls ≠ "java/lang/invoke/VarHandle" ∧ (parseMethodDescriptor yX3_rowOf.desc).map (fun d => d.parameters.length) = some 2 := by decide +kernel
theorem hz_yX3_gatherChanged_1 : yX3_gatherChanged.cls ≠ "java/lang/invoke/MethodHandle" ∧ yX3_gatherChanged.cls ≠ "java/lang/invoke/VarHandle" ∧ (parseMethodDescriptor yX3_gatherChanged.desc).map (fun d => d.parameters.length) = some 1 := by decide +kernel
theorem hz_yX3_spreadTried_1 : yX3_spreadTried.cls ≠ "java/lang/invoke/MethodHandle" ∧ yX3_spreadTried.cls ≠ "java/lang/invoke/VarHandle" ∧ (parseMethodDescriptor yX3_spreadTried.desc).map (fun d => d.parameters.length) = some 1 := by decide +kernel
theorem hz_yX0_areSome_1 : yX0_areSome.cls ≠ "java/lang/invoke/MethodHandle" ∧ yX0_areSome.cls ≠ "java/lang/invoke/VarHandle" ∧ (parseMethodDescriptor yX0_areSome.desc).map (fun d => d.parameters.length) = some 1 := by decide +kernel
theorem hz_yX3_evenOut_1 : yX3_evenOut.cls ≠ "java/lang/invoke/MethodHandle" ∧ yX3_evenOut.cls ≠ "java/lang/invoke/VarHandle" ∧ (parseMethodDescriptor yX3_evenOut.desc).map (fun d => d.parameters.length) = some 1 := by decide +kernel
theorem hz_yX3_bestChangeOf_1 : yX3_bestChangeOf.cls ≠ "java/lang/invoke/MethodHandle" ∧ yX3_bestChangeOf.cls ≠ "java/lang/invoke/VarHandle" ∧ (parseMethodDescriptor yX3_bestChangeOf.desc).map (fun d => d.parameters.length) = some 1 := by decide +kernel

def v_areSomeX : List Cond := .code yX0_areSome cX0_areSome 2 (some .boolean) :: vA
abbrev rm_areSomeX : Room := { frames := 1, cells := 0, slots := 0, locals := 40 }
set_option maxHeartbeats 4000000 in
set_option maxRecDepth 100000 in
theorem q_areSomeX (l : Launch) (dC : Nat → ClassId) (dI : Nat → Nat → Nat) (cT : Nat → ClassId) (cf : Nat → Nat) (hC : CF cf) (ad : Nat → Nat) (E : Nat → va_E) (sz : Nat) (a0 : Int32) (hI0 : IXL cT (shC cf) (spC cf) (LC cf) ad E)  : Met l yX0_areSome v_areSomeX rm_areSomeX (va_Pc [.ref (ad 1), .int a0] (HWL dC dI (TYC cT) cf ad E sz)) (va_Qi (S := Unit) (fun r _ => (0 ≤ r.toInt ∧ r.toInt ≤ 1) ∧ (r.toInt = 1 ↔ SmB a0 (xi (E 1) 1))) (fun _ _ => True) (fun _ => False)) 0 0 (fun _ => False) := by
  obtain ⟨⟨hc0, hc1, hc2, hc3, hc4, hc5⟩, hcr⟩ := id hC
  refine Met.ofW (cc := cX0_areSome) (maxL := 2) (ret := (some .boolean)) (by decide) rfl ?_
  intro p e s m args below meth c s₁ B hml hv
  obtain ⟨hargs, hsz, hP, hK, hD0, hEV⟩ := hv
  subst hsz
  have hx := B.exec
  have hb := B.bytes
  have hr := B.returns
  have hts := atoms_spec (ws := v_areSomeX) B.pre
  have hown : s.vm.findClass RX0 = some m.cls := findClass_of_methodNamed B.named
  have hlocks := B.notSynchronized
  have hinX0 : ∀ w ∈ u_ws RX0 TX0 11, w ∈ v_areSomeX := fun w h => vA_in _ w (in_X0 w h)
  have hS : va_S (fun _ : Nat => False) s.heap s.heap [] := va_S.rf
  have hD := hD0
  have hI := hI0
  have hKp : Kp (wl [] []) E E := Kp.rf
  have hl := lv_entry ([.ref (ad 1), .int a0]) (n := 2) (Nat.le_of_ble_eq_true rfl)
  obtain ⟨Q, hQ⟩ : ∃ Q, Q = MQ below (va_Qi (S := Unit) (fun r _ => (0 ≤ r.toInt ∧ r.toInt ≤ 1) ∧ (r.toInt = 1 ↔ SmB a0 (xi (E 1) 1))) (fun _ _ => True) (fun _ => False)) args s 0 0 (fun _ => False) := ⟨_, rfl⟩
  rw [← hQ, show entryFrame m args 2 = _ from (congrArg (fun z => entryFrame m z 2) hargs).trans (lg_entry_eq _ _ _)]
  generalize (lg_sl ([.ref (ad 1), .int a0]) ++ List.replicate (2 - (lg_sl ([.ref (ad 1), .int a0])).length) Slot.unset).toArray = ls at hl ⊢
  have hl : lv_has ls 2 [(0, .ref (ad 1)), (1, .int a0)] := hl
  have z0z : (0 : Int32).toInt = 0 := rfl
  refine lv_iload_n hx hb dX0_areSome_0 rfl (lv_at hl 1 rfl) ?_
  refine lv_iconst (v := 0) hx hb dX0_areSome_1 (by decide) ?_
  refine lv_iconst (v := 1) hx hb dX0_areSome_2 (by decide) ?_
  refine lv_aload_n hx hb dX0_areSome_3 rfl (lv_at hl 0 rfl) ?_
  have i1 : 0 ≤ (xi (E 1) 1).toInt ∧ (xi (E 1) 1).toInt ≤ 16 := hI0.iv 1 (mF 1 rfl) rfl (Nat.le_of_ble_eq_true rfl) rfl
  refine th_getL (ci := 1) (C := RX0) (T := TX0) (N := 11) (v := .int (xi (E 1) 1)) hx hb hts hinX0 hown hK hP hI 1 (mF 1 rfl) rfl rfl 1 (Nat.le_of_ble_eq_true rfl) (hts _ (vA_in _ _ (in_4 _ (zs16 (zs4 (zs1 (zs0))))))) (fun _ h9 => h9) (th_v0L hKp hI0 1 (mF 1 rfl) rfl (Nat.le_of_ble_eq_true rfl) rfl rfl) dX0_areSome_4 ?_
  refine lv_ishl hx hb dX0_areSome_7 ?_
  refine lv_topi (fun y2 ey2 => ?_)
  have iy2 : 1 ≤ y2.toInt ∧ y2.toInt ≤ 65536 := ti_shl1 i1 ey2 (by decide)
  have k3 : y2.toInt = ((2 ^ (xi (E 1) 1).toNatClampNeg : Nat) : Int) := ti_shlN i1 ey2
  refine lv_iconst (v := 1) hx hb dX0_areSome_8 (by decide) ?_
  refine lv_isub hx hb dX0_areSome_9 ?_
  refine lv_topi (fun y4 ey4 => ?_)
  obtain ⟨ty4, iy4⟩ := ti_sub (e := 0) (f := 65535) iy2 ln_1 ey4 (by decide)
  have ty4 : y4.toInt = y2.toInt - 1 := ty4
  have iy4 : 0 ≤ y4.toInt ∧ y4.toInt ≤ 65535 := iy4
  refine th_pi (va_runSN (As := [.int a0, .int 0, .int y4]) (rest := []) ⟨hx, hb, hml, hown, hts⟩ (q_cwithin l a0 (0 : Int32) y4) ⟨va_cnB 3 hts (gi_0 (in_4 _ (zs16 (zs4 (zs4 (zs0)))))) rfl rfl rfl (hEV.1.1 _ (List.mem_of_getElem? (i := 3) rfl)) (hts _ (vA_in _ _ (in_4 _ (zs16 (zs4 (zs1 (zs1 (zs1 (zs0))))))))) hz_yX12_within_3 ⟨Nat.le_of_ble_eq_true rfl, Nat.le_of_ble_eq_true rfl⟩, (hts _ (vA_in _ _ (in_4 _ (zs16 (zs4 (zs1 (zs1 (zs0)))))))), trivial⟩ ⟨fun _ _ _ _ q => q, fun _ _ _ => ⟨rfl, trivial⟩⟩ rfl rfl hl.1 rfl (lv_room (Nat.le_of_ble_eq_true rfl)) dX0_areSome_10 ⟨Nat.le_of_ble_eq_true rfl, Nat.le_of_ble_eq_true rfl⟩) hS (fun r5 H1 locs1 hw hk1 hS => ?_)
  have hP := ub_keep hP hk1
  generalize H1 = H at hP hS ⊢
  generalize locs1 = locs at hS ⊢
  rcases hw with hw | hw
  · -- cwithin, case 0
    obtain ⟨rfl, f6⟩ := hw
    have t7 : (0 : Int) ≤ a0.toInt := f6.1
    have t8 : a0.toInt ≤ y4.toInt := f6.2
    have i9 : 0 ≤ a0.toInt ∧ a0.toInt ≤ 2147483647 := iv_le_r t7 (il_ 0) (iv_all _) (by decide)
    have i10 : 0 ≤ a0.toInt ∧ a0.toInt ≤ 65535 := iv_le_l t8 i9 iy4 (by decide)
    refine lv_if_eq (tgt := 32) hx hb dX0_areSome_13 (by decide) (fun c11 => ?_) (fun c11 => ?_)
    · --13 taken
      exact absurd c11 (by decide)
    · --13 not
      refine lv_iload_n hx hb dX0_areSome_16 rfl (lv_at hl 1 rfl) ?_
      refine th_pi (va_runS (As := [.int a0]) (rest := []) ⟨hx, hb, hml, hown, hts⟩ (q_bitCount l a0 i10) (va_cwS 1 hts (gi_S (in_4 _ (zs16 (zs4 (zs4 (zs1 (zs0)))))) (in_4 _ (zs16 (zs4 (zs4 (zs1 (zs1 (zs0))))))) (in_4 _ (zs16 (zs4 (zs4 (zs1 (zs1 (zs1 (zs0)))))))) (in_2 _ (zs4 (zs4 (zs1 (zs1 (zs0))))))) rfl rfl rfl hz_yJ6_bitCount_0f7a4_1 ⟨Nat.le_of_ble_eq_true rfl, Nat.le_of_ble_eq_true rfl⟩) ⟨fun _ _ _ _ q => q, fun _ _ _ => ⟨rfl, trivial⟩⟩ rfl rfl hl.1 rfl (lv_room (Nat.le_of_ble_eq_true rfl)) dX0_areSome_17 ⟨Nat.le_of_ble_eq_true rfl, Nat.le_of_ble_eq_true rfl⟩) hS (fun r12 H1 locs1 hw hk1 hS => ?_)
      have hP := ub_keep hP hk1
      generalize H1 = H at hP hS ⊢
      generalize locs1 = locs at hS ⊢
      have f13 := hw
      refine lv_iconst (v := 2) hx hb dX0_areSome_20 (by decide) ?_
      refine lv_iconst (v := 4) hx hb dX0_areSome_21 (by decide) ?_
      refine th_pi (va_runSN (As := [.int r12, .int 2, .int 4]) (rest := []) ⟨hx, hb, hml, hown, hts⟩ (q_cwithin l r12 (2 : Int32) (4 : Int32)) ⟨va_cnB 3 hts (gi_0 (in_4 _ (zs16 (zs4 (zs4 (zs0)))))) rfl rfl rfl (hEV.1.1 _ (List.mem_of_getElem? (i := 3) rfl)) (hts _ (vA_in _ _ (in_4 _ (zs16 (zs4 (zs1 (zs1 (zs1 (zs0))))))))) hz_yX12_within_3 ⟨Nat.le_of_ble_eq_true rfl, Nat.le_of_ble_eq_true rfl⟩, (hts _ (vA_in _ _ (in_4 _ (zs16 (zs4 (zs1 (zs1 (zs0)))))))), trivial⟩ ⟨fun _ _ _ _ q => q, fun _ _ _ => ⟨rfl, trivial⟩⟩ rfl rfl hl.1 rfl (lv_room (Nat.le_of_ble_eq_true rfl)) dX0_areSome_22 ⟨Nat.le_of_ble_eq_true rfl, Nat.le_of_ble_eq_true rfl⟩) hS (fun r14 H1 locs1 hw hk1 hS => ?_)
      have hP := ub_keep hP hk1
      generalize H1 = H at hP hS ⊢
      generalize locs1 = locs at hS ⊢
      rcases hw with hw | hw
      · -- cwithin, case 0
        obtain ⟨rfl, f15⟩ := hw
        have t16 : (2 : Int) ≤ r12.toInt := f15.1
        have t17 : r12.toInt ≤ 4 := f15.2
        have i18 : 2 ≤ r12.toInt ∧ r12.toInt ≤ 2147483647 := iv_le_r t16 (il_ 2) (iv_all _) (by decide)
        have i19 : 2 ≤ r12.toInt ∧ r12.toInt ≤ 4 := iv_le_l t17 i18 (il_ 4) (by decide)
        refine lv_if_eq (tgt := 32) hx hb dX0_areSome_25 (by decide) (fun c20 => ?_) (fun c20 => ?_)
        · --25 taken
          exact absurd c20 (by decide)
        · --25 not
          refine lv_iconst (v := 1) hx hb dX0_areSome_28 (by decide) ?_
          refine lv_goto (tgt := 33) hx hb dX0_areSome_29 (by decide) ?_
          rw [hQ]
          exact W.zret (v := 1) hx hb hr rfl (fun t ht hW => ⟨⟨1, (), rfl, ⟨(iv_w ln_1 (by decide)), ⟨fun _ => (show SmB a0 (xi (E 1) 1) from SmB.of (show y2.toInt.toNat = 2 ^ (xi (E 1) 1).toNatClampNeg by omega) f13 (by omega)), fun _ => rfl⟩⟩, trivial⟩, hS.F ht⟩) hS.2.2 dX0_areSome_33
      · -- cwithin, case 1
        obtain ⟨rfl, f21⟩ := hw
        have t22 : ¬ ((2 : Int) ≤ r12.toInt ∧ r12.toInt ≤ 4) := f21
        refine lv_if_eq (tgt := 32) hx hb dX0_areSome_25 (by decide) (fun c23 => ?_) (fun c23 => ?_)
        · --25 taken
          refine lv_iconst (v := 0) hx hb dX0_areSome_32 (by decide) ?_
          rw [hQ]
          exact W.zret (v := 0) hx hb hr rfl (fun t ht hW => ⟨⟨0, (), rfl, ⟨(iv_w ln_0 (by decide)), ⟨fun q9 => by exfalso; have z9 : (0 : Int32).toInt = 0 := rfl; omega, fun q9 => absurd q9 (show ¬ SmB a0 (xi (E 1) 1) from SmB.no (show y2.toInt.toNat = 2 ^ (xi (E 1) 1).toNatClampNeg by omega) f13 (by omega))⟩⟩, trivial⟩, hS.F ht⟩) hS.2.2 dX0_areSome_33
        · --25 not
          exact absurd c23 (by decide)
  · -- cwithin, case 1
    obtain ⟨rfl, f24⟩ := hw
    have t25 : ¬ ((0 : Int) ≤ a0.toInt ∧ a0.toInt ≤ y4.toInt) := f24
    refine lv_if_eq (tgt := 32) hx hb dX0_areSome_13 (by decide) (fun c26 => ?_) (fun c26 => ?_)
    · --13 taken
      refine lv_iconst (v := 0) hx hb dX0_areSome_32 (by decide) ?_
      rw [hQ]
      exact W.zret (v := 0) hx hb hr rfl (fun t ht hW => ⟨⟨0, (), rfl, ⟨(iv_w ln_0 (by decide)), ⟨fun q9 => by exfalso; have z9 : (0 : Int32).toInt = 0 := rfl; omega, fun q9 => absurd q9 (show ¬ SmB a0 (xi (E 1) 1) from SmB.no2 (show y2.toInt.toNat = 2 ^ (xi (E 1) 1).toNatClampNeg by omega) (by omega))⟩⟩, trivial⟩, hS.F ht⟩) hS.2.2 dX0_areSome_33
    · --13 not
      exact absurd c26 (by decide)
def v_gatherChangedX : List Cond := .code yX3_gatherChanged cX3_gatherChanged 8 none :: vA
abbrev rm_gatherChangedX : Room := { frames := 3, cells := 0, slots := 0, locals := 120 }
def w_gatherChangedX : Nat → Nat → Bool := wl [52] [(6, 15)]
set_option maxHeartbeats 4000000 in
set_option maxRecDepth 100000 in
theorem q_gatherChangedX (l : Launch) (dC : Nat → ClassId) (dI : Nat → Nat → Nat) (cT : Nat → ClassId) (cf : Nat → Nat) (hC : CF cf) (ad : Nat → Nat) (E : Nat → va_E) (sz : Nat) (a0 : Int32) (hI0 : IXL cT (shC cf) (spC cf) (LC cf) ad E) (hh0 : 0 ≤ a0.toInt ∧ a0.toInt ≤ 4) : Met l yX3_gatherChanged v_gatherChangedX rm_gatherChangedX (va_Pc [.ref (ad 6), .int a0] (HWL dC dI (TYC cT) cf ad E sz)) (va_Qv (S := Nat → va_E) (fun u => IXL cT (shC cf) (spC cf) (LC cf) ad u ∧ Kp w_gatherChangedX E u ∧ ((TbR (cnG (wyO E) (fnO E) a0.toNatClampNeg (xi (E 53))) (qtG (fnO E) (scO E) (nmO E) a0.toNatClampNeg (xi (E 53))) (cf 2) (xi (u 6) 15).toNatClampNeg (evX (xi (u 52)))))) (HBL dC dI (LC cf) ad) (va_A (WL (LC cf) ad E) sz)) 0 0 (va_A (WL (LC cf) ad E) sz) := by
  obtain ⟨⟨hc0, hc1, hc2, hc3, hc4, hc5⟩, hcr⟩ := id hC
  refine Met.ofW (cc := cX3_gatherChanged) (maxL := 8) (ret := none) (by decide) rfl ?_
  intro p e s m args below meth c s₁ B hml hv
  obtain ⟨hargs, hsz, hP, hK, hD0, hEV⟩ := hv
  subst hsz
  have hx := B.exec
  have hb := B.bytes
  have hr := B.returns
  have hts := atoms_spec (ws := v_gatherChangedX) B.pre
  have hown : s.vm.findClass RX3 = some m.cls := findClass_of_methodNamed B.named
  have hlocks := B.notSynchronized
  have hinX0 : ∀ w ∈ u_ws RX0 TX0 11, w ∈ v_gatherChangedX := fun w h => vA_in _ w (in_X0 w h)
  have hinX3 : ∀ w ∈ u_ws RX3 TX3 18, w ∈ v_gatherChangedX := fun w h => vA_in _ w (in_X3 w h)
  have hinX5 : ∀ w ∈ u_ws RX5 TX5 12, w ∈ v_gatherChangedX := fun w h => vA_in _ w (in_X5 w h)
  generalize hAe : va_A (WL (LC cf) ad E) s.heap.size = A at hEV ⊢
  have hA : ∀ q : Nat, s.heap.size ≤ q → A q := fun q h => by rw [← hAe]; exact Or.inr h
  have hD : va_D A (WL (LC cf) ad E) := by rw [← hAe]; exact hD0.self
  have hS : va_S A s.heap s.heap [] := va_S.rf
  have hI := hI0
  have hKp : Kp w_gatherChangedX E E := Kp.rf
  have hl := lv_entry ([.ref (ad 6), .int a0]) (n := 8) (Nat.le_of_ble_eq_true rfl)
  obtain ⟨Q, hQ⟩ : ∃ Q, Q = MQ below (va_Qv (S := Nat → va_E) (fun u => IXL cT (shC cf) (spC cf) (LC cf) ad u ∧ Kp w_gatherChangedX E u ∧ ((TbR (cnG (wyO E) (fnO E) a0.toNatClampNeg (xi (E 53))) (qtG (fnO E) (scO E) (nmO E) a0.toNatClampNeg (xi (E 53))) (cf 2) (xi (u 6) 15).toNatClampNeg (evX (xi (u 52)))))) (HBL dC dI (LC cf) ad) (A)) args s 0 0 (A) := ⟨_, rfl⟩
  rw [← hQ, show entryFrame m args 8 = _ from (congrArg (fun z => entryFrame m z 8) hargs).trans (lg_entry_eq _ _ _)]
  generalize (lg_sl ([.ref (ad 6), .int a0]) ++ List.replicate (8 - (lg_sl ([.ref (ad 6), .int a0])).length) Slot.unset).toArray = ls at hl ⊢
  have hl : lv_has ls 8 [(0, .ref (ad 6)), (1, .int a0)] := hl
  obtain ⟨g1, hg1⟩ : ∃ g, xi (E 52) = g := ⟨_, rfl⟩
  have z0z : (0 : Int32).toInt = 0 := rfl
  refine lv_aload_n hx hb dX3_gatherChanged_0 rfl (lv_at hl 0 rfl) ?_
  refine lv_iconst (v := 0) hx hb dX3_gatherChanged_1 (by decide) ?_
  refine th_putL (ci := 4) (C := RX3) (T := TX3) (N := 18) (v := .int 0) (ty := .int) hx hb hts hinX3 tyX3 tyX3_ok nmX3 hown hK hP (WL_D hD) hS hI 6 (mF 6 rfl) rfl rfl 15 (Nat.le_of_ble_eq_true rfl) (hts _ (vA_in _ _ (in_13 _ (zs16 (zs0))))) (fun _ h9 => h9) rfl (by decide +kernel) rfl rfl (okI rfl (iv_w ln_0 (by decide))) dX3_gatherChanged_2 (fun H locs E2 pw3 hI hP hS => ?_)
  have hKp := hKp.pw pw3 rfl
  refine lv_iconst (v := 0) hx hb dX3_gatherChanged_5 (by decide) ?_
  refine lv_istore_n (lv' := [(2, .int 0), (0, .ref (ad 6)), (1, .int a0)]) hx hb dX3_gatherChanged_6 rfl hl (by decide) rfl (fun ls hl => ?_)
  have hL7 : ∀ d : Nat, ∀ (w7_6_15 : Int32) (g7_52 : Nat → Int32) (v7_2 : Int32) (E7_ : Nat → va_E) (H : Heap) (locs : List Loc) (ls : Array Slot), 0 ≤ w7_6_15.toInt ∧ w7_6_15.toInt ≤ 20 → 0 ≤ v7_2.toInt ∧ v7_2.toInt ≤ 20 → TbR (cnG (wyO E) (fnO E) a0.toNatClampNeg (xi (E 53))) (qtG (fnO E) (scO E) (nmO E) a0.toNatClampNeg (xi (E 53))) v7_2.toNatClampNeg w7_6_15.toNatClampNeg (evX g7_52) → w7_6_15.toInt ≤ v7_2.toInt → v7_2.toInt ≤ ((cf 2 : Nat) : Int) → 20 - v7_2.toInt < (d : Int) → IXL cT (shC cf) (spC cf) (LC cf) ad E7_ → Kp w_gatherChangedX E E7_ → xv (E7_ 6) 15 = .int w7_6_15 → xi (E7_ 52) = g7_52 → va_P (dC, dI) vwCl (WL (LC cf) ad E7_) H → va_S A s.heap H locs → lv_has ls 8 [(2, .int v7_2), (0, .ref (ad 6)), (1, .int a0)] → W p l e (headSpec v_gatherChangedX rm_gatherChangedX).room s m args below meth c H locs 0 0 Q (F0 m 7 ls []) := by
    intro d
    induction d with
    | zero =>
      intro w7_6_15 g7_52 v7_2 E7_ H locs ls hw7_6_15 hv7_2 hx7_0 hx7_1 hx7_2 hx7_3 hI hKp hs7_6_15 hr7_52 hP hS hl
      exact absurd hx7_3 (by first | exact ms_zu hv7_2.2 | omega)
    | succ d ih7 =>
      intro w7_6_15 g7_52 v7_2 E7_ H locs ls hw7_6_15 hv7_2 hx7_0 hx7_1 hx7_2 hx7_3 hI hKp hs7_6_15 hr7_52 hP hS hl
      refine lv_iload_n hx hb dX3_gatherChanged_7 rfl (lv_at hl 0 rfl) ?_
      refine lv_aload_n hx hb dX3_gatherChanged_8 rfl (lv_at hl 1 rfl) ?_
      refine th_getL (ci := 4) (C := RX3) (T := TX3) (N := 18) (v := .ref (ad 1)) hx hb hts hinX3 hown hK hP hI 6 (mF 6 rfl) rfl rfl 0 (Nat.le_of_ble_eq_true rfl) (hts _ (vA_in _ _ (in_11 _ (zs16 (zs1 (zs0)))))) (fun _ h9 => h9) (hI.fr 6 (mF 6 rfl) rfl (Nat.le_of_ble_eq_true rfl) 1 rfl) dX3_gatherChanged_9 ?_
      refine th_getL (ci := 1) (C := RX0) (T := TX0) (N := 11) (v := .ref (ad 9)) hx hb hts hinX0 hown hK hP hI 1 (mF 1 rfl) rfl rfl 5 (Nat.le_of_ble_eq_true rfl) (hts _ (vA_in _ _ (in_11 _ (zs16 (zs1 (zs1 (zs0))))))) (fun _ h9 => h9) (hI.fr 1 (mF 1 rfl) rfl (Nat.le_of_ble_eq_true rfl) 9 rfl) dX3_gatherChanged_12 ?_
      refine th_riL (va_runV (As := []) (rest := [.int v7_2]) ⟨hx, hb, hml, hown, hts⟩ (q_size2 l dC dI cT cf hC ad E7_ H.size hI) (cwV 0 hts (gi_V (in_11 _ (zs16 (zs1 (zs1 (zs1 (zs0)))))) (in_4 _ (zs16 (zs16 (zs1 (zs1 (zs1 (zs0))))))) (in_4 _ (zs16 (zs16 (zs4 (zs0))))) (in_3 _ (zs16 (zs1 (zs1 (zs0))))) (in_4 _ (zs16 (zs1 (zs1 (zs1 (zs0))))))) rfl rfl rfl ⟨rfl, hz_yJx4a65c_size_8abf5_0⟩ ⟨Nat.le_of_ble_eq_true rfl, Nat.le_of_ble_eq_true rfl⟩) ⟨HWL_bl, va_recv hK hP (ci := 0) (q0 := posL 9 (LC cf)) rfl (hI.ob 9 (mF 9 rfl) rfl), (HWL_wi hP hK (WL_D hD) hS hA hEV)⟩ rfl rfl hl.1 rfl (lv_room (Nat.le_of_ble_eq_true rfl)) dX3_gatherChanged_15 ⟨Nat.le_of_ble_eq_true rfl, Nat.le_of_ble_eq_true rfl⟩) hS hP (fun r4 H locs hw hP hS => ?_)
      obtain ⟨f5, f6⟩ := hw
      refine lv_icmp_ge (tgt := 187) hx hb dX3_gatherChanged_18 (by decide) (fun c7 => ?_) (fun c7 => ?_)
      · --18 taken
        have t8 : r4.toInt ≤ v7_2.toInt := ti_le c7
        rw [hQ]
        exact W.vret hx hb hr (fun t ht hW => ⟨⟨E7_, rfl, ⟨hI, hKp, (by rw [show xi (E7_ 52) = g7_52 from hr7_52, show xi (E7_ 6) 15 = w7_6_15 from vi_e hs7_6_15]; have h9 := hx7_0; rw [show v7_2.toNatClampNeg = cf 2 by rw [tn_]; omega] at h9; exact h9)⟩, by show va_P (dC, dI) vwCl (WL (LC cf) ad E7_) t.heap; rw [ht]; exact hP⟩, hS.F ht⟩) hS.2.2 dX3_gatherChanged_187
      · --18 not
        have t9 : v7_2.toInt < r4.toInt := ti_nle c7
        have i10 : 0 ≤ v7_2.toInt ∧ v7_2.toInt ≤ 19 := iv_lt_l t9 hv7_2 f5 (by decide)
        have i11 : 1 ≤ r4.toInt ∧ r4.toInt ≤ 20 := iv_lt_r t9 hv7_2 f5 (by decide)
        have i12 : 0 ≤ w7_6_15.toInt ∧ w7_6_15.toInt ≤ 19 := by omega
        refine lv_aload_n hx hb dX3_gatherChanged_21 rfl (lv_at hl 1 rfl) ?_
        refine th_getL (ci := 4) (C := RX3) (T := TX3) (N := 18) (v := .ref (ad 1)) hx hb hts hinX3 hown hK hP hI 6 (mF 6 rfl) rfl rfl 0 (Nat.le_of_ble_eq_true rfl) (hts _ (vA_in _ _ (in_11 _ (zs16 (zs1 (zs0)))))) (fun _ h9 => h9) (hI.fr 6 (mF 6 rfl) rfl (Nat.le_of_ble_eq_true rfl) 1 rfl) dX3_gatherChanged_22 ?_
        refine th_getL (ci := 1) (C := RX0) (T := TX0) (N := 11) (v := .ref (ad 9)) hx hb hts hinX0 hown hK hP hI 1 (mF 1 rfl) rfl rfl 5 (Nat.le_of_ble_eq_true rfl) (hts _ (vA_in _ _ (in_11 _ (zs16 (zs1 (zs1 (zs0))))))) (fun _ h9 => h9) (hI.fr 1 (mF 1 rfl) rfl (Nat.le_of_ble_eq_true rfl) 9 rfl) dX3_gatherChanged_25 ?_
        refine lv_iload_n hx hb dX3_gatherChanged_28 rfl (lv_at hl 0 rfl) ?_
        refine th_rrL (va_runV (As := [.int v7_2]) (rest := []) ⟨hx, hb, hml, hown, hts⟩ (q_get2 l dC dI cT cf hC ad E7_ H.size v7_2 hI (by omega)) (cwV 1 hts (gi_V (in_13 _ (zs16 (zs4 (zs1 (zs0))))) (in_4 _ (zs16 (zs16 (zs4 (zs1 (zs1 (zs0))))))) (in_4 _ (zs16 (zs16 (zs4 (zs1 (zs1 (zs1 (zs0)))))))) (in_3 _ (zs16 (zs1 (zs1 (zs0))))) (in_3 _ (zs16 (zs16 (zs4 (zs1 (zs1 (zs1 (zs0))))))))) rfl rfl rfl ⟨rfl, hz_yJx4a65c_get_915e3_1⟩ ⟨Nat.le_of_ble_eq_true rfl, Nat.le_of_ble_eq_true rfl⟩) ⟨HWL_bl, va_recv hK hP (ci := 0) (q0 := posL 9 (LC cf)) rfl (hI.ob 9 (mF 9 rfl) rfl), (HWL_wi hP hK (WL_D hD) hS hA hEV)⟩ rfl rfl hl.1 rfl (lv_room (Nat.le_of_ble_eq_true rfl)) dX3_gatherChanged_29 ⟨Nat.le_of_ble_eq_true rfl, Nat.le_of_ble_eq_true rfl⟩) hS hP (fun r13 H locs hw hP hS => ?_)
        obtain rfl := hw
        have lv14 : v7_2.toNatClampNeg < cf 2 := by rw [tn_]; omega
        refine va_castS (cC := dC 6) hx hb hown (hts _ (vA_in _ _ (in_13 _ (zs16 (zs1 (zs0)))))) (hK.1 6 _ rfl).2 (va_recv hK hP (ci := 6) (q0 := posL (64 * (v7_2.toNatClampNeg + 1) + 6) (LC cf)) rfl (hI.ob (64 * (v7_2.toNatClampNeg + 1) + 6) (mP 6 v7_2.toNatClampNeg (by decide) lv14 (kl_le hC 2 (by decide))) (shC_p 6 v7_2.toNatClampNeg (by decide)))) dX3_gatherChanged_32 ?_
        have i15 : 0 ≤ (xi (E (64 * (v7_2.toNatClampNeg + 1) + 6)) 3).toInt ∧ (xi (E (64 * (v7_2.toNatClampNeg + 1) + 6)) 3).toInt ≤ 1 := hI0.iv (64 * (v7_2.toNatClampNeg + 1) + 6) (mP 6 v7_2.toNatClampNeg (by decide) lv14 (kl_le hC 2 (by decide))) (shC_p 6 v7_2.toNatClampNeg (by decide)) (Nat.le_of_ble_eq_true rfl) (spC_p 6 v7_2.toNatClampNeg (by decide) 3)
        refine th_getL (ci := 6) (C := RX5) (T := TX5) (N := 12) (v := .int (xi (E (64 * (v7_2.toNatClampNeg + 1) + 6)) 3)) hx hb hts hinX5 hown hK hP hI (64 * (v7_2.toNatClampNeg + 1) + 6) (mP 6 v7_2.toNatClampNeg (by decide) lv14 (kl_le hC 2 (by decide))) (shC_p 6 v7_2.toNatClampNeg (by decide)) rfl 3 (Nat.le_of_ble_eq_true rfl) (hts _ (vA_in _ _ (in_13 _ (zs16 (zs1 (zs1 (zs0))))))) (fun _ h9 => h9) (th_v0L hKp hI0 (64 * (v7_2.toNatClampNeg + 1) + 6) (mP 6 v7_2.toNatClampNeg (by decide) lv14 (kl_le hC 2 (by decide))) (shC_p 6 v7_2.toNatClampNeg (by decide)) (Nat.le_of_ble_eq_true rfl) (spC_p 6 v7_2.toNatClampNeg (by decide) 3) (wl_p rfl rfl (by omega))) dX3_gatherChanged_35 ?_
        refine lv_if_eq (tgt := 44) hx hb dX3_gatherChanged_38 (by decide) (fun c16 => ?_) (fun c16 => ?_)
        · --38 taken
          have t17 : (xi (E (64 * (v7_2.toNatClampNeg + 1) + 6)) 3).toInt = 0 := ti_eq c16
          have i18 : 0 ≤ (xi (E (64 * (v7_2.toNatClampNeg + 1) + 6)) 3).toInt ∧ (xi (E (64 * (v7_2.toNatClampNeg + 1) + 6)) 3).toInt ≤ 0 := iv_eqi t17 i15 (il_ 0) (by decide)
          refine lv_iconst (v := 0) hx hb dX3_gatherChanged_44 (by decide) ?_
          refine lv_istore_n (lv' := [(3, .int 0), (2, .int v7_2), (0, .ref (ad 6)), (1, .int a0)]) hx hb dX3_gatherChanged_45 rfl hl (by decide) rfl (fun ls hl => ?_)
          refine lv_iconst (v := 0) hx hb dX3_gatherChanged_46 (by decide) ?_
          refine lv_istore (lv' := [(4, .int 0), (3, .int 0), (2, .int v7_2), (0, .ref (ad 6)), (1, .int a0)]) hx hb dX3_gatherChanged_47 hl (by decide) rfl (fun ls hl => ?_)
          have hL49 : ∀ d : Nat, ∀ (g49_52 : Nat → Int32) (v49_4 : Int32) (v49_3 : Int32) (E49_ : Nat → va_E) (H : Heap) (locs : List Loc) (ls : Array Slot), 0 ≤ v49_4.toInt ∧ v49_4.toInt ≤ 4 → 0 ≤ v49_3.toInt ∧ v49_3.toInt ≤ 4 → CnR (fun j9 => fnO E v7_2.toNatClampNeg (xi (E 53) j9).toNatClampNeg) v49_4.toNatClampNeg v49_3.toInt → (∀ x9 : Nat, x9 < 28 * w7_6_15.toNatClampNeg → g49_52 x9 = g7_52 x9) → (∀ j9 : Nat, j9 < v49_4.toNatClampNeg → ∀ d9 : Nat, d9 < 7 → qcO E v7_2.toNatClampNeg (xi (E 53) j9).toNatClampNeg d9 (g49_52 ((4 * w7_6_15.toNatClampNeg + j9) * 7 + d9)).toInt) → v49_4.toInt ≤ a0.toInt → 4 - v49_4.toInt < (d : Int) → IXL cT (shC cf) (spC cf) (LC cf) ad E49_ → Kp w_gatherChangedX E E49_ → xv (E49_ 6) 15 = .int w7_6_15 → xi (E49_ 52) = g49_52 → va_P (dC, dI) vwCl (WL (LC cf) ad E49_) H → va_S A s.heap H locs → lv_has ls 8 [(4, .int v49_4), (3, .int v49_3), (2, .int v7_2), (0, .ref (ad 6)), (1, .int a0)] → W p l e (headSpec v_gatherChangedX rm_gatherChangedX).room s m args below meth c H locs 0 0 Q (F0 m 49 ls []) := by
            intro d
            induction d with
            | zero =>
              intro g49_52 v49_4 v49_3 E49_ H locs ls hv49_4 hv49_3 hx49_0 hx49_1 hx49_2 hx49_3 hx49_4 hI hKp hs49_6_15 hr49_52 hP hS hl
              exact absurd hx49_4 (by first | exact ms_zu hv49_4.2 | omega)
            | succ d ih49 =>
              intro g49_52 v49_4 v49_3 E49_ H locs ls hv49_4 hv49_3 hx49_0 hx49_1 hx49_2 hx49_3 hx49_4 hI hKp hs49_6_15 hr49_52 hP hS hl
              refine lv_iload hx hb dX3_gatherChanged_49 (lv_at hl 0 rfl) ?_
              refine lv_iload_n hx hb dX3_gatherChanged_51 rfl (lv_at hl 4 rfl) ?_
              refine lv_icmp_ge (tgt := 166) hx hb dX3_gatherChanged_52 (by decide) (fun c19 => ?_) (fun c19 => ?_)
              · --52 taken
                have t20 : a0.toInt ≤ v49_4.toInt := ti_le c19
                have k21 : CnR (fun j9 => fnO E v7_2.toNatClampNeg (xi (E 53) j9).toNatClampNeg) a0.toNatClampNeg v49_3.toInt := by have z9 := hx49_0; rw [show v49_4.toNatClampNeg = a0.toNatClampNeg by rw [tn_, tn_]; omega] at z9; exact z9
                refine lv_iload_n hx hb dX3_gatherChanged_166 rfl (lv_at hl 1 rfl) ?_
                refine lv_iconst (v := 2) hx hb dX3_gatherChanged_167 (by decide) ?_
                refine lv_icmp_lt (tgt := 181) hx hb dX3_gatherChanged_168 (by decide) (fun c22 => ?_) (fun c22 => ?_)
                · --168 taken
                  have t23 : v49_3.toInt < 2 := ti_lt c22
                  have i24 : 0 ≤ v49_3.toInt ∧ v49_3.toInt ≤ 1 := iv_lt_l t23 hv49_3 (il_ 2) (by decide)
                  obtain ⟨y25, ey25⟩ : ∃ y : Int32, y = v7_2 + (1 : Int32) := ⟨_, rfl⟩
                  obtain ⟨ty25, iy25⟩ := ti_add (e := 1) (f := 20) i10 ln_1 ey25 (by decide)
                  have ty25 : y25.toInt = v7_2.toInt + 1 := ty25
                  have iy25 : 1 ≤ y25.toInt ∧ y25.toInt ≤ 20 := iy25
                  refine lv_iinc (v := y25) (lv' := [(2, .int y25), (4, .int v49_4), (3, .int v49_3), (0, .ref (ad 6)), (1, .int a0)]) hx hb dX3_gatherChanged_181 hl (k := 2) rfl (by rw [ey25]; rfl) (by decide) rfl (fun ls hl => ?_)
                  refine lv_goto (tgt := 7) hx hb dX3_gatherChanged_184 (by decide) ?_
                  exact ih7 w7_6_15 g49_52 y25 E49_ _ _ _ (iv_w i12 (by decide)) (iv_w iy25 (by decide)) (TbR.no (TbX.up (show a0.toNatClampNeg ≤ 4 by rw [tn_]; omega) hx7_0 hx49_1) (fun q9 => by obtain ⟨-, n9, h8, h9⟩ := q9; have h7 := CnR.un _ _ _ h8 k21 (fun k9 _ => Iff.rfl); omega) (by rw [tn_ y25, tn_ v7_2]; omega)) (by omega) (by omega) (by first | exact ms_su hx7_3 ty25 (by decide) | omega) hI hKp hs49_6_15 hr49_52 hP hS (lv_sub hl [0, 3, 4] rfl)
                · --168 not
                  have t26 : (2 : Int) ≤ v49_3.toInt := ti_nlt c22
                  have i27 : 2 ≤ v49_3.toInt ∧ v49_3.toInt ≤ 4 := iv_le_r t26 (il_ 2) hv49_3 (by decide)
                  refine lv_aload_n hx hb dX3_gatherChanged_171 rfl (lv_at hl 3 rfl) ?_
                  refine lv_dup hx hb dX3_gatherChanged_172 rfl ?_
                  refine th_getL (ci := 4) (C := RX3) (T := TX3) (N := 18) (v := .int w7_6_15) hx hb hts hinX3 hown hK hP hI 6 (mF 6 rfl) rfl rfl 15 (Nat.le_of_ble_eq_true rfl) (hts _ (vA_in _ _ (in_13 _ (zs16 (zs0))))) (fun _ h9 => h9) hs49_6_15 dX3_gatherChanged_173 ?_
                  refine lv_iconst (v := 1) hx hb dX3_gatherChanged_176 (by decide) ?_
                  refine lv_iadd hx hb dX3_gatherChanged_177 ?_
                  refine lv_topi (fun y28 ey28 => ?_)
                  obtain ⟨ty28, iy28⟩ := ti_add (e := 1) (f := 20) i12 ln_1 ey28 (by decide)
                  have ty28 : y28.toInt = w7_6_15.toInt + 1 := ty28
                  have iy28 : 1 ≤ y28.toInt ∧ y28.toInt ≤ 20 := iy28
                  refine th_putL (ci := 4) (C := RX3) (T := TX3) (N := 18) (v := .int y28) (ty := .int) hx hb hts hinX3 tyX3 tyX3_ok nmX3 hown hK hP (WL_D hD) hS hI 6 (mF 6 rfl) rfl rfl 15 (Nat.le_of_ble_eq_true rfl) (hts _ (vA_in _ _ (in_13 _ (zs16 (zs0))))) (fun _ h9 => h9) rfl (by decide +kernel) rfl rfl (okI rfl (iv_w iy28 (by decide))) dX3_gatherChanged_178 (fun H locs E29 pw30 hI hP hS => ?_)
                  have hKp := hKp.pw pw30 rfl
                  obtain ⟨y31, ey31⟩ : ∃ y : Int32, y = v7_2 + (1 : Int32) := ⟨_, rfl⟩
                  obtain ⟨ty31, iy31⟩ := ti_add (e := 1) (f := 20) i10 ln_1 ey31 (by decide)
                  have ty31 : y31.toInt = v7_2.toInt + 1 := ty31
                  have iy31 : 1 ≤ y31.toInt ∧ y31.toInt ≤ 20 := iy31
                  refine lv_iinc (v := y31) (lv' := [(2, .int y31), (4, .int v49_4), (3, .int v49_3), (0, .ref (ad 6)), (1, .int a0)]) hx hb dX3_gatherChanged_181 hl (k := 2) rfl (by rw [ey31]; rfl) (by decide) rfl (fun ls hl => ?_)
                  refine lv_goto (tgt := 7) hx hb dX3_gatherChanged_184 (by decide) ?_
                  exact ih7 y28 g49_52 y31 E29 _ _ _ (iv_w iy28 (by decide)) (iv_w iy31 (by decide)) (TbR.yes (TbX.up (show a0.toNatClampNeg ≤ 4 by rw [tn_]; omega) hx7_0 hx49_1) ⟨(show (xi (E (64 * (v7_2.toNatClampNeg + 1) + 6)) 3).toInt = 0 by omega), _, k21, by omega⟩ (fun j9 d9 h8 h9 => hx49_2 j9 (by rw [show v49_4.toNatClampNeg = a0.toNatClampNeg by rw [tn_, tn_]; omega]; exact h8) d9 h9) (by rw [tn_ y28, tn_ w7_6_15]; omega) (by rw [tn_ y31, tn_ v7_2]; omega)) (by omega) (by omega) (by first | exact ms_su hx7_3 ty31 (by decide) | omega) hI hKp pw30.1 ((pw30.ef 52 (Nat.ne_of_beq_eq_false rfl)).trans hr49_52) hP hS (lv_sub hl [0, 3, 4] rfl)
              · --52 not
                have t32 : v49_4.toInt < a0.toInt := ti_nle c19
                have i33 : 0 ≤ v49_4.toInt ∧ v49_4.toInt ≤ 3 := iv_lt_l t32 hv49_4 hh0 (by decide)
                have i34 : 1 ≤ a0.toInt ∧ a0.toInt ≤ 4 := iv_lt_r t32 hv49_4 hh0 (by decide)
                have i35 : 0 ≤ v49_3.toInt ∧ v49_3.toInt ≤ 3 := by have h9 := CnR.bd _ _ hx49_0; rw [tn_] at h9; omega
                refine lv_iload_n hx hb dX3_gatherChanged_55 rfl (lv_at hl 2 rfl) ?_
                refine lv_aload_n hx hb dX3_gatherChanged_56 rfl (lv_at hl 3 rfl) ?_
                refine th_getL (ci := 4) (C := RX3) (T := TX3) (N := 18) (v := .ref (ad 53)) hx hb hts hinX3 hown hK hP hI 6 (mF 6 rfl) rfl rfl 12 (Nat.le_of_ble_eq_true rfl) (hts _ (vA_in _ _ (in_13 _ (zs4 (zs1 (zs1 (zs0))))))) (fun _ h9 => h9) (hI.fr 6 (mF 6 rfl) rfl (Nat.le_of_ble_eq_true rfl) 53 rfl) dX3_gatherChanged_57 ?_
                refine lv_iload hx hb dX3_gatherChanged_60 (lv_at hl 0 rfl) ?_
                have n37 : vp_in v49_4 4 := (iv_in (n := 4) i33 (by decide))
                refine th_ialdL hx hb hK hP hI 53 (mF 53 rfl) rfl rfl n37 dX3_gatherChanged_62 (fun y36 ey36 => ?_)
                have iy36 : 0 ≤ y36.toInt ∧ y36.toInt ≤ 15 := hI.el 53 (mF 53 rfl) rfl n37 (fun _ => rfl) ey36
                have ey36 := ey36.trans (hKp.ei 53 _ rfl)
                refine th_pi (va_runSN (As := [.int v7_2, .int y36]) (rest := []) ⟨hx, hb, hml, hown, hts⟩ (q_ccell l v7_2 y36 i10 iy36) ⟨va_cnB 2 hts (gi_0 (in_10 _ (zs16 (zs4 (zs0))))) rfl rfl rfl (hEV.1.1 _ (List.mem_of_getElem? (i := 7) rfl)) (hts _ (vA_in _ _ (in_4 _ (zs16 (zs4 (zs1 (zs1 (zs1 (zs0))))))))) hz_yX12_cell_2 ⟨Nat.le_of_ble_eq_true rfl, Nat.le_of_ble_eq_true rfl⟩, (hts _ (vA_in _ _ (in_13 _ (zs1 (zs0))))), trivial⟩ ⟨fun _ _ _ _ q => q, fun _ _ _ => ⟨rfl, trivial⟩⟩ rfl rfl hl.1 rfl (lv_room (Nat.le_of_ble_eq_true rfl)) dX3_gatherChanged_63 ⟨Nat.le_of_ble_eq_true rfl, Nat.le_of_ble_eq_true rfl⟩) hS (fun r38 H1 locs1 hw hk1 hS => ?_)
                have hP := ub_keep hP hk1
                generalize H1 = H at hP hS ⊢
                generalize locs1 = locs at hS ⊢
                obtain ⟨f39, f40⟩ := hw
                have k41 : 16 * v7_2.toNatClampNeg + (xi (E 53) v49_4.toNatClampNeg).toNatClampNeg = r38.toNatClampNeg := by rw [← ey36, tn_ r38, tn_ v7_2, tn_ y36]; omega
                refine lv_istore (lv' := [(5, .int r38), (4, .int v49_4), (3, .int v49_3), (2, .int v7_2), (0, .ref (ad 6)), (1, .int a0)]) hx hb dX3_gatherChanged_66 hl (by decide) rfl (fun ls hl => ?_)
                refine lv_aload_n hx hb dX3_gatherChanged_68 rfl (lv_at hl 4 rfl) ?_
                refine th_getL (ci := 4) (C := RX3) (T := TX3) (N := 18) (v := .ref (ad 43)) hx hb hts hinX3 hown hK hP hI 6 (mF 6 rfl) rfl rfl 2 (Nat.le_of_ble_eq_true rfl) (hts _ (vA_in _ _ (in_11 _ (zs16 (zs4 (zs4 (zs1 (zs1 (zs0))))))))) (fun _ h9 => h9) (hI.fr 6 (mF 6 rfl) rfl (Nat.le_of_ble_eq_true rfl) 43 rfl) dX3_gatherChanged_69 ?_
                refine lv_iload hx hb dX3_gatherChanged_72 (lv_at hl 0 rfl) ?_
                have n43 : vp_in r38 320 := (iv_in (n := 320) f39 (by decide))
                refine th_zaldL hx hb hK hP hI 43 (mF 43 rfl) rfl rfl n43 dX3_gatherChanged_74 (fun y42 ey42 => ?_)
                have iy42 : 0 ≤ y42.toInt ∧ y42.toInt ≤ 1 := hI.el 43 (mF 43 rfl) rfl n43 (fun _ => rfl) ey42
                have ey42 := ey42.trans (hKp.ei 43 _ rfl)
                refine lv_if_eq (tgt := 81) hx hb dX3_gatherChanged_75 (by decide) (fun c44 => ?_) (fun c44 => ?_)
                · --75 taken
                  have t45 : y42.toInt = 0 := ti_eq c44
                  have i46 : 0 ≤ y42.toInt ∧ y42.toInt ≤ 0 := iv_eqi t45 iy42 (il_ 0) (by decide)
                  refine lv_iconst (v := 0) hx hb dX3_gatherChanged_81 (by decide) ?_
                  refine lv_istore (lv' := [(6, .int 0), (5, .int r38), (4, .int v49_4), (3, .int v49_3), (2, .int v7_2), (0, .ref (ad 6)), (1, .int a0)]) hx hb dX3_gatherChanged_82 hl (by decide) rfl (fun ls hl => ?_)
                  have hL84 : ∀ d : Nat, ∀ (g84_52 : Nat → Int32) (v84_6 : Int32) (E84_ : Nat → va_E) (H : Heap) (locs : List Loc) (ls : Array Slot), 0 ≤ v84_6.toInt ∧ v84_6.toInt ≤ 7 → (∀ x9 : Nat, x9 < (4 * w7_6_15.toNatClampNeg + v49_4.toNatClampNeg) * 7 → g84_52 x9 = g49_52 x9) → (∀ d9 : Nat, d9 < v84_6.toNatClampNeg → qcO E v7_2.toNatClampNeg (xi (E 53) v49_4.toNatClampNeg).toNatClampNeg d9 (g84_52 ((4 * w7_6_15.toNatClampNeg + v49_4.toNatClampNeg) * 7 + d9)).toInt) → v84_6.toInt ≤ 7 → 7 - v84_6.toInt < (d : Int) → IXL cT (shC cf) (spC cf) (LC cf) ad E84_ → Kp w_gatherChangedX E E84_ → xv (E84_ 6) 15 = .int w7_6_15 → xi (E84_ 52) = g84_52 → va_P (dC, dI) vwCl (WL (LC cf) ad E84_) H → va_S A s.heap H locs → lv_has ls 8 [(6, .int v84_6), (5, .int r38), (4, .int v49_4), (3, .int v49_3), (2, .int v7_2), (0, .ref (ad 6)), (1, .int a0)] → W p l e (headSpec v_gatherChangedX rm_gatherChangedX).room s m args below meth c H locs 0 0 Q (F0 m 84 ls []) := by
                    intro d
                    induction d with
                    | zero =>
                      intro g84_52 v84_6 E84_ H locs ls hv84_6 hx84_0 hx84_1 hx84_2 hx84_3 hI hKp hs84_6_15 hr84_52 hP hS hl
                      exact absurd hx84_3 (by first | exact ms_zu hv84_6.2 | omega)
                    | succ d ih84 =>
                      intro g84_52 v84_6 E84_ H locs ls hv84_6 hx84_0 hx84_1 hx84_2 hx84_3 hI hKp hs84_6_15 hr84_52 hP hS hl
                      refine lv_iload hx hb dX3_gatherChanged_84 (lv_at hl 0 rfl) ?_
                      refine lv_bipush (v := 7) hx hb dX3_gatherChanged_86 (by decide) ?_
                      refine lv_icmp_ge (tgt := 160) hx hb dX3_gatherChanged_88 (by decide) (fun c47 => ?_) (fun c47 => ?_)
                      · --88 taken
                        have t48 : (7 : Int) ≤ v84_6.toInt := ti_le c47
                        have i49 : 7 ≤ v84_6.toInt ∧ v84_6.toInt ≤ 7 := iv_le_r t48 (il_ 7) hv84_6 (by decide)
                        obtain ⟨y50, ey50⟩ : ∃ y : Int32, y = v49_4 + (1 : Int32) := ⟨_, rfl⟩
                        obtain ⟨ty50, iy50⟩ := ti_add (e := 1) (f := 4) i33 ln_1 ey50 (by decide)
                        have ty50 : y50.toInt = v49_4.toInt + 1 := ty50
                        have iy50 : 1 ≤ y50.toInt ∧ y50.toInt ≤ 4 := iy50
                        refine lv_iinc (v := y50) (lv' := [(4, .int y50), (6, .int v84_6), (5, .int r38), (3, .int v49_3), (2, .int v7_2), (0, .ref (ad 6)), (1, .int a0)]) hx hb dX3_gatherChanged_160 hl (k := 2) rfl (by rw [ey50]; rfl) (by decide) rfl (fun ls hl => ?_)
                        refine lv_goto (tgt := 49) hx hb dX3_gatherChanged_163 (by decide) ?_
                        exact ih49 g84_52 y50 v49_3 E84_ _ _ _ (iv_w iy50 (by decide)) (iv_w i35 (by decide)) (hx49_0.no (by have q8 : ¬ (xi (E 43) (16 * v7_2.toNatClampNeg + (xi (E 53) v49_4.toNatClampNeg).toNatClampNeg)).toInt = 1 := (by rw [k41, ← ey42]; omega); exact q8) (by omega) (by rw [tn_ y50, tn_ v49_4]; omega)) (fun x9 h9 => (hx84_0 x9 (by omega)).trans (hx49_1 x9 h9)) (gc_c (P := (fun j9 d9 z9 => qcO E v7_2.toNatClampNeg (xi (E 53) j9).toNatClampNeg d9 z9)) hx49_2 hx84_0 hx84_1 (by rw [tn_]; omega) (by rw [tn_ y50, tn_ v49_4]; omega)) (by omega) (by first | exact ms_su hx49_4 ty50 (by decide) | omega) hI hKp hs84_6_15 hr84_52 hP hS (lv_sub hl [0, 3, 4, 5, 6] rfl)
                      · --88 not
                        have t51 : v84_6.toInt < 7 := ti_nle c47
                        have i52 : 0 ≤ v84_6.toInt ∧ v84_6.toInt ≤ 6 := iv_lt_l t51 hv84_6 (il_ 7) (by decide)
                        refine lv_iconst (v := 1) hx hb dX3_gatherChanged_91 (by decide) ?_
                        refine lv_aload_n hx hb dX3_gatherChanged_92 rfl (lv_at hl 5 rfl) ?_
                        refine th_getL (ci := 4) (C := RX3) (T := TX3) (N := 18) (v := .ref (ad 45)) hx hb hts hinX3 hown hK hP hI 6 (mF 6 rfl) rfl rfl 4 (Nat.le_of_ble_eq_true rfl) (hts _ (vA_in _ _ (in_11 _ (zs16 (zs4 (zs4 (zs4 (zs1 (zs1 (zs0)))))))))) (fun _ h9 => h9) (hI.fr 6 (mF 6 rfl) rfl (Nat.le_of_ble_eq_true rfl) 45 rfl) dX3_gatherChanged_93 ?_
                        refine lv_iload hx hb dX3_gatherChanged_96 (lv_at hl 1 rfl) ?_
                        have n54 : vp_in r38 320 := (iv_in (n := 320) f39 (by decide))
                        refine th_ialdL hx hb hK hP hI 45 (mF 45 rfl) rfl rfl n54 dX3_gatherChanged_98 (fun y53 ey53 => ?_)
                        have iy53 : 0 ≤ y53.toInt ∧ y53.toInt ≤ 2000 := hI.el 45 (mF 45 rfl) rfl n54 (fun _ => rfl) ey53
                        have ey53 := ey53.trans (hKp.ei 45 _ rfl)
                        refine lv_iload hx hb dX3_gatherChanged_99 (lv_at hl 0 rfl) ?_
                        refine lv_iadd hx hb dX3_gatherChanged_101 ?_
                        refine lv_topi (fun y55 ey55 => ?_)
                        obtain ⟨ty55, iy55⟩ := ti_add (e := 0) (f := 2006) iy53 i52 ey55 (by decide)
                        have ty55 : y55.toInt = y53.toInt + v84_6.toInt := ty55
                        have iy55 : 0 ≤ y55.toInt ∧ y55.toInt ≤ 2006 := iy55
                        refine lv_iconst (v := 3) hx hb dX3_gatherChanged_102 (by decide) ?_
                        refine lv_isub hx hb dX3_gatherChanged_103 ?_
                        refine lv_topi (fun y56 ey56 => ?_)
                        obtain ⟨ty56, iy56⟩ := ti_sub (e := (-3)) (f := 2003) iy55 ln_3 ey56 (by decide)
                        have ty56 : y56.toInt = y55.toInt - 3 := ty56
                        have iy56 : -3 ≤ y56.toInt ∧ y56.toInt ≤ 2003 := iy56
                        refine va_mmax hx hb (by rw [hml]; exact hl.1.symm) hown (hts _ (vA_in _ _ (in_13 _ (zs16 (zs1 (zs1 (zs1 (zs0)))))))) (hts _ (vA_in _ _ (in_0 _ (zs16 (zs16 (zs0)))))) (hts _ (vA_in _ _ (in_0 _ (zs16 (zs16 (zs1 (zs0))))))) (hts _ (vA_in _ _ (in_0 _ (zs16 (zs16 (zs1 (zs1 (zs0)))))))) (Nat.le_of_ble_eq_true rfl) (Nat.le_of_ble_eq_true rfl) (Nat.le_of_ble_eq_true rfl) (Nat.le_of_ble_eq_true rfl) dX3_gatherChanged_104 ?_
                        have z1 := ln_1
                        refine lv_topi (fun y57 ey57 => ?_)
                        obtain ⟨ty57, iy57⟩ := ti_max (e := 1) (f := 2003) ln_1 iy56 ey57 (by decide)
                        have iy57 : 1 ≤ y57.toInt ∧ y57.toInt ≤ 2003 := iy57
                        refine lv_istore (lv' := [(7, .int y57), (6, .int v84_6), (5, .int r38), (4, .int v49_4), (3, .int v49_3), (2, .int v7_2), (0, .ref (ad 6)), (1, .int a0)]) hx hb dX3_gatherChanged_107 hl (by decide) rfl (fun ls hl => ?_)
                        refine lv_aload_n hx hb dX3_gatherChanged_109 rfl (lv_at hl 6 rfl) ?_
                        refine th_getL (ci := 4) (C := RX3) (T := TX3) (N := 18) (v := .ref (ad 52)) hx hb hts hinX3 hown hK hP hI 6 (mF 6 rfl) rfl rfl 11 (Nat.le_of_ble_eq_true rfl) (hts _ (vA_in _ _ (in_13 _ (zs16 (zs4 (zs0)))))) (fun _ h9 => h9) (hI.fr 6 (mF 6 rfl) rfl (Nat.le_of_ble_eq_true rfl) 52 rfl) dX3_gatherChanged_110 ?_
                        refine lv_aload_n hx hb dX3_gatherChanged_113 rfl (lv_at hl 6 rfl) ?_
                        refine th_getL (ci := 4) (C := RX3) (T := TX3) (N := 18) (v := .int w7_6_15) hx hb hts hinX3 hown hK hP hI 6 (mF 6 rfl) rfl rfl 15 (Nat.le_of_ble_eq_true rfl) (hts _ (vA_in _ _ (in_13 _ (zs16 (zs0))))) (fun _ h9 => h9) hs84_6_15 dX3_gatherChanged_114 ?_
                        refine lv_iload hx hb dX3_gatherChanged_117 (lv_at hl 3 rfl) ?_
                        refine th_pi (va_runS (As := [.int w7_6_15, .int v49_4]) (rest := [.ref (ad 52)]) ⟨hx, hb, hml, hown, hts⟩ (q_crowOf l w7_6_15 v49_4 i12 i33) (va_cwS 2 hts (gi_S (in_13 _ (zs16 (zs4 (zs1 (zs1 (zs0)))))) (in_13 _ (zs16 (zs4 (zs1 (zs1 (zs1 (zs0))))))) (in_11 _ (zs4 (zs4 (zs4 (zs1 (zs1 (zs1 (zs0)))))))) (in_13 _ (zs16 (zs4 (zs4 (zs0)))))) rfl rfl rfl hz_yX3_rowOf_2 ⟨Nat.le_of_ble_eq_true rfl, Nat.le_of_ble_eq_true rfl⟩) ⟨fun _ _ _ _ q => q, fun _ _ _ => ⟨rfl, trivial⟩⟩ rfl rfl hl.1 rfl (lv_room (Nat.le_of_ble_eq_true rfl)) dX3_gatherChanged_119 ⟨Nat.le_of_ble_eq_true rfl, Nat.le_of_ble_eq_true rfl⟩) hS (fun r58 H1 locs1 hw hk1 hS => ?_)
                        have hP := ub_keep hP hk1
                        generalize H1 = H at hP hS ⊢
                        generalize locs1 = locs at hS ⊢
                        obtain ⟨f59, f60⟩ := hw
                        refine lv_iload hx hb dX3_gatherChanged_122 (lv_at hl 1 rfl) ?_
                        refine lv_iadd hx hb dX3_gatherChanged_124 ?_
                        refine lv_topi (fun y61 ey61 => ?_)
                        obtain ⟨ty61, iy61⟩ := ti_add (e := 0) (f := 559) f59 i52 ey61 (by decide)
                        have ty61 : y61.toInt = r58.toInt + v84_6.toInt := ty61
                        have iy61 : 0 ≤ y61.toInt ∧ y61.toInt ≤ 559 := iy61
                        refine lv_aload_n hx hb dX3_gatherChanged_125 rfl (lv_at hl 6 rfl) ?_
                        refine th_getL (ci := 4) (C := RX3) (T := TX3) (N := 18) (v := .ref (ad 43)) hx hb hts hinX3 hown hK hP hI 6 (mF 6 rfl) rfl rfl 2 (Nat.le_of_ble_eq_true rfl) (hts _ (vA_in _ _ (in_11 _ (zs16 (zs4 (zs4 (zs1 (zs1 (zs0))))))))) (fun _ h9 => h9) (hI.fr 6 (mF 6 rfl) rfl (Nat.le_of_ble_eq_true rfl) 43 rfl) dX3_gatherChanged_126 ?_
                        refine lv_iload hx hb dX3_gatherChanged_129 (lv_at hl 2 rfl) ?_
                        have n63 : vp_in r38 320 := (iv_in (n := 320) f39 (by decide))
                        refine th_zaldL hx hb hK hP hI 43 (mF 43 rfl) rfl rfl n63 dX3_gatherChanged_131 (fun y62 ey62 => ?_)
                        have iy62 : 0 ≤ y62.toInt ∧ y62.toInt ≤ 1 := hI.el 43 (mF 43 rfl) rfl n63 (fun _ => rfl) ey62
                        have ey62 := ey62.trans (hKp.ei 43 _ rfl)
                        refine lv_if_eq (tgt := 152) hx hb dX3_gatherChanged_132 (by decide) (fun c64 => ?_) (fun c64 => ?_)
                        · --132 taken
                          have t65 : y62.toInt = 0 := ti_eq c64
                          have i66 : 0 ≤ y62.toInt ∧ y62.toInt ≤ 0 := iv_eqi t65 iy62 (il_ 0) (by decide)
                          refine lv_iconst (v := -1) hx hb dX3_gatherChanged_152 (by decide) ?_
                          have n67 : vp_in y61 560 := (iv_in (n := 560) iy61 (by decide))
                          refine th_iastL hx hb hK hP (WL_D hD) hS hI 52 (mF 52 rfl) rfl rfl n67 (okI rfl (iv_w ln_m1 (by decide))) dX3_gatherChanged_153 (fun H locs E68 pw69 hI hP hS => ?_)
                          have hKp := hKp.pw pw69 rfl
                          obtain ⟨g70, eg70⟩ : ∃ z : Nat → Int32, z = upd g84_52 y61.toNatClampNeg (-1 : Int32) := ⟨_, rfl⟩
                          have hg70 : xi (E68 52) = g70 := by rw [pw69.eu, hr84_52, eg70]
                          obtain ⟨y71, ey71⟩ : ∃ y : Int32, y = v84_6 + (1 : Int32) := ⟨_, rfl⟩
                          obtain ⟨ty71, iy71⟩ := ti_add (e := 1) (f := 7) i52 ln_1 ey71 (by decide)
                          have ty71 : y71.toInt = v84_6.toInt + 1 := ty71
                          have iy71 : 1 ≤ y71.toInt ∧ y71.toInt ≤ 7 := iy71
                          refine lv_iinc (v := y71) (lv' := [(6, .int y71), (7, .int y57), (5, .int r38), (4, .int v49_4), (3, .int v49_3), (2, .int v7_2), (0, .ref (ad 6)), (1, .int a0)]) hx hb dX3_gatherChanged_154 hl (k := 1) rfl (by rw [ey71]; rfl) (by decide) rfl (fun ls hl => ?_)
                          refine lv_goto (tgt := 84) hx hb dX3_gatherChanged_157 (by decide) ?_
                          exact ih84 g70 y71 E68 _ _ _ (iv_w iy71 (by decide)) (gc_a hx84_0 eg70 (by rw [(show y61.toNatClampNeg = (4 * w7_6_15.toNatClampNeg + v49_4.toNatClampNeg) * 7 + v84_6.toNatClampNeg by rw [tn_ y61, tn_ w7_6_15, tn_ v49_4, tn_ v84_6]; omega)]; exact Nat.le_add_right _ _)) (gc_b (P := (fun d9 z9 => qcO E v7_2.toNatClampNeg (xi (E 53) v49_4.toNatClampNeg).toNatClampNeg d9 z9)) hx84_1 eg70 (show y61.toNatClampNeg = (4 * w7_6_15.toNatClampNeg + v49_4.toNatClampNeg) * 7 + v84_6.toNatClampNeg by rw [tn_ y61, tn_ w7_6_15, tn_ v49_4, tn_ v84_6]; omega) (show qcO E v7_2.toNatClampNeg (xi (E 53) v49_4.toNatClampNeg).toNatClampNeg v84_6.toNatClampNeg (-1 : Int32).toInt from ⟨fun q9 => absurd q9 (by have q8 : ¬ (xi (E 43) (16 * v7_2.toNatClampNeg + (xi (E 53) v49_4.toNatClampNeg).toNatClampNeg)).toInt = 1 := (by rw [k41, ← ey62]; omega); exact q8), fun _ => rfl⟩) (by rw [tn_ y71, tn_ v84_6]; omega)) (by omega) (by first | exact ms_su hx84_3 ty71 (by decide) | omega) hI hKp ((pw69.2 6 15 (fun q9 => absurd q9.1 (Nat.ne_of_beq_eq_false rfl))).trans hs84_6_15) hg70 hP hS (lv_sub hl [0, 2, 3, 4, 5, 6, 7] rfl)
                        · --132 not
                          have t72 : ¬ y62.toInt = 0 := ti_ne c64
                          have i73 : 1 ≤ y62.toInt ∧ y62.toInt ≤ 1 := iv_ne_l t72 iy62 (il_ 0)
                          refine lv_aload_n hx hb dX3_gatherChanged_135 rfl (lv_at hl 6 rfl) ?_
                          refine th_getL (ci := 4) (C := RX3) (T := TX3) (N := 18) (v := .ref (ad 44)) hx hb hts hinX3 hown hK hP hI 6 (mF 6 rfl) rfl rfl 3 (Nat.le_of_ble_eq_true rfl) (hts _ (vA_in _ _ (in_11 _ (zs16 (zs4 (zs4 (zs4 (zs0)))))))) (fun _ h9 => h9) (hI.fr 6 (mF 6 rfl) rfl (Nat.le_of_ble_eq_true rfl) 44 rfl) dX3_gatherChanged_136 ?_
                          refine lv_iload hx hb dX3_gatherChanged_139 (lv_at hl 2 rfl) ?_
                          have n75 : vp_in r38 320 := (iv_in (n := 320) f39 (by decide))
                          refine th_ialdL hx hb hK hP hI 44 (mF 44 rfl) rfl rfl n75 dX3_gatherChanged_141 (fun y74 ey74 => ?_)
                          have iy74 : 0 ≤ y74.toInt ∧ y74.toInt ≤ 200000 := hI.el 44 (mF 44 rfl) rfl n75 (fun _ => rfl) ey74
                          have ey74 := ey74.trans (hKp.ei 44 _ rfl)
                          refine lv_iload hx hb dX3_gatherChanged_142 (lv_at hl 0 rfl) ?_
                          refine lv_imul hx hb dX3_gatherChanged_144 ?_
                          refine lv_topi (fun y76 ey76 => ?_)
                          obtain ⟨ty76, iy76⟩ := ti_mul (e := 0) (f := 400600000) iy74 iy57 ey76 (by decide)
                          have ty76 : y76.toInt = y74.toInt * y57.toInt := ty76
                          have iy76 : 0 ≤ y76.toInt ∧ y76.toInt ≤ 400600000 := iy76
                          refine lv_sipush (v := 1000) hx hb dX3_gatherChanged_145 (by decide) ?_
                          refine lv_idiv hx hb dX3_gatherChanged_148 (by decide) ?_
                          refine lv_topi (fun y77 ey77 => ?_)
                          obtain ⟨ty77, iy77⟩ := ti_div (e := 0) (f := 400600) iy76 ln_1000 ey77 (by decide)
                          have iy77 : 0 ≤ y77.toInt ∧ y77.toInt ≤ 400600 := iy77
                          refine lv_goto (tgt := 153) hx hb dX3_gatherChanged_149 (by decide) ?_
                          have n78 : vp_in y61 560 := (iv_in (n := 560) iy61 (by decide))
                          refine th_iastL hx hb hK hP (WL_D hD) hS hI 52 (mF 52 rfl) rfl rfl n78 (okI rfl (iv_w iy77 (by decide))) dX3_gatherChanged_153 (fun H locs E79 pw80 hI hP hS => ?_)
                          have hKp := hKp.pw pw80 rfl
                          obtain ⟨g81, eg81⟩ : ∃ z : Nat → Int32, z = upd g84_52 y61.toNatClampNeg y77 := ⟨_, rfl⟩
                          have hg81 : xi (E79 52) = g81 := by rw [pw80.eu, hr84_52, eg81]
                          obtain ⟨y82, ey82⟩ : ∃ y : Int32, y = v84_6 + (1 : Int32) := ⟨_, rfl⟩
                          obtain ⟨ty82, iy82⟩ := ti_add (e := 1) (f := 7) i52 ln_1 ey82 (by decide)
                          have ty82 : y82.toInt = v84_6.toInt + 1 := ty82
                          have iy82 : 1 ≤ y82.toInt ∧ y82.toInt ≤ 7 := iy82
                          refine lv_iinc (v := y82) (lv' := [(6, .int y82), (7, .int y57), (5, .int r38), (4, .int v49_4), (3, .int v49_3), (2, .int v7_2), (0, .ref (ad 6)), (1, .int a0)]) hx hb dX3_gatherChanged_154 hl (k := 1) rfl (by rw [ey82]; rfl) (by decide) rfl (fun ls hl => ?_)
                          refine lv_goto (tgt := 84) hx hb dX3_gatherChanged_157 (by decide) ?_
                          exact ih84 g81 y82 E79 _ _ _ (iv_w iy82 (by decide)) (gc_a hx84_0 eg81 (by rw [(show y61.toNatClampNeg = (4 * w7_6_15.toNatClampNeg + v49_4.toNatClampNeg) * 7 + v84_6.toNatClampNeg by rw [tn_ y61, tn_ w7_6_15, tn_ v49_4, tn_ v84_6]; omega)]; exact Nat.le_add_right _ _)) (gc_b (P := (fun d9 z9 => qcO E v7_2.toNatClampNeg (xi (E 53) v49_4.toNatClampNeg).toNatClampNeg d9 z9)) hx84_1 eg81 (show y61.toNatClampNeg = (4 * w7_6_15.toNatClampNeg + v49_4.toNatClampNeg) * 7 + v84_6.toNatClampNeg by rw [tn_ y61, tn_ w7_6_15, tn_ v49_4, tn_ v84_6]; omega) (show qcO E v7_2.toNatClampNeg (xi (E 53) v49_4.toNatClampNeg).toNatClampNeg v84_6.toNatClampNeg y77.toInt from ⟨fun _ => (by unfold scO nmO; rw [k41, ← ey74, ← ey53]; exact (chT_of (i := v84_6) (mx := y57) (p := y76) (by rw [tn_]; omega) (by omega) ty76 (by have q7 := ty77; rw [show (1000 : Int32).toInt = 1000 from rfl] at q7; exact q7))), fun q9 => absurd (by have q8 : (xi (E 43) (16 * v7_2.toNatClampNeg + (xi (E 53) v49_4.toNatClampNeg).toNatClampNeg)).toInt = 1 := (by rw [k41, ← ey62]; omega); exact q8) q9⟩) (by rw [tn_ y82, tn_ v84_6]; omega)) (by omega) (by first | exact ms_su hx84_3 ty82 (by decide) | omega) hI hKp ((pw80.2 6 15 (fun q9 => absurd q9.1 (Nat.ne_of_beq_eq_false rfl))).trans hs84_6_15) hg81 hP hS (lv_sub hl [0, 2, 3, 4, 5, 6, 7] rfl)
                  exact hL84 (8) g49_52 (0 : Int32) E49_ _ _ _ (iv_w ln_0 (by decide)) (fun x9 h9 => rfl) (fun d9 h9 => absurd h9 (Nat.not_lt_zero d9)) (by have z9 := ln_0; omega) (by have h9 := ln_0; first | exact ms_bu h9.1 (by decide) | omega) hI hKp hs49_6_15 hr49_52 hP hS (lv_sub hl [0, 1, 2, 3, 4, 5, 6] rfl)
                · --75 not
                  have t83 : ¬ y42.toInt = 0 := ti_ne c44
                  have i84 : 1 ≤ y42.toInt ∧ y42.toInt ≤ 1 := iv_ne_l t83 iy42 (il_ 0)
                  obtain ⟨y85, ey85⟩ : ∃ y : Int32, y = v49_3 + (1 : Int32) := ⟨_, rfl⟩
                  obtain ⟨ty85, iy85⟩ := ti_add (e := 1) (f := 4) i35 ln_1 ey85 (by decide)
                  have ty85 : y85.toInt = v49_3.toInt + 1 := ty85
                  have iy85 : 1 ≤ y85.toInt ∧ y85.toInt ≤ 4 := iy85
                  refine lv_iinc (v := y85) (lv' := [(3, .int y85), (5, .int r38), (4, .int v49_4), (2, .int v7_2), (0, .ref (ad 6)), (1, .int a0)]) hx hb dX3_gatherChanged_78 hl (k := 2) rfl (by rw [ey85]; rfl) (by decide) rfl (fun ls hl => ?_)
                  refine lv_iconst (v := 0) hx hb dX3_gatherChanged_81 (by decide) ?_
                  refine lv_istore (lv' := [(6, .int 0), (3, .int y85), (5, .int r38), (4, .int v49_4), (2, .int v7_2), (0, .ref (ad 6)), (1, .int a0)]) hx hb dX3_gatherChanged_82 hl (by decide) rfl (fun ls hl => ?_)
                  have hL84 : ∀ d : Nat, ∀ (g84_52 : Nat → Int32) (v84_6 : Int32) (E84_ : Nat → va_E) (H : Heap) (locs : List Loc) (ls : Array Slot), 0 ≤ v84_6.toInt ∧ v84_6.toInt ≤ 7 → (∀ x9 : Nat, x9 < (4 * w7_6_15.toNatClampNeg + v49_4.toNatClampNeg) * 7 → g84_52 x9 = g49_52 x9) → (∀ d9 : Nat, d9 < v84_6.toNatClampNeg → qcO E v7_2.toNatClampNeg (xi (E 53) v49_4.toNatClampNeg).toNatClampNeg d9 (g84_52 ((4 * w7_6_15.toNatClampNeg + v49_4.toNatClampNeg) * 7 + d9)).toInt) → v84_6.toInt ≤ 7 → 7 - v84_6.toInt < (d : Int) → IXL cT (shC cf) (spC cf) (LC cf) ad E84_ → Kp w_gatherChangedX E E84_ → xv (E84_ 6) 15 = .int w7_6_15 → xi (E84_ 52) = g84_52 → va_P (dC, dI) vwCl (WL (LC cf) ad E84_) H → va_S A s.heap H locs → lv_has ls 8 [(6, .int v84_6), (3, .int y85), (5, .int r38), (4, .int v49_4), (2, .int v7_2), (0, .ref (ad 6)), (1, .int a0)] → W p l e (headSpec v_gatherChangedX rm_gatherChangedX).room s m args below meth c H locs 0 0 Q (F0 m 84 ls []) := by
                    intro d
                    induction d with
                    | zero =>
                      intro g84_52 v84_6 E84_ H locs ls hv84_6 hx84_0 hx84_1 hx84_2 hx84_3 hI hKp hs84_6_15 hr84_52 hP hS hl
                      exact absurd hx84_3 (by first | exact ms_zu hv84_6.2 | omega)
                    | succ d ih84 =>
                      intro g84_52 v84_6 E84_ H locs ls hv84_6 hx84_0 hx84_1 hx84_2 hx84_3 hI hKp hs84_6_15 hr84_52 hP hS hl
                      refine lv_iload hx hb dX3_gatherChanged_84 (lv_at hl 0 rfl) ?_
                      refine lv_bipush (v := 7) hx hb dX3_gatherChanged_86 (by decide) ?_
                      refine lv_icmp_ge (tgt := 160) hx hb dX3_gatherChanged_88 (by decide) (fun c86 => ?_) (fun c86 => ?_)
                      · --88 taken
                        have t87 : (7 : Int) ≤ v84_6.toInt := ti_le c86
                        have i88 : 7 ≤ v84_6.toInt ∧ v84_6.toInt ≤ 7 := iv_le_r t87 (il_ 7) hv84_6 (by decide)
                        obtain ⟨y89, ey89⟩ : ∃ y : Int32, y = v49_4 + (1 : Int32) := ⟨_, rfl⟩
                        obtain ⟨ty89, iy89⟩ := ti_add (e := 1) (f := 4) i33 ln_1 ey89 (by decide)
                        have ty89 : y89.toInt = v49_4.toInt + 1 := ty89
                        have iy89 : 1 ≤ y89.toInt ∧ y89.toInt ≤ 4 := iy89
                        refine lv_iinc (v := y89) (lv' := [(4, .int y89), (6, .int v84_6), (3, .int y85), (5, .int r38), (2, .int v7_2), (0, .ref (ad 6)), (1, .int a0)]) hx hb dX3_gatherChanged_160 hl (k := 3) rfl (by rw [ey89]; rfl) (by decide) rfl (fun ls hl => ?_)
                        refine lv_goto (tgt := 49) hx hb dX3_gatherChanged_163 (by decide) ?_
                        exact ih49 g84_52 y89 y85 E84_ _ _ _ (iv_w iy89 (by decide)) (iv_w iy85 (by decide)) (hx49_0.one (by have q8 : (xi (E 43) (16 * v7_2.toNatClampNeg + (xi (E 53) v49_4.toNatClampNeg).toNatClampNeg)).toInt = 1 := (by rw [k41, ← ey42]; omega); exact q8) (by omega) (by rw [tn_ y89, tn_ v49_4]; omega)) (fun x9 h9 => (hx84_0 x9 (by omega)).trans (hx49_1 x9 h9)) (gc_c (P := (fun j9 d9 z9 => qcO E v7_2.toNatClampNeg (xi (E 53) j9).toNatClampNeg d9 z9)) hx49_2 hx84_0 hx84_1 (by rw [tn_]; omega) (by rw [tn_ y89, tn_ v49_4]; omega)) (by omega) (by first | exact ms_su hx49_4 ty89 (by decide) | omega) hI hKp hs84_6_15 hr84_52 hP hS (lv_sub hl [0, 2, 4, 5, 6] rfl)
                      · --88 not
                        have t90 : v84_6.toInt < 7 := ti_nle c86
                        have i91 : 0 ≤ v84_6.toInt ∧ v84_6.toInt ≤ 6 := iv_lt_l t90 hv84_6 (il_ 7) (by decide)
                        refine lv_iconst (v := 1) hx hb dX3_gatherChanged_91 (by decide) ?_
                        refine lv_aload_n hx hb dX3_gatherChanged_92 rfl (lv_at hl 5 rfl) ?_
                        refine th_getL (ci := 4) (C := RX3) (T := TX3) (N := 18) (v := .ref (ad 45)) hx hb hts hinX3 hown hK hP hI 6 (mF 6 rfl) rfl rfl 4 (Nat.le_of_ble_eq_true rfl) (hts _ (vA_in _ _ (in_11 _ (zs16 (zs4 (zs4 (zs4 (zs1 (zs1 (zs0)))))))))) (fun _ h9 => h9) (hI.fr 6 (mF 6 rfl) rfl (Nat.le_of_ble_eq_true rfl) 45 rfl) dX3_gatherChanged_93 ?_
                        refine lv_iload hx hb dX3_gatherChanged_96 (lv_at hl 2 rfl) ?_
                        have n93 : vp_in r38 320 := (iv_in (n := 320) f39 (by decide))
                        refine th_ialdL hx hb hK hP hI 45 (mF 45 rfl) rfl rfl n93 dX3_gatherChanged_98 (fun y92 ey92 => ?_)
                        have iy92 : 0 ≤ y92.toInt ∧ y92.toInt ≤ 2000 := hI.el 45 (mF 45 rfl) rfl n93 (fun _ => rfl) ey92
                        have ey92 := ey92.trans (hKp.ei 45 _ rfl)
                        refine lv_iload hx hb dX3_gatherChanged_99 (lv_at hl 0 rfl) ?_
                        refine lv_iadd hx hb dX3_gatherChanged_101 ?_
                        refine lv_topi (fun y94 ey94 => ?_)
                        obtain ⟨ty94, iy94⟩ := ti_add (e := 0) (f := 2006) iy92 i91 ey94 (by decide)
                        have ty94 : y94.toInt = y92.toInt + v84_6.toInt := ty94
                        have iy94 : 0 ≤ y94.toInt ∧ y94.toInt ≤ 2006 := iy94
                        refine lv_iconst (v := 3) hx hb dX3_gatherChanged_102 (by decide) ?_
                        refine lv_isub hx hb dX3_gatherChanged_103 ?_
                        refine lv_topi (fun y95 ey95 => ?_)
                        obtain ⟨ty95, iy95⟩ := ti_sub (e := (-3)) (f := 2003) iy94 ln_3 ey95 (by decide)
                        have ty95 : y95.toInt = y94.toInt - 3 := ty95
                        have iy95 : -3 ≤ y95.toInt ∧ y95.toInt ≤ 2003 := iy95
                        refine va_mmax hx hb (by rw [hml]; exact hl.1.symm) hown (hts _ (vA_in _ _ (in_13 _ (zs16 (zs1 (zs1 (zs1 (zs0)))))))) (hts _ (vA_in _ _ (in_0 _ (zs16 (zs16 (zs0)))))) (hts _ (vA_in _ _ (in_0 _ (zs16 (zs16 (zs1 (zs0))))))) (hts _ (vA_in _ _ (in_0 _ (zs16 (zs16 (zs1 (zs1 (zs0)))))))) (Nat.le_of_ble_eq_true rfl) (Nat.le_of_ble_eq_true rfl) (Nat.le_of_ble_eq_true rfl) (Nat.le_of_ble_eq_true rfl) dX3_gatherChanged_104 ?_
                        have z1 := ln_1
                        refine lv_topi (fun y96 ey96 => ?_)
                        obtain ⟨ty96, iy96⟩ := ti_max (e := 1) (f := 2003) ln_1 iy95 ey96 (by decide)
                        have iy96 : 1 ≤ y96.toInt ∧ y96.toInt ≤ 2003 := iy96
                        refine lv_istore (lv' := [(7, .int y96), (6, .int v84_6), (3, .int y85), (5, .int r38), (4, .int v49_4), (2, .int v7_2), (0, .ref (ad 6)), (1, .int a0)]) hx hb dX3_gatherChanged_107 hl (by decide) rfl (fun ls hl => ?_)
                        refine lv_aload_n hx hb dX3_gatherChanged_109 rfl (lv_at hl 6 rfl) ?_
                        refine th_getL (ci := 4) (C := RX3) (T := TX3) (N := 18) (v := .ref (ad 52)) hx hb hts hinX3 hown hK hP hI 6 (mF 6 rfl) rfl rfl 11 (Nat.le_of_ble_eq_true rfl) (hts _ (vA_in _ _ (in_13 _ (zs16 (zs4 (zs0)))))) (fun _ h9 => h9) (hI.fr 6 (mF 6 rfl) rfl (Nat.le_of_ble_eq_true rfl) 52 rfl) dX3_gatherChanged_110 ?_
                        refine lv_aload_n hx hb dX3_gatherChanged_113 rfl (lv_at hl 6 rfl) ?_
                        refine th_getL (ci := 4) (C := RX3) (T := TX3) (N := 18) (v := .int w7_6_15) hx hb hts hinX3 hown hK hP hI 6 (mF 6 rfl) rfl rfl 15 (Nat.le_of_ble_eq_true rfl) (hts _ (vA_in _ _ (in_13 _ (zs16 (zs0))))) (fun _ h9 => h9) hs84_6_15 dX3_gatherChanged_114 ?_
                        refine lv_iload hx hb dX3_gatherChanged_117 (lv_at hl 4 rfl) ?_
                        refine th_pi (va_runS (As := [.int w7_6_15, .int v49_4]) (rest := [.ref (ad 52)]) ⟨hx, hb, hml, hown, hts⟩ (q_crowOf l w7_6_15 v49_4 i12 i33) (va_cwS 2 hts (gi_S (in_13 _ (zs16 (zs4 (zs1 (zs1 (zs0)))))) (in_13 _ (zs16 (zs4 (zs1 (zs1 (zs1 (zs0))))))) (in_11 _ (zs4 (zs4 (zs4 (zs1 (zs1 (zs1 (zs0)))))))) (in_13 _ (zs16 (zs4 (zs4 (zs0)))))) rfl rfl rfl hz_yX3_rowOf_2 ⟨Nat.le_of_ble_eq_true rfl, Nat.le_of_ble_eq_true rfl⟩) ⟨fun _ _ _ _ q => q, fun _ _ _ => ⟨rfl, trivial⟩⟩ rfl rfl hl.1 rfl (lv_room (Nat.le_of_ble_eq_true rfl)) dX3_gatherChanged_119 ⟨Nat.le_of_ble_eq_true rfl, Nat.le_of_ble_eq_true rfl⟩) hS (fun r97 H1 locs1 hw hk1 hS => ?_)
                        have hP := ub_keep hP hk1
                        generalize H1 = H at hP hS ⊢
                        generalize locs1 = locs at hS ⊢
                        obtain ⟨f98, f99⟩ := hw
                        refine lv_iload hx hb dX3_gatherChanged_122 (lv_at hl 1 rfl) ?_
                        refine lv_iadd hx hb dX3_gatherChanged_124 ?_
                        refine lv_topi (fun y100 ey100 => ?_)
                        obtain ⟨ty100, iy100⟩ := ti_add (e := 0) (f := 559) f98 i91 ey100 (by decide)
                        have ty100 : y100.toInt = r97.toInt + v84_6.toInt := ty100
                        have iy100 : 0 ≤ y100.toInt ∧ y100.toInt ≤ 559 := iy100
                        refine lv_aload_n hx hb dX3_gatherChanged_125 rfl (lv_at hl 6 rfl) ?_
                        refine th_getL (ci := 4) (C := RX3) (T := TX3) (N := 18) (v := .ref (ad 43)) hx hb hts hinX3 hown hK hP hI 6 (mF 6 rfl) rfl rfl 2 (Nat.le_of_ble_eq_true rfl) (hts _ (vA_in _ _ (in_11 _ (zs16 (zs4 (zs4 (zs1 (zs1 (zs0))))))))) (fun _ h9 => h9) (hI.fr 6 (mF 6 rfl) rfl (Nat.le_of_ble_eq_true rfl) 43 rfl) dX3_gatherChanged_126 ?_
                        refine lv_iload hx hb dX3_gatherChanged_129 (lv_at hl 3 rfl) ?_
                        have n102 : vp_in r38 320 := (iv_in (n := 320) f39 (by decide))
                        refine th_zaldL hx hb hK hP hI 43 (mF 43 rfl) rfl rfl n102 dX3_gatherChanged_131 (fun y101 ey101 => ?_)
                        have iy101 : 0 ≤ y101.toInt ∧ y101.toInt ≤ 1 := hI.el 43 (mF 43 rfl) rfl n102 (fun _ => rfl) ey101
                        have ey101 := ey101.trans (hKp.ei 43 _ rfl)
                        refine lv_if_eq (tgt := 152) hx hb dX3_gatherChanged_132 (by decide) (fun c103 => ?_) (fun c103 => ?_)
                        · --132 taken
                          have t104 : y101.toInt = 0 := ti_eq c103
                          have i105 : 0 ≤ y101.toInt ∧ y101.toInt ≤ 0 := iv_eqi t104 iy101 (il_ 0) (by decide)
                          refine lv_iconst (v := -1) hx hb dX3_gatherChanged_152 (by decide) ?_
                          have n106 : vp_in y100 560 := (iv_in (n := 560) iy100 (by decide))
                          refine th_iastL hx hb hK hP (WL_D hD) hS hI 52 (mF 52 rfl) rfl rfl n106 (okI rfl (iv_w ln_m1 (by decide))) dX3_gatherChanged_153 (fun H locs E107 pw108 hI hP hS => ?_)
                          have hKp := hKp.pw pw108 rfl
                          obtain ⟨g109, eg109⟩ : ∃ z : Nat → Int32, z = upd g84_52 y100.toNatClampNeg (-1 : Int32) := ⟨_, rfl⟩
                          have hg109 : xi (E107 52) = g109 := by rw [pw108.eu, hr84_52, eg109]
                          obtain ⟨y110, ey110⟩ : ∃ y : Int32, y = v84_6 + (1 : Int32) := ⟨_, rfl⟩
                          obtain ⟨ty110, iy110⟩ := ti_add (e := 1) (f := 7) i91 ln_1 ey110 (by decide)
                          have ty110 : y110.toInt = v84_6.toInt + 1 := ty110
                          have iy110 : 1 ≤ y110.toInt ∧ y110.toInt ≤ 7 := iy110
                          refine lv_iinc (v := y110) (lv' := [(6, .int y110), (7, .int y96), (3, .int y85), (5, .int r38), (4, .int v49_4), (2, .int v7_2), (0, .ref (ad 6)), (1, .int a0)]) hx hb dX3_gatherChanged_154 hl (k := 1) rfl (by rw [ey110]; rfl) (by decide) rfl (fun ls hl => ?_)
                          refine lv_goto (tgt := 84) hx hb dX3_gatherChanged_157 (by decide) ?_
                          exact ih84 g109 y110 E107 _ _ _ (iv_w iy110 (by decide)) (gc_a hx84_0 eg109 (by rw [(show y100.toNatClampNeg = (4 * w7_6_15.toNatClampNeg + v49_4.toNatClampNeg) * 7 + v84_6.toNatClampNeg by rw [tn_ y100, tn_ w7_6_15, tn_ v49_4, tn_ v84_6]; omega)]; exact Nat.le_add_right _ _)) (gc_b (P := (fun d9 z9 => qcO E v7_2.toNatClampNeg (xi (E 53) v49_4.toNatClampNeg).toNatClampNeg d9 z9)) hx84_1 eg109 (show y100.toNatClampNeg = (4 * w7_6_15.toNatClampNeg + v49_4.toNatClampNeg) * 7 + v84_6.toNatClampNeg by rw [tn_ y100, tn_ w7_6_15, tn_ v49_4, tn_ v84_6]; omega) (show qcO E v7_2.toNatClampNeg (xi (E 53) v49_4.toNatClampNeg).toNatClampNeg v84_6.toNatClampNeg (-1 : Int32).toInt from ⟨fun q9 => absurd q9 (by have q8 : ¬ (xi (E 43) (16 * v7_2.toNatClampNeg + (xi (E 53) v49_4.toNatClampNeg).toNatClampNeg)).toInt = 1 := (by rw [k41, ← ey101]; omega); exact q8), fun _ => rfl⟩) (by rw [tn_ y110, tn_ v84_6]; omega)) (by omega) (by first | exact ms_su hx84_3 ty110 (by decide) | omega) hI hKp ((pw108.2 6 15 (fun q9 => absurd q9.1 (Nat.ne_of_beq_eq_false rfl))).trans hs84_6_15) hg109 hP hS (lv_sub hl [0, 2, 3, 4, 5, 6, 7] rfl)
                        · --132 not
                          have t111 : ¬ y101.toInt = 0 := ti_ne c103
                          have i112 : 1 ≤ y101.toInt ∧ y101.toInt ≤ 1 := iv_ne_l t111 iy101 (il_ 0)
                          refine lv_aload_n hx hb dX3_gatherChanged_135 rfl (lv_at hl 6 rfl) ?_
                          refine th_getL (ci := 4) (C := RX3) (T := TX3) (N := 18) (v := .ref (ad 44)) hx hb hts hinX3 hown hK hP hI 6 (mF 6 rfl) rfl rfl 3 (Nat.le_of_ble_eq_true rfl) (hts _ (vA_in _ _ (in_11 _ (zs16 (zs4 (zs4 (zs4 (zs0)))))))) (fun _ h9 => h9) (hI.fr 6 (mF 6 rfl) rfl (Nat.le_of_ble_eq_true rfl) 44 rfl) dX3_gatherChanged_136 ?_
                          refine lv_iload hx hb dX3_gatherChanged_139 (lv_at hl 3 rfl) ?_
                          have n114 : vp_in r38 320 := (iv_in (n := 320) f39 (by decide))
                          refine th_ialdL hx hb hK hP hI 44 (mF 44 rfl) rfl rfl n114 dX3_gatherChanged_141 (fun y113 ey113 => ?_)
                          have iy113 : 0 ≤ y113.toInt ∧ y113.toInt ≤ 200000 := hI.el 44 (mF 44 rfl) rfl n114 (fun _ => rfl) ey113
                          have ey113 := ey113.trans (hKp.ei 44 _ rfl)
                          refine lv_iload hx hb dX3_gatherChanged_142 (lv_at hl 0 rfl) ?_
                          refine lv_imul hx hb dX3_gatherChanged_144 ?_
                          refine lv_topi (fun y115 ey115 => ?_)
                          obtain ⟨ty115, iy115⟩ := ti_mul (e := 0) (f := 400600000) iy113 iy96 ey115 (by decide)
                          have ty115 : y115.toInt = y113.toInt * y96.toInt := ty115
                          have iy115 : 0 ≤ y115.toInt ∧ y115.toInt ≤ 400600000 := iy115
                          refine lv_sipush (v := 1000) hx hb dX3_gatherChanged_145 (by decide) ?_
                          refine lv_idiv hx hb dX3_gatherChanged_148 (by decide) ?_
                          refine lv_topi (fun y116 ey116 => ?_)
                          obtain ⟨ty116, iy116⟩ := ti_div (e := 0) (f := 400600) iy115 ln_1000 ey116 (by decide)
                          have iy116 : 0 ≤ y116.toInt ∧ y116.toInt ≤ 400600 := iy116
                          refine lv_goto (tgt := 153) hx hb dX3_gatherChanged_149 (by decide) ?_
                          have n117 : vp_in y100 560 := (iv_in (n := 560) iy100 (by decide))
                          refine th_iastL hx hb hK hP (WL_D hD) hS hI 52 (mF 52 rfl) rfl rfl n117 (okI rfl (iv_w iy116 (by decide))) dX3_gatherChanged_153 (fun H locs E118 pw119 hI hP hS => ?_)
                          have hKp := hKp.pw pw119 rfl
                          obtain ⟨g120, eg120⟩ : ∃ z : Nat → Int32, z = upd g84_52 y100.toNatClampNeg y116 := ⟨_, rfl⟩
                          have hg120 : xi (E118 52) = g120 := by rw [pw119.eu, hr84_52, eg120]
                          obtain ⟨y121, ey121⟩ : ∃ y : Int32, y = v84_6 + (1 : Int32) := ⟨_, rfl⟩
                          obtain ⟨ty121, iy121⟩ := ti_add (e := 1) (f := 7) i91 ln_1 ey121 (by decide)
                          have ty121 : y121.toInt = v84_6.toInt + 1 := ty121
                          have iy121 : 1 ≤ y121.toInt ∧ y121.toInt ≤ 7 := iy121
                          refine lv_iinc (v := y121) (lv' := [(6, .int y121), (7, .int y96), (3, .int y85), (5, .int r38), (4, .int v49_4), (2, .int v7_2), (0, .ref (ad 6)), (1, .int a0)]) hx hb dX3_gatherChanged_154 hl (k := 1) rfl (by rw [ey121]; rfl) (by decide) rfl (fun ls hl => ?_)
                          refine lv_goto (tgt := 84) hx hb dX3_gatherChanged_157 (by decide) ?_
                          exact ih84 g120 y121 E118 _ _ _ (iv_w iy121 (by decide)) (gc_a hx84_0 eg120 (by rw [(show y100.toNatClampNeg = (4 * w7_6_15.toNatClampNeg + v49_4.toNatClampNeg) * 7 + v84_6.toNatClampNeg by rw [tn_ y100, tn_ w7_6_15, tn_ v49_4, tn_ v84_6]; omega)]; exact Nat.le_add_right _ _)) (gc_b (P := (fun d9 z9 => qcO E v7_2.toNatClampNeg (xi (E 53) v49_4.toNatClampNeg).toNatClampNeg d9 z9)) hx84_1 eg120 (show y100.toNatClampNeg = (4 * w7_6_15.toNatClampNeg + v49_4.toNatClampNeg) * 7 + v84_6.toNatClampNeg by rw [tn_ y100, tn_ w7_6_15, tn_ v49_4, tn_ v84_6]; omega) (show qcO E v7_2.toNatClampNeg (xi (E 53) v49_4.toNatClampNeg).toNatClampNeg v84_6.toNatClampNeg y116.toInt from ⟨fun _ => (by unfold scO nmO; rw [k41, ← ey113, ← ey92]; exact (chT_of (i := v84_6) (mx := y96) (p := y115) (by rw [tn_]; omega) (by omega) ty115 (by have q7 := ty116; rw [show (1000 : Int32).toInt = 1000 from rfl] at q7; exact q7))), fun q9 => absurd (by have q8 : (xi (E 43) (16 * v7_2.toNatClampNeg + (xi (E 53) v49_4.toNatClampNeg).toNatClampNeg)).toInt = 1 := (by rw [k41, ← ey101]; omega); exact q8) q9⟩) (by rw [tn_ y121, tn_ v84_6]; omega)) (by omega) (by first | exact ms_su hx84_3 ty121 (by decide) | omega) hI hKp ((pw119.2 6 15 (fun q9 => absurd q9.1 (Nat.ne_of_beq_eq_false rfl))).trans hs84_6_15) hg120 hP hS (lv_sub hl [0, 2, 3, 4, 5, 6, 7] rfl)
                  exact hL84 (8) g49_52 (0 : Int32) E49_ _ _ _ (iv_w ln_0 (by decide)) (fun x9 h9 => rfl) (fun d9 h9 => absurd h9 (Nat.not_lt_zero d9)) (by have z9 := ln_0; omega) (by have h9 := ln_0; first | exact ms_bu h9.1 (by decide) | omega) hI hKp hs49_6_15 hr49_52 hP hS (lv_sub hl [0, 1, 2, 3, 4, 5, 6] rfl)
          exact hL49 (5) g7_52 (0 : Int32) (0 : Int32) E7_ _ _ _ (iv_w ln_0 (by decide)) (iv_w ln_0 (by decide)) (show CnR _ 0 (0 : Int32).toInt from rfl) (fun x9 h9 => rfl) (fun j9 h9 => absurd h9 (Nat.not_lt_zero j9)) (by have z9 := ln_0; omega) (by have h9 := ln_0; first | exact ms_bu h9.1 (by decide) | omega) hI hKp hs7_6_15 hr7_52 hP hS (lv_sub hl [0, 1, 2, 3, 4] rfl)
        · --38 not
          have t122 : ¬ (xi (E (64 * (v7_2.toNatClampNeg + 1) + 6)) 3).toInt = 0 := ti_ne c16
          have i123 : 1 ≤ (xi (E (64 * (v7_2.toNatClampNeg + 1) + 6)) 3).toInt ∧ (xi (E (64 * (v7_2.toNatClampNeg + 1) + 6)) 3).toInt ≤ 1 := iv_ne_l t122 i15 (il_ 0)
          refine lv_goto (tgt := 181) hx hb dX3_gatherChanged_41 (by decide) ?_
          obtain ⟨y124, ey124⟩ : ∃ y : Int32, y = v7_2 + (1 : Int32) := ⟨_, rfl⟩
          obtain ⟨ty124, iy124⟩ := ti_add (e := 1) (f := 20) i10 ln_1 ey124 (by decide)
          have ty124 : y124.toInt = v7_2.toInt + 1 := ty124
          have iy124 : 1 ≤ y124.toInt ∧ y124.toInt ≤ 20 := iy124
          refine lv_iinc (v := y124) (lv' := [(2, .int y124), (0, .ref (ad 6)), (1, .int a0)]) hx hb dX3_gatherChanged_181 hl (k := 0) rfl (by rw [ey124]; rfl) (by decide) rfl (fun ls hl => ?_)
          refine lv_goto (tgt := 7) hx hb dX3_gatherChanged_184 (by decide) ?_
          exact ih7 w7_6_15 g7_52 y124 E7_ _ _ _ (iv_w i12 (by decide)) (iv_w iy124 (by decide)) (TbR.no hx7_0 (fun q9 => by have q8 : (xi (E (64 * (v7_2.toNatClampNeg + 1) + 6)) 3).toInt = 0 := q9.1; omega) (by rw [tn_ y124, tn_ v7_2]; omega)) (by omega) (by omega) (by first | exact ms_su hx7_3 ty124 (by decide) | omega) hI hKp hs7_6_15 hr7_52 hP hS (lv_sub hl [0, 1, 2] rfl)
  exact hL7 (21) (0 : Int32) g1 (0 : Int32) E2 _ _ _ (iv_w ln_0 (by decide)) (iv_w ln_0 (by decide)) (show TbR _ _ 0 0 _ from rfl) (by have z9 := ln_0; omega) (by have z9 := ln_0; omega) (by have h9 := ln_0; first | exact ms_bu h9.1 (by decide) | omega) hI hKp pw3.1 ((pw3.ef 52 (Nat.ne_of_beq_eq_false rfl)).trans hg1) hP hS (lv_sub hl [0, 1, 2] rfl)
def v_spreadTriedX : List Cond := .code yX3_spreadTried cX3_spreadTried 8 (some .int) :: vA
abbrev rm_spreadTriedX : Room := { frames := 1, cells := 0, slots := 0, locals := 40 }
set_option maxHeartbeats 4000000 in
set_option maxRecDepth 100000 in
theorem q_spreadTriedX (l : Launch) (dC : Nat → ClassId) (dI : Nat → Nat → Nat) (cT : Nat → ClassId) (cf : Nat → Nat) (hC : CF cf) (ad : Nat → Nat) (E : Nat → va_E) (sz : Nat) (a0 : Int32) (hI0 : IXL cT (shC cf) (spC cf) (LC cf) ad E) (hh0 : 0 ≤ a0.toInt ∧ a0.toInt ≤ 4) (hh1 : ∀ k9 : Nat, k9 < (xi (E 6) 15).toNatClampNeg → ∃ j9 : Nat, j9 < a0.toNatClampNeg ∧ ∀ d9 : Nat, d9 < 7 → ¬ evX (xi (E 52)) k9 j9 d9 = -1) : Met l yX3_spreadTried v_spreadTriedX rm_spreadTriedX (va_Pc [.ref (ad 6), .int a0] (HWL dC dI (TYC cT) cf ad E sz)) (va_Qi (S := Unit) (fun r _ => (0 ≤ r.toInt ∧ r.toInt ≤ 8012000) ∧ (r.toInt ≤ (sprO E a0.toNatClampNeg) ∧ (r.toInt = (sprO E a0.toNatClampNeg) ∨ (xi (E 6) 16).toInt < r.toInt))) (fun _ _ => True) (fun _ => False)) 0 0 (fun _ => False) := by
  obtain ⟨⟨hc0, hc1, hc2, hc3, hc4, hc5⟩, hcr⟩ := id hC
  refine Met.ofW (cc := cX3_spreadTried) (maxL := 8) (ret := (some .int)) (by decide) rfl ?_
  intro p e s m args below meth c s₁ B hml hv
  obtain ⟨hargs, hsz, hP, hK, hD0, hEV⟩ := hv
  subst hsz
  have hx := B.exec
  have hb := B.bytes
  have hr := B.returns
  have hts := atoms_spec (ws := v_spreadTriedX) B.pre
  have hown : s.vm.findClass RX3 = some m.cls := findClass_of_methodNamed B.named
  have hlocks := B.notSynchronized
  have hinX3 : ∀ w ∈ u_ws RX3 TX3 18, w ∈ v_spreadTriedX := fun w h => vA_in _ w (in_X3 w h)
  have hS : va_S (fun _ : Nat => False) s.heap s.heap [] := va_S.rf
  have hD := hD0
  have hI := hI0
  have hKp : Kp (wl [] []) E E := Kp.rf
  have hl := lv_entry ([.ref (ad 6), .int a0]) (n := 8) (Nat.le_of_ble_eq_true rfl)
  obtain ⟨Q, hQ⟩ : ∃ Q, Q = MQ below (va_Qi (S := Unit) (fun r _ => (0 ≤ r.toInt ∧ r.toInt ≤ 8012000) ∧ (r.toInt ≤ (sprO E a0.toNatClampNeg) ∧ (r.toInt = (sprO E a0.toNatClampNeg) ∨ (xi (E 6) 16).toInt < r.toInt))) (fun _ _ => True) (fun _ => False)) args s 0 0 (fun _ => False) := ⟨_, rfl⟩
  rw [← hQ, show entryFrame m args 8 = _ from (congrArg (fun z => entryFrame m z 8) hargs).trans (lg_entry_eq _ _ _)]
  generalize (lg_sl ([.ref (ad 6), .int a0]) ++ List.replicate (8 - (lg_sl ([.ref (ad 6), .int a0])).length) Slot.unset).toArray = ls at hl ⊢
  have hl : lv_has ls 8 [(0, .ref (ad 6)), (1, .int a0)] := hl
  have z0z : (0 : Int32).toInt = 0 := rfl
  have i9_15 : 0 ≤ (xi (E 6) 15).toInt ∧ (xi (E 6) 15).toInt ≤ 20 := hI0.iv 6 (mF 6 rfl) rfl (Nat.le_of_ble_eq_true rfl) rfl
  refine lv_iconst (v := 0) hx hb dX3_spreadTried_0 (by decide) ?_
  refine lv_istore_n (lv' := [(2, .int 0), (0, .ref (ad 6)), (1, .int a0)]) hx hb dX3_spreadTried_1 rfl hl (by decide) rfl (fun ls hl => ?_)
  refine lv_iconst (v := 0) hx hb dX3_spreadTried_2 (by decide) ?_
  refine lv_istore_n (lv' := [(3, .int 0), (2, .int 0), (0, .ref (ad 6)), (1, .int a0)]) hx hb dX3_spreadTried_3 rfl hl (by decide) rfl (fun ls hl => ?_)
  have hL4 : ∀ d : Nat, ∀ (v4_3 : Int32) (v4_2 : Int32) (H : Heap) (locs : List Loc) (ls : Array Slot), 0 ≤ v4_3.toInt ∧ v4_3.toInt ≤ 20 → 0 ≤ v4_2.toInt ∧ v4_2.toInt ≤ 8012000 → v4_2.toInt = sumF (fun k9 => xtF (trO E k9) a0.toNatClampNeg) v4_3.toNatClampNeg → 0 ≤ v4_2.toInt ∧ v4_2.toInt ≤ 400600 * v4_3.toInt → v4_3.toInt ≤ (xi (E 6) 15).toInt → 20 - v4_3.toInt < (d : Int) → va_P (dC, dI) vwCl (WL (LC cf) ad E) H → va_S (fun _ : Nat => False) s.heap H locs → lv_has ls 8 [(3, .int v4_3), (2, .int v4_2), (0, .ref (ad 6)), (1, .int a0)] → W p l e (headSpec v_spreadTriedX rm_spreadTriedX).room s m args below meth c H locs 0 0 Q (F0 m 4 ls []) := by
    intro d
    induction d with
    | zero =>
      intro v4_3 v4_2 H locs ls hv4_3 hv4_2 hx4_0 hx4_1 hx4_2 hx4_3 hP hS hl
      exact absurd hx4_3 (by first | exact ms_zu hv4_3.2 | omega)
    | succ d ih4 =>
      intro v4_3 v4_2 H locs ls hv4_3 hv4_2 hx4_0 hx4_1 hx4_2 hx4_3 hP hS hl
      refine lv_iload_n hx hb dX3_spreadTried_4 rfl (lv_at hl 0 rfl) ?_
      refine lv_aload_n hx hb dX3_spreadTried_5 rfl (lv_at hl 2 rfl) ?_
      have i1 : 0 ≤ (xi (E 6) 15).toInt ∧ (xi (E 6) 15).toInt ≤ 20 := hI0.iv 6 (mF 6 rfl) rfl (Nat.le_of_ble_eq_true rfl) rfl
      refine th_getL (ci := 4) (C := RX3) (T := TX3) (N := 18) (v := .int (xi (E 6) 15)) hx hb hts hinX3 hown hK hP hI 6 (mF 6 rfl) rfl rfl 15 (Nat.le_of_ble_eq_true rfl) (hts _ (vA_in _ _ (in_13 _ (zs16 (zs0))))) (fun _ h9 => h9) (th_v0L hKp hI0 6 (mF 6 rfl) rfl (Nat.le_of_ble_eq_true rfl) rfl rfl) dX3_spreadTried_6 ?_
      refine lv_icmp_ge (tgt := 108) hx hb dX3_spreadTried_9 (by decide) (fun c2 => ?_) (fun c2 => ?_)
      · --9 taken
        have t3 : (xi (E 6) 15).toInt ≤ v4_3.toInt := ti_le c2
        refine lv_iload_n hx hb dX3_spreadTried_108 rfl (lv_at hl 1 rfl) ?_
        rw [hQ]
        exact W.iret (v := v4_2) hx hb hr (fun t ht hW => ⟨⟨v4_2, (), rfl, ⟨hv4_2, ⟨Int.le_of_eq (show v4_2.toInt = (sprO E a0.toNatClampNeg) by have h9 := hx4_0; rw [show v4_3.toNatClampNeg = (xi (E 6) 15).toNatClampNeg by rw [tn_, tn_]; omega] at h9; exact h9), Or.inl (show v4_2.toInt = (sprO E a0.toNatClampNeg) by have h9 := hx4_0; rw [show v4_3.toNatClampNeg = (xi (E 6) 15).toNatClampNeg by rw [tn_, tn_]; omega] at h9; exact h9)⟩⟩, trivial⟩, hS.F ht⟩) hS.2.2 dX3_spreadTried_109
      · --9 not
        have t4 : v4_3.toInt < (xi (E 6) 15).toInt := ti_nle c2
        have i5 : 0 ≤ v4_3.toInt ∧ v4_3.toInt ≤ 19 := iv_lt_l t4 hv4_3 i1 (by decide)
        have i6 : 1 ≤ (xi (E 6) 15).toInt ∧ (xi (E 6) 15).toInt ≤ 20 := iv_lt_r t4 hv4_3 i1 (by decide)
        refine lv_iload_n hx hb dX3_spreadTried_12 rfl (lv_at hl 1 rfl) ?_
        refine lv_aload_n hx hb dX3_spreadTried_13 rfl (lv_at hl 2 rfl) ?_
        refine th_getL (ci := 4) (C := RX3) (T := TX3) (N := 18) (v := .int (xi (E 6) 16)) hx hb hts hinX3 hown hK hP hI 6 (mF 6 rfl) rfl rfl 16 (Nat.le_of_ble_eq_true rfl) (hts _ (vA_in _ _ (in_13 _ (zs4 (zs4 (zs0)))))) (fun _ h9 => h9) (th_v0L hKp hI0 6 (mF 6 rfl) rfl (Nat.le_of_ble_eq_true rfl) rfl rfl) dX3_spreadTried_14 ?_
        refine lv_icmp_gt (tgt := 108) hx hb dX3_spreadTried_17 (by decide) (fun c7 => ?_) (fun c7 => ?_)
        · --17 taken
          have t8 : (xi (E 6) 16).toInt < v4_2.toInt := ti_lt c7
          have i9 : -2147483648 ≤ (xi (E 6) 16).toInt ∧ (xi (E 6) 16).toInt ≤ 8011999 := iv_lt_l t8 (iv_all _) hv4_2 (by decide)
          refine lv_iload_n hx hb dX3_spreadTried_108 rfl (lv_at hl 1 rfl) ?_
          rw [hQ]
          exact W.iret (v := v4_2) hx hb hr (fun t ht hW => ⟨⟨v4_2, (), rfl, ⟨hv4_2, ⟨(show v4_2.toInt ≤ (sprO E a0.toNatClampNeg) by rw [hx4_0]; have h9 := sumF_mo (f := (fun k9 => xtF (trO E k9) a0.toNatClampNeg)) (k := v4_3.toNatClampNeg) ((xi (E 6) 15).toNatClampNeg - v4_3.toNatClampNeg) (fun k9 h8 => sp_nn hI0 (show a0.toNatClampNeg ≤ 4 by rw [tn_]; omega) (by rw [tn_]; omega) hh1 k9 (by rw [show v4_3.toNatClampNeg + ((xi (E 6) 15).toNatClampNeg - v4_3.toNatClampNeg) = (xi (E 6) 15).toNatClampNeg by rw [tn_, tn_]; omega] at h8; exact h8)); rw [show v4_3.toNatClampNeg + ((xi (E 6) 15).toNatClampNeg - v4_3.toNatClampNeg) = (xi (E 6) 15).toNatClampNeg by rw [tn_, tn_]; omega] at h9; exact h9), Or.inr (by omega)⟩⟩, trivial⟩, hS.F ht⟩) hS.2.2 dX3_spreadTried_109
        · --17 not
          have t10 : v4_2.toInt ≤ (xi (E 6) 16).toInt := ti_nlt c7
          have i11 : 0 ≤ (xi (E 6) 16).toInt ∧ (xi (E 6) 16).toInt ≤ 2147483647 := iv_le_r t10 hv4_2 (iv_all _) (by decide)
          have i12 : 0 ≤ v4_2.toInt ∧ v4_2.toInt ≤ 7611400 := by omega
          refine lv_ldc hx hb hown (hts _ (vA_in _ _ (in_13 _ (zs4 (zs1 (zs1 (zs1 (zs0)))))))) dX3_spreadTried_20 ?_
          refine lv_istore (lv' := [(4, .int 2147483647), (3, .int v4_3), (2, .int v4_2), (0, .ref (ad 6)), (1, .int a0)]) hx hb dX3_spreadTried_22 hl (by decide) rfl (fun ls hl => ?_)
          refine lv_iconst (v := 0) hx hb dX3_spreadTried_24 (by decide) ?_
          refine lv_istore (lv' := [(5, .int 0), (4, .int 2147483647), (3, .int v4_3), (2, .int v4_2), (0, .ref (ad 6)), (1, .int a0)]) hx hb dX3_spreadTried_25 hl (by decide) rfl (fun ls hl => ?_)
          refine lv_iconst (v := 0) hx hb dX3_spreadTried_27 (by decide) ?_
          refine lv_istore (lv' := [(6, .int 0), (5, .int 0), (4, .int 2147483647), (3, .int v4_3), (2, .int v4_2), (0, .ref (ad 6)), (1, .int a0)]) hx hb dX3_spreadTried_28 hl (by decide) rfl (fun ls hl => ?_)
          have hL30 : ∀ d : Nat, ∀ (v30_6 : Int32) (v30_5 : Int32) (v30_4 : Int32) (H : Heap) (locs : List Loc) (ls : Array Slot), 0 ≤ v30_6.toInt ∧ v30_6.toInt ≤ 4 → 0 ≤ v30_5.toInt ∧ v30_5.toInt ≤ 400600 → 0 ≤ v30_4.toInt ∧ v30_4.toInt ≤ 2147483647 → v30_4.toInt = loF (trO E v4_3.toNatClampNeg) v30_6.toNatClampNeg → v30_5.toInt = hiF (trO E v4_3.toNatClampNeg) v30_6.toNatClampNeg → v30_6.toInt ≤ a0.toInt → 4 - v30_6.toInt < (d : Int) → va_P (dC, dI) vwCl (WL (LC cf) ad E) H → va_S (fun _ : Nat => False) s.heap H locs → lv_has ls 8 [(6, .int v30_6), (5, .int v30_5), (4, .int v30_4), (3, .int v4_3), (2, .int v4_2), (0, .ref (ad 6)), (1, .int a0)] → W p l e (headSpec v_spreadTriedX rm_spreadTriedX).room s m args below meth c H locs 0 0 Q (F0 m 30 ls []) := by
            intro d
            induction d with
            | zero =>
              intro v30_6 v30_5 v30_4 H locs ls hv30_6 hv30_5 hv30_4 hx30_0 hx30_1 hx30_2 hx30_3 hP hS hl
              exact absurd hx30_3 (by first | exact ms_zu hv30_6.2 | omega)
            | succ d ih30 =>
              intro v30_6 v30_5 v30_4 H locs ls hv30_6 hv30_5 hv30_4 hx30_0 hx30_1 hx30_2 hx30_3 hP hS hl
              refine lv_iload hx hb dX3_spreadTried_30 (lv_at hl 0 rfl) ?_
              refine lv_iload_n hx hb dX3_spreadTried_32 rfl (lv_at hl 6 rfl) ?_
              refine lv_icmp_ge (tgt := 94) hx hb dX3_spreadTried_33 (by decide) (fun c13 => ?_) (fun c13 => ?_)
              · --33 taken
                have t14 : a0.toInt ≤ v30_6.toInt := ti_le c13
                have k15 : (v30_4.toInt = loF (trO E v4_3.toNatClampNeg) a0.toNatClampNeg ∧ v30_5.toInt = hiF (trO E v4_3.toNatClampNeg) a0.toNatClampNeg) ∧ 0 ≤ v30_5.toInt - v30_4.toInt ∧ v30_5.toInt - v30_4.toInt ≤ 400600 := by
                  have h8 := hx30_0; have h9 := hx30_1
                  rw [show v30_6.toNatClampNeg = a0.toNatClampNeg by rw [tn_, tn_]; omega] at h8 h9
                  have b8 := lohi_b (f := (trO E v4_3.toNatClampNeg)) (c := 400600) (by decide) a0.toNatClampNeg (fun j9 h7 => tr_b hI0 (by rw [tn_]; omega) (by rw [tn_] at h7; omega))
                  obtain ⟨j9, j8, j7⟩ := hh1 v4_3.toNatClampNeg (by rw [tn_, tn_]; omega)
                  have b9 := b8.2.2 ⟨j9, j8, j7 _ (tr_7 hI0 (by rw [tn_] at j8; omega))⟩
                  exact ⟨⟨h8, h9⟩, by omega, by omega⟩
                refine lv_iload_n hx hb dX3_spreadTried_94 rfl (lv_at hl 4 rfl) ?_
                refine lv_iload hx hb dX3_spreadTried_95 (lv_at hl 1 rfl) ?_
                refine lv_iload hx hb dX3_spreadTried_97 (lv_at hl 2 rfl) ?_
                refine lv_isub hx hb dX3_spreadTried_99 ?_
                refine lv_topi (fun y16 ey16 => ?_)
                obtain ⟨ty16, iy16⟩ := ti_sub (e := (-2147483647)) (f := 400600) hv30_5 hv30_4 ey16 (by decide)
                have ty16 : y16.toInt = v30_5.toInt - v30_4.toInt := ty16
                have iy16 : -2147483647 ≤ y16.toInt ∧ y16.toInt ≤ 400600 := iy16
                have i17 : 0 ≤ y16.toInt ∧ y16.toInt ≤ 400600 := by omega
                refine lv_iadd hx hb dX3_spreadTried_100 ?_
                refine lv_topi (fun y18 ey18 => ?_)
                obtain ⟨ty18, iy18⟩ := ti_add (e := 0) (f := 8012000) i12 i17 ey18 (by decide)
                have ty18 : y18.toInt = v4_2.toInt + y16.toInt := ty18
                have iy18 : 0 ≤ y18.toInt ∧ y18.toInt ≤ 8012000 := iy18
                refine lv_istore_n (lv' := [(2, .int y18), (6, .int v30_6), (5, .int v30_5), (4, .int v30_4), (3, .int v4_3), (0, .ref (ad 6)), (1, .int a0)]) hx hb dX3_spreadTried_101 rfl hl (by decide) rfl (fun ls hl => ?_)
                obtain ⟨y19, ey19⟩ : ∃ y : Int32, y = v4_3 + (1 : Int32) := ⟨_, rfl⟩
                obtain ⟨ty19, iy19⟩ := ti_add (e := 1) (f := 20) i5 ln_1 ey19 (by decide)
                have ty19 : y19.toInt = v4_3.toInt + 1 := ty19
                have iy19 : 1 ≤ y19.toInt ∧ y19.toInt ≤ 20 := iy19
                refine lv_iinc (v := y19) (lv' := [(3, .int y19), (2, .int y18), (6, .int v30_6), (5, .int v30_5), (4, .int v30_4), (0, .ref (ad 6)), (1, .int a0)]) hx hb dX3_spreadTried_102 hl (k := 4) rfl (by rw [ey19]; rfl) (by decide) rfl (fun ls hl => ?_)
                refine lv_goto (tgt := 4) hx hb dX3_spreadTried_105 (by decide) ?_
                exact ih4 y19 y18 _ _ _ (iv_w iy19 (by decide)) iy18 (by rw [show y19.toNatClampNeg = v4_3.toNatClampNeg + 1 by rw [tn_ y19, tn_ v4_3]; omega]; show y18.toInt = sumF (fun k9 => xtF (trO E k9) a0.toNatClampNeg) v4_3.toNatClampNeg + (hiF (trO E v4_3.toNatClampNeg) a0.toNatClampNeg - loF (trO E v4_3.toNatClampNeg) a0.toNatClampNeg); have q9 := k15; omega) (by omega) (by omega) (by first | exact ms_su hx4_3 ty19 (by decide) | omega) hP hS (lv_sub hl [0, 1, 5, 6] rfl)
              · --33 not
                have t20 : v30_6.toInt < a0.toInt := ti_nle c13
                have i21 : 0 ≤ v30_6.toInt ∧ v30_6.toInt ≤ 3 := iv_lt_l t20 hv30_6 hh0 (by decide)
                have i22 : 1 ≤ a0.toInt ∧ a0.toInt ≤ 4 := iv_lt_r t20 hv30_6 hh0 (by decide)
                refine lv_aload_n hx hb dX3_spreadTried_36 rfl (lv_at hl 5 rfl) ?_
                refine th_getL (ci := 4) (C := RX3) (T := TX3) (N := 18) (v := .ref (ad 52)) hx hb hts hinX3 hown hK hP hI 6 (mF 6 rfl) rfl rfl 11 (Nat.le_of_ble_eq_true rfl) (hts _ (vA_in _ _ (in_13 _ (zs16 (zs4 (zs0)))))) (fun _ h9 => h9) (hI.fr 6 (mF 6 rfl) rfl (Nat.le_of_ble_eq_true rfl) 52 rfl) dX3_spreadTried_37 ?_
                refine lv_iload_n hx hb dX3_spreadTried_40 rfl (lv_at hl 3 rfl) ?_
                refine lv_iload hx hb dX3_spreadTried_41 (lv_at hl 0 rfl) ?_
                refine th_pi (va_runS (As := [.int v4_3, .int v30_6]) (rest := [.ref (ad 52)]) ⟨hx, hb, hml, hown, hts⟩ (q_crowOf l v4_3 v30_6 i5 i21) (va_cwS 2 hts (gi_S (in_13 _ (zs16 (zs4 (zs1 (zs1 (zs0)))))) (in_13 _ (zs16 (zs4 (zs1 (zs1 (zs1 (zs0))))))) (in_11 _ (zs4 (zs4 (zs4 (zs1 (zs1 (zs1 (zs0)))))))) (in_13 _ (zs16 (zs4 (zs4 (zs0)))))) rfl rfl rfl hz_yX3_rowOf_2 ⟨Nat.le_of_ble_eq_true rfl, Nat.le_of_ble_eq_true rfl⟩) ⟨fun _ _ _ _ q => q, fun _ _ _ => ⟨rfl, trivial⟩⟩ rfl rfl hl.1 rfl (lv_room (Nat.le_of_ble_eq_true rfl)) dX3_spreadTried_43 ⟨Nat.le_of_ble_eq_true rfl, Nat.le_of_ble_eq_true rfl⟩) hS (fun r23 H1 locs1 hw hk1 hS => ?_)
                have hP := ub_keep hP hk1
                generalize H1 = H at hP hS ⊢
                generalize locs1 = locs at hS ⊢
                obtain ⟨f24, f25⟩ := hw
                refine lv_aload_n hx hb dX3_spreadTried_46 rfl (lv_at hl 5 rfl) ?_
                refine th_getL (ci := 4) (C := RX3) (T := TX3) (N := 18) (v := .ref (ad 54)) hx hb hts hinX3 hown hK hP hI 6 (mF 6 rfl) rfl rfl 13 (Nat.le_of_ble_eq_true rfl) (hts _ (vA_in _ _ (in_13 _ (zs4 (zs4 (zs1 (zs0))))))) (fun _ h9 => h9) (hI.fr 6 (mF 6 rfl) rfl (Nat.le_of_ble_eq_true rfl) 54 rfl) dX3_spreadTried_47 ?_
                refine lv_iload hx hb dX3_spreadTried_50 (lv_at hl 0 rfl) ?_
                have n27 : vp_in v30_6 4 := (iv_in (n := 4) i21 (by decide))
                refine th_ialdL hx hb hK hP hI 54 (mF 54 rfl) rfl rfl n27 dX3_spreadTried_52 (fun y26 ey26 => ?_)
                have iy26 : 0 ≤ y26.toInt ∧ y26.toInt ≤ 6 := hI.el 54 (mF 54 rfl) rfl n27 (fun _ => rfl) ey26
                have ey26 := ey26.trans (hKp.ei 54 _ rfl)
                refine lv_iadd hx hb dX3_spreadTried_53 ?_
                refine lv_topi (fun y28 ey28 => ?_)
                obtain ⟨ty28, iy28⟩ := ti_add (e := 0) (f := 559) f24 iy26 ey28 (by decide)
                have ty28 : y28.toInt = r23.toInt + y26.toInt := ty28
                have iy28 : 0 ≤ y28.toInt ∧ y28.toInt ≤ 559 := iy28
                have n30 : vp_in y28 560 := (iv_in (n := 560) iy28 (by decide))
                refine th_ialdL hx hb hK hP hI 52 (mF 52 rfl) rfl rfl n30 dX3_spreadTried_54 (fun y29 ey29 => ?_)
                have iy29 : -1 ≤ y29.toInt ∧ y29.toInt ≤ 400600 := hI.el 52 (mF 52 rfl) rfl n30 (fun _ => rfl) ey29
                have ey29 := ey29.trans (hKp.ei 52 _ rfl)
                have k31 : trO E v4_3.toNatClampNeg v30_6.toNatClampNeg = y29.toInt := by unfold trO evX; rw [← ey26, ey29]; congr 2; rw [tn_ y28, tn_ v4_3, tn_ v30_6, tn_ y26]; omega
                refine lv_istore (lv' := [(7, .int y29), (6, .int v30_6), (5, .int v30_5), (4, .int v30_4), (3, .int v4_3), (2, .int v4_2), (0, .ref (ad 6)), (1, .int a0)]) hx hb dX3_spreadTried_55 hl (by decide) rfl (fun ls hl => ?_)
                refine lv_iload hx hb dX3_spreadTried_57 (lv_at hl 0 rfl) ?_
                refine lv_iconst (v := -1) hx hb dX3_spreadTried_59 (by decide) ?_
                refine lv_icmp_ne (tgt := 66) hx hb dX3_spreadTried_60 (by decide) (fun c32 => ?_) (fun c32 => ?_)
                · --60 taken
                  have t33 : ¬ y29.toInt = -1 := ti_ne c32
                  have i34 : 0 ≤ y29.toInt ∧ y29.toInt ≤ 400600 := iv_ne_l t33 iy29 (il_ (-1))
                  refine lv_iload hx hb dX3_spreadTried_66 (lv_at hl 0 rfl) ?_
                  refine lv_iload hx hb dX3_spreadTried_68 (lv_at hl 3 rfl) ?_
                  refine lv_icmp_ge (tgt := 77) hx hb dX3_spreadTried_70 (by decide) (fun c35 => ?_) (fun c35 => ?_)
                  · --70 taken
                    have t36 : v30_4.toInt ≤ y29.toInt := ti_le c35
                    have i37 : 0 ≤ v30_4.toInt ∧ v30_4.toInt ≤ 400600 := iv_le_l t36 hv30_4 i34 (by decide)
                    refine lv_iload hx hb dX3_spreadTried_77 (lv_at hl 0 rfl) ?_
                    refine lv_iload hx hb dX3_spreadTried_79 (lv_at hl 2 rfl) ?_
                    refine lv_icmp_le (tgt := 88) hx hb dX3_spreadTried_81 (by decide) (fun c38 => ?_) (fun c38 => ?_)
                    · --81 taken
                      have t39 : y29.toInt ≤ v30_5.toInt := ti_le c38
                      obtain ⟨y40, ey40⟩ : ∃ y : Int32, y = v30_6 + (1 : Int32) := ⟨_, rfl⟩
                      obtain ⟨ty40, iy40⟩ := ti_add (e := 1) (f := 4) i21 ln_1 ey40 (by decide)
                      have ty40 : y40.toInt = v30_6.toInt + 1 := ty40
                      have iy40 : 1 ≤ y40.toInt ∧ y40.toInt ≤ 4 := iy40
                      refine lv_iinc (v := y40) (lv' := [(6, .int y40), (7, .int y29), (5, .int v30_5), (4, .int v30_4), (3, .int v4_3), (2, .int v4_2), (0, .ref (ad 6)), (1, .int a0)]) hx hb dX3_spreadTried_88 hl (k := 1) rfl (by rw [ey40]; rfl) (by decide) rfl (fun ls hl => ?_)
                      refine lv_goto (tgt := 30) hx hb dX3_spreadTried_91 (by decide) ?_
                      exact ih30 y40 v30_5 v30_4 _ _ _ (iv_w iy40 (by decide)) hv30_5 (iv_w i37 (by decide)) (lo_y hx30_0 (by omega) (by omega) (by rw [tn_ y40, tn_ v30_6]; omega)) (hi_y hx30_1 (by omega) (by omega) (by rw [tn_ y40, tn_ v30_6]; omega)) (by omega) (by first | exact ms_su hx30_3 ty40 (by decide) | omega) hP hS (lv_sub hl [0, 2, 3, 4, 5, 6, 7] rfl)
                    · --81 not
                      have t41 : v30_5.toInt < y29.toInt := ti_nle c38
                      have i42 : 0 ≤ v30_5.toInt ∧ v30_5.toInt ≤ 400599 := iv_lt_l t41 hv30_5 i34 (by decide)
                      have i43 : 1 ≤ y29.toInt ∧ y29.toInt ≤ 400600 := iv_lt_r t41 hv30_5 i34 (by decide)
                      refine lv_iload hx hb dX3_spreadTried_84 (lv_at hl 0 rfl) ?_
                      refine lv_istore (lv' := [(5, .int y29), (7, .int y29), (6, .int v30_6), (4, .int v30_4), (3, .int v4_3), (2, .int v4_2), (0, .ref (ad 6)), (1, .int a0)]) hx hb dX3_spreadTried_86 hl (by decide) rfl (fun ls hl => ?_)
                      obtain ⟨y44, ey44⟩ : ∃ y : Int32, y = v30_6 + (1 : Int32) := ⟨_, rfl⟩
                      obtain ⟨ty44, iy44⟩ := ti_add (e := 1) (f := 4) i21 ln_1 ey44 (by decide)
                      have ty44 : y44.toInt = v30_6.toInt + 1 := ty44
                      have iy44 : 1 ≤ y44.toInt ∧ y44.toInt ≤ 4 := iy44
                      refine lv_iinc (v := y44) (lv' := [(6, .int y44), (5, .int y29), (7, .int y29), (4, .int v30_4), (3, .int v4_3), (2, .int v4_2), (0, .ref (ad 6)), (1, .int a0)]) hx hb dX3_spreadTried_88 hl (k := 2) rfl (by rw [ey44]; rfl) (by decide) rfl (fun ls hl => ?_)
                      refine lv_goto (tgt := 30) hx hb dX3_spreadTried_91 (by decide) ?_
                      exact ih30 y44 y29 v30_4 _ _ _ (iv_w iy44 (by decide)) (iv_w i43 (by decide)) (iv_w i37 (by decide)) (lo_y hx30_0 (by omega) (by omega) (by rw [tn_ y44, tn_ v30_6]; omega)) (hi_y hx30_1 (by omega) (by omega) (by rw [tn_ y44, tn_ v30_6]; omega)) (by omega) (by first | exact ms_su hx30_3 ty44 (by decide) | omega) hP hS (lv_sub hl [0, 1, 3, 4, 5, 6, 7] rfl)
                  · --70 not
                    have t45 : y29.toInt < v30_4.toInt := ti_nle c35
                    have i46 : 1 ≤ v30_4.toInt ∧ v30_4.toInt ≤ 2147483647 := iv_lt_r t45 i34 hv30_4 (by decide)
                    refine lv_iload hx hb dX3_spreadTried_73 (lv_at hl 0 rfl) ?_
                    refine lv_istore (lv' := [(4, .int y29), (7, .int y29), (6, .int v30_6), (5, .int v30_5), (3, .int v4_3), (2, .int v4_2), (0, .ref (ad 6)), (1, .int a0)]) hx hb dX3_spreadTried_75 hl (by decide) rfl (fun ls hl => ?_)
                    refine lv_iload hx hb dX3_spreadTried_77 (lv_at hl 1 rfl) ?_
                    refine lv_iload hx hb dX3_spreadTried_79 (lv_at hl 3 rfl) ?_
                    refine lv_icmp_le (tgt := 88) hx hb dX3_spreadTried_81 (by decide) (fun c47 => ?_) (fun c47 => ?_)
                    · --81 taken
                      have t48 : y29.toInt ≤ v30_5.toInt := ti_le c47
                      obtain ⟨y49, ey49⟩ : ∃ y : Int32, y = v30_6 + (1 : Int32) := ⟨_, rfl⟩
                      obtain ⟨ty49, iy49⟩ := ti_add (e := 1) (f := 4) i21 ln_1 ey49 (by decide)
                      have ty49 : y49.toInt = v30_6.toInt + 1 := ty49
                      have iy49 : 1 ≤ y49.toInt ∧ y49.toInt ≤ 4 := iy49
                      refine lv_iinc (v := y49) (lv' := [(6, .int y49), (4, .int y29), (7, .int y29), (5, .int v30_5), (3, .int v4_3), (2, .int v4_2), (0, .ref (ad 6)), (1, .int a0)]) hx hb dX3_spreadTried_88 hl (k := 2) rfl (by rw [ey49]; rfl) (by decide) rfl (fun ls hl => ?_)
                      refine lv_goto (tgt := 30) hx hb dX3_spreadTried_91 (by decide) ?_
                      exact ih30 y49 v30_5 y29 _ _ _ (iv_w iy49 (by decide)) hv30_5 (iv_w i34 (by decide)) (lo_y hx30_0 (by omega) (by omega) (by rw [tn_ y49, tn_ v30_6]; omega)) (hi_y hx30_1 (by omega) (by omega) (by rw [tn_ y49, tn_ v30_6]; omega)) (by omega) (by first | exact ms_su hx30_3 ty49 (by decide) | omega) hP hS (lv_sub hl [0, 3, 1, 4, 5, 6, 7] rfl)
                    · --81 not
                      have t50 : v30_5.toInt < y29.toInt := ti_nle c47
                      have i51 : 0 ≤ v30_5.toInt ∧ v30_5.toInt ≤ 400599 := iv_lt_l t50 hv30_5 i34 (by decide)
                      have i52 : 1 ≤ y29.toInt ∧ y29.toInt ≤ 400600 := iv_lt_r t50 hv30_5 i34 (by decide)
                      refine lv_iload hx hb dX3_spreadTried_84 (lv_at hl 1 rfl) ?_
                      refine lv_istore (lv' := [(5, .int y29), (4, .int y29), (7, .int y29), (6, .int v30_6), (3, .int v4_3), (2, .int v4_2), (0, .ref (ad 6)), (1, .int a0)]) hx hb dX3_spreadTried_86 hl (by decide) rfl (fun ls hl => ?_)
                      obtain ⟨y53, ey53⟩ : ∃ y : Int32, y = v30_6 + (1 : Int32) := ⟨_, rfl⟩
                      obtain ⟨ty53, iy53⟩ := ti_add (e := 1) (f := 4) i21 ln_1 ey53 (by decide)
                      have ty53 : y53.toInt = v30_6.toInt + 1 := ty53
                      have iy53 : 1 ≤ y53.toInt ∧ y53.toInt ≤ 4 := iy53
                      refine lv_iinc (v := y53) (lv' := [(6, .int y53), (5, .int y29), (4, .int y29), (7, .int y29), (3, .int v4_3), (2, .int v4_2), (0, .ref (ad 6)), (1, .int a0)]) hx hb dX3_spreadTried_88 hl (k := 3) rfl (by rw [ey53]; rfl) (by decide) rfl (fun ls hl => ?_)
                      refine lv_goto (tgt := 30) hx hb dX3_spreadTried_91 (by decide) ?_
                      exact ih30 y53 y29 y29 _ _ _ (iv_w iy53 (by decide)) (iv_w i52 (by decide)) (iv_w i52 (by decide)) (lo_y hx30_0 (by omega) (by omega) (by rw [tn_ y53, tn_ v30_6]; omega)) (hi_y hx30_1 (by omega) (by omega) (by rw [tn_ y53, tn_ v30_6]; omega)) (by omega) (by first | exact ms_su hx30_3 ty53 (by decide) | omega) hP hS (lv_sub hl [0, 1, 2, 4, 5, 6, 7] rfl)
                · --60 not
                  have t54 : y29.toInt = -1 := ti_eq c32
                  have i55 : -1 ≤ y29.toInt ∧ y29.toInt ≤ -1 := iv_eqi t54 iy29 (il_ (-1)) (by decide)
                  refine lv_goto (tgt := 88) hx hb dX3_spreadTried_63 (by decide) ?_
                  obtain ⟨y56, ey56⟩ : ∃ y : Int32, y = v30_6 + (1 : Int32) := ⟨_, rfl⟩
                  obtain ⟨ty56, iy56⟩ := ti_add (e := 1) (f := 4) i21 ln_1 ey56 (by decide)
                  have ty56 : y56.toInt = v30_6.toInt + 1 := ty56
                  have iy56 : 1 ≤ y56.toInt ∧ y56.toInt ≤ 4 := iy56
                  refine lv_iinc (v := y56) (lv' := [(6, .int y56), (7, .int y29), (5, .int v30_5), (4, .int v30_4), (3, .int v4_3), (2, .int v4_2), (0, .ref (ad 6)), (1, .int a0)]) hx hb dX3_spreadTried_88 hl (k := 1) rfl (by rw [ey56]; rfl) (by decide) rfl (fun ls hl => ?_)
                  refine lv_goto (tgt := 30) hx hb dX3_spreadTried_91 (by decide) ?_
                  exact ih30 y56 v30_5 v30_4 _ _ _ (iv_w iy56 (by decide)) hv30_5 hv30_4 (lo_n hx30_0 (by omega) (by rw [tn_ y56, tn_ v30_6]; omega)) (hi_n hx30_1 (by omega) (by rw [tn_ y56, tn_ v30_6]; omega)) (by omega) (by first | exact ms_su hx30_3 ty56 (by decide) | omega) hP hS (lv_sub hl [0, 2, 3, 4, 5, 6, 7] rfl)
          exact hL30 (5) (0 : Int32) (0 : Int32) (2147483647 : Int32) _ _ _ (iv_w ln_0 (by decide)) (iv_w ln_0 (by decide)) (iv_w ln_2147483647 (by decide)) (show (2147483647 : Int32).toInt = 2147483647 from rfl) (show (0 : Int32).toInt = 0 from rfl) (by have z9 := ln_0; omega) (by have h9 := ln_0; first | exact ms_bu h9.1 (by decide) | omega) hP hS (lv_sub hl [0, 1, 2, 3, 4, 5, 6] rfl)
  exact hL4 (21) (0 : Int32) (0 : Int32) _ _ _ (iv_w ln_0 (by decide)) (iv_w ln_0 (by decide)) (show (0 : Int32).toInt = 0 from rfl) (by have z9 := ln_0; omega) (by have z9 := ln_0; have z8 := i9_15; omega) (by have h9 := ln_0; first | exact ms_bu h9.1 (by decide) | omega) hP hS (lv_sub hl [0, 1, 2, 3] rfl)
def v_evenOutX : List Cond := .code yX3_evenOut cX3_evenOut 9 none :: vA
abbrev rm_evenOutX : Room := { frames := 4, cells := 0, slots := 0, locals := 160 }
def w_evenOutX : Nat → Nat → Bool := wl [52, 53, 54, 55] [(6, 15), (6, 16)]
set_option maxHeartbeats 4000000 in
set_option maxRecDepth 100000 in
theorem q_evenOutX (l : Launch) (dC : Nat → ClassId) (dI : Nat → Nat → Nat) (cT : Nat → ClassId) (cf : Nat → Nat) (hC : CF cf) (ad : Nat → Nat) (E : Nat → va_E) (sz : Nat) (a0 : Int32) (hI0 : IXL cT (shC cf) (spC cf) (LC cf) ad E) (hh0 : 0 ≤ a0.toInt ∧ a0.toInt ≤ 65535) (hh1 : 2 ≤ pcS a0.toNatClampNeg 16 ∧ pcS a0.toNatClampNeg 16 ≤ 4) : Met l yX3_evenOut v_evenOutX rm_evenOutX (va_Pc [.ref (ad 6), .int a0] (HWL dC dI (TYC cT) cf ad E sz)) (va_Qv (S := Nat → va_E) (fun u => IXL cT (shC cf) (spC cf) (LC cf) ad u ∧ Kp w_evenOutX E u ∧ ((EvR (wyO E) (fnO E) (scO E) (nmO E) (cf 2) a0.toNatClampNeg 16 (fun m9 g9 b9 c9 => b9 = (xi (u 6) 16).toInt ∧ g9 = xi (u 53) ∧ c9 = fun s9 : Nat => (xi (u 55) s9).toInt)))) (HBL dC dI (LC cf) ad) (va_A (WL (LC cf) ad E) sz)) 0 0 (va_A (WL (LC cf) ad E) sz) := by
  obtain ⟨⟨hc0, hc1, hc2, hc3, hc4, hc5⟩, hcr⟩ := id hC
  refine Met.ofW (cc := cX3_evenOut) (maxL := 9) (ret := none) (by decide) rfl ?_
  intro p e s m args below meth c s₁ B hml hv
  obtain ⟨hargs, hsz, hP, hK, hD0, hEV⟩ := hv
  subst hsz
  have hx := B.exec
  have hb := B.bytes
  have hr := B.returns
  have hts := atoms_spec (ws := v_evenOutX) B.pre
  have hown : s.vm.findClass RX3 = some m.cls := findClass_of_methodNamed B.named
  have hlocks := B.notSynchronized
  have hinX3 : ∀ w ∈ u_ws RX3 TX3 18, w ∈ v_evenOutX := fun w h => vA_in _ w (in_X3 w h)
  generalize hAe : va_A (WL (LC cf) ad E) s.heap.size = A at hEV ⊢
  have hA : ∀ q : Nat, s.heap.size ≤ q → A q := fun q h => by rw [← hAe]; exact Or.inr h
  have hD : va_D A (WL (LC cf) ad E) := by rw [← hAe]; exact hD0.self
  have hS : va_S A s.heap s.heap [] := va_S.rf
  have hI := hI0
  have hKp : Kp w_evenOutX E E := Kp.rf
  have hl := lv_entry ([.ref (ad 6), .int a0]) (n := 9) (Nat.le_of_ble_eq_true rfl)
  obtain ⟨Q, hQ⟩ : ∃ Q, Q = MQ below (va_Qv (S := Nat → va_E) (fun u => IXL cT (shC cf) (spC cf) (LC cf) ad u ∧ Kp w_evenOutX E u ∧ ((EvR (wyO E) (fnO E) (scO E) (nmO E) (cf 2) a0.toNatClampNeg 16 (fun m9 g9 b9 c9 => b9 = (xi (u 6) 16).toInt ∧ g9 = xi (u 53) ∧ c9 = fun s9 : Nat => (xi (u 55) s9).toInt)))) (HBL dC dI (LC cf) ad) (A)) args s 0 0 (A) := ⟨_, rfl⟩
  rw [← hQ, show entryFrame m args 9 = _ from (congrArg (fun z => entryFrame m z 9) hargs).trans (lg_entry_eq _ _ _)]
  generalize (lg_sl ([.ref (ad 6), .int a0]) ++ List.replicate (9 - (lg_sl ([.ref (ad 6), .int a0])).length) Slot.unset).toArray = ls at hl ⊢
  have hl : lv_has ls 9 [(0, .ref (ad 6)), (1, .int a0)] := hl
  obtain ⟨g1, hg1⟩ : ∃ g, xi (E 52) = g := ⟨_, rfl⟩
  obtain ⟨g2, hg2⟩ : ∃ g, xi (E 53) = g := ⟨_, rfl⟩
  obtain ⟨g3, hg3⟩ : ∃ g, xi (E 54) = g := ⟨_, rfl⟩
  obtain ⟨g4, hg4⟩ : ∃ g, xi (E 55) = g := ⟨_, rfl⟩
  have z0z : (0 : Int32).toInt = 0 := rfl
  refine lv_iconst (v := 0) hx hb dX3_evenOut_0 (by decide) ?_
  refine lv_istore_n (lv' := [(2, .int 0), (0, .ref (ad 6)), (1, .int a0)]) hx hb dX3_evenOut_1 rfl hl (by decide) rfl (fun ls hl => ?_)
  refine lv_iconst (v := 0) hx hb dX3_evenOut_2 (by decide) ?_
  refine lv_istore_n (lv' := [(3, .int 0), (2, .int 0), (0, .ref (ad 6)), (1, .int a0)]) hx hb dX3_evenOut_3 rfl hl (by decide) rfl (fun ls hl => ?_)
  have hL4 : ∀ d : Nat, ∀ (g4_53 : Nat → Int32) (v4_3 : Int32) (v4_2 : Int32) (E4_ : Nat → va_E) (H : Heap) (locs : List Loc) (ls : Array Slot), 0 ≤ v4_3.toInt ∧ v4_3.toInt ≤ 16 → 0 ≤ v4_2.toInt ∧ v4_2.toInt ≤ 4 → EvL a0.toNatClampNeg v4_3.toNatClampNeg v4_2.toNatClampNeg g4_53 → v4_3.toInt ≤ 16 → 16 - v4_3.toInt < (d : Int) → IXL cT (shC cf) (spC cf) (LC cf) ad E4_ → Kp w_evenOutX E E4_ → xi (E4_ 52) = g1 → xi (E4_ 53) = g4_53 → xi (E4_ 54) = g3 → xi (E4_ 55) = g4 → va_P (dC, dI) vwCl (WL (LC cf) ad E4_) H → va_S A s.heap H locs → lv_has ls 9 [(3, .int v4_3), (2, .int v4_2), (0, .ref (ad 6)), (1, .int a0)] → W p l e (headSpec v_evenOutX rm_evenOutX).room s m args below meth c H locs 0 0 Q (F0 m 4 ls []) := by
    intro d
    induction d with
    | zero =>
      intro g4_53 v4_3 v4_2 E4_ H locs ls hv4_3 hv4_2 hx4_0 hx4_1 hx4_2 hI hKp hr4_52 hr4_53 hr4_54 hr4_55 hP hS hl
      exact absurd hx4_2 (by first | exact ms_zu hv4_3.2 | omega)
    | succ d ih4 =>
      intro g4_53 v4_3 v4_2 E4_ H locs ls hv4_3 hv4_2 hx4_0 hx4_1 hx4_2 hI hKp hr4_52 hr4_53 hr4_54 hr4_55 hP hS hl
      refine lv_iload_n hx hb dX3_evenOut_4 rfl (lv_at hl 0 rfl) ?_
      refine lv_bipush (v := 16) hx hb dX3_evenOut_5 (by decide) ?_
      refine lv_icmp_ge (tgt := 42) hx hb dX3_evenOut_7 (by decide) (fun c5 => ?_) (fun c5 => ?_)
      · --7 taken
        have t6 : (16 : Int) ≤ v4_3.toInt := ti_le c5
        have i7 : 16 ≤ v4_3.toInt ∧ v4_3.toInt ≤ 16 := iv_le_r t6 (il_ 16) hv4_3 (by decide)
        have k8 : EvL a0.toNatClampNeg 16 v4_2.toNatClampNeg g4_53 := by have h9 := hx4_0; rw [show v4_3.toNatClampNeg = 16 by rw [tn_]; omega] at h9; exact h9
        have k9 : v4_2.toNatClampNeg = pcS a0.toNatClampNeg 16 := (EvL.num _ _ _ k8).1
        have i10 : 2 ≤ v4_2.toInt ∧ v4_2.toInt ≤ 4 := by have h9 := k9; rw [tn_] at h9; omega
        refine lv_aload_n hx hb dX3_evenOut_42 rfl (lv_at hl 2 rfl) ?_
        refine lv_iload_n hx hb dX3_evenOut_43 rfl (lv_at hl 1 rfl) ?_
        have k11 : xi (E4_ 53) = g4_53 := hr4_53
        refine th_vL (va_runV (As := [.int v4_2]) (rest := []) ⟨hx, hb, hml, hown, hts⟩ (q_gatherChangedX l dC dI cT cf hC ad E4_ H.size v4_2 hI (iv_w i10 (by decide))) (cwV 1 hts (gi_V (in_13 _ (zs4 (zs4 (zs4 (zs0))))) (in_13 _ (zs4 (zs4 (zs4 (zs1 (zs0)))))) (in_13 _ (zs4 (zs4 (zs4 (zs1 (zs1 (zs0))))))) (in_11 _ (zs4 (zs4 (zs4 (zs1 (zs1 (zs1 (zs0)))))))) (in_13 _ (zs4 (zs4 (zs4 (zs1 (zs1 (zs1 (zs0))))))))) rfl rfl rfl ⟨rfl, hz_yX3_gatherChanged_1⟩ ⟨Nat.le_of_ble_eq_true rfl, Nat.le_of_ble_eq_true rfl⟩) ⟨HWL_bl, va_recv hK hP (ci := 4) (q0 := posL 6 (LC cf)) rfl (hI.ob 6 (mF 6 rfl) rfl), (HWL_wi hP hK (WL_D hD) hS hA hEV)⟩ rfl rfl hl.1 rfl (lv_room (Nat.le_of_ble_eq_true rfl)) dX3_evenOut_44 ⟨Nat.le_of_ble_eq_true rfl, Nat.le_of_ble_eq_true rfl⟩) (WL_D hD) hS hA (fun E13 H locs hw hP hS => ?_)
        obtain ⟨hI, kq14, hw⟩ := hw
        have hKb := hKp
        have hKp := hKp.tr kq14 (wl_sub rfl rfl)
        have f15 := hw
        obtain ⟨g16, hg16⟩ : ∃ g, xi (E13 52) = g := ⟨_, rfl⟩
        obtain ⟨y17, ey17⟩ : ∃ y, xi (E13 6) 15 = y := ⟨_, rfl⟩
        have fy17 : xv (E13 6) 15 = .int y17 := (hI.fi 6 (mF 6 rfl) rfl (Nat.le_of_ble_eq_true rfl) rfl).trans (congrArg Value.int ey17)
        have i18 : 0 ≤ y17.toInt ∧ y17.toInt ≤ 20 := by rw [← ey17]; exact hI.iv 6 (mF 6 rfl) rfl (Nat.le_of_ble_eq_true rfl) rfl
        have k19 : TbR (cnG (wyO E) (fnO E) v4_2.toNatClampNeg g4_53) (qtG (fnO E) (scO E) (nmO E) v4_2.toNatClampNeg g4_53) (cf 2) y17.toNatClampNeg (evX g16) := by
          have h9 := f15
          rw [show xi (E13 52) = g16 from hg16, show xi (E13 6) 15 = y17 from vi_e fy17] at h9
          exact TbO.cg (K64.of hKb (fun o9 ho9 j9 => wl_p rfl rfl ho9)) (hKb.ef 43 (fun _ => rfl)) (hKb.ef 44 (fun _ => rfl)) (hKb.ef 45 (fun _ => rfl)) k11 h9
        have k20 : ∀ k9 : Nat, k9 < y17.toNatClampNeg → ∃ j9 : Nat, j9 < v4_2.toNatClampNeg ∧ ∀ d9 : Nat, d9 < 7 → ¬ evX g16 k9 j9 d9 = -1 := TbX.some k19 (fun r9 j9 h8 h9 => (hI0.iv 44 (mF 44 rfl) rfl (j := 16 * r9 + (g4_53 j9).toNatClampNeg) (by have h7 := k8.n16 (Nat.le_refl 16) h9; show _ < 320; omega) rfl).1)
        refine lv_iconst (v := 1) hx hb dX3_evenOut_47 (by decide) ?_
        refine lv_istore_n (lv' := [(3, .int 1), (2, .int v4_2), (0, .ref (ad 6)), (1, .int a0)]) hx hb dX3_evenOut_48 rfl hl (by decide) rfl (fun ls hl => ?_)
        refine lv_iconst (v := 0) hx hb dX3_evenOut_49 (by decide) ?_
        refine lv_istore (lv' := [(4, .int 0), (3, .int 1), (2, .int v4_2), (0, .ref (ad 6)), (1, .int a0)]) hx hb dX3_evenOut_50 hl (by decide) rfl (fun ls hl => ?_)
        have hL52 : ∀ d : Nat, ∀ (v52_4 : Int32) (v52_3 : Int32) (H : Heap) (locs : List Loc) (ls : Array Slot), 0 ≤ v52_4.toInt ∧ v52_4.toInt ≤ 4 → 1 ≤ v52_3.toInt ∧ v52_3.toInt ≤ 2401 → v52_3.toInt = ((p7 v52_4.toNatClampNeg : Nat) : Int) → v52_4.toInt ≤ v4_2.toInt → 4 - v52_4.toInt < (d : Int) → va_P (dC, dI) vwCl (WL (LC cf) ad E13) H → va_S A s.heap H locs → lv_has ls 9 [(4, .int v52_4), (3, .int v52_3), (2, .int v4_2), (0, .ref (ad 6)), (1, .int a0)] → W p l e (headSpec v_evenOutX rm_evenOutX).room s m args below meth c H locs 0 0 Q (F0 m 52 ls []) := by
          intro d
          induction d with
          | zero =>
            intro v52_4 v52_3 H locs ls hv52_4 hv52_3 hx52_0 hx52_1 hx52_2 hP hS hl
            exact absurd hx52_2 (by first | exact ms_zu hv52_4.2 | omega)
          | succ d ih52 =>
            intro v52_4 v52_3 H locs ls hv52_4 hv52_3 hx52_0 hx52_1 hx52_2 hP hS hl
            refine lv_iload hx hb dX3_evenOut_52 (lv_at hl 0 rfl) ?_
            refine lv_iload_n hx hb dX3_evenOut_54 rfl (lv_at hl 2 rfl) ?_
            refine lv_icmp_ge (tgt := 69) hx hb dX3_evenOut_55 (by decide) (fun c21 => ?_) (fun c21 => ?_)
            · --55 taken
              have t22 : v4_2.toInt ≤ v52_4.toInt := ti_le c21
              have i23 : 2 ≤ v52_4.toInt ∧ v52_4.toInt ≤ 4 := iv_le_r t22 i10 hv52_4 (by decide)
              have k24 : v52_3.toInt = ((p7 v4_2.toNatClampNeg : Nat) : Int) := by have h9 := hx52_0; rw [show v52_4.toNatClampNeg = v4_2.toNatClampNeg by rw [tn_, tn_]; omega] at h9; exact h9
              refine lv_aload_n hx hb dX3_evenOut_69 rfl (lv_at hl 3 rfl) ?_
              refine lv_ldc hx hb hown (hts _ (vA_in _ _ (in_13 _ (zs4 (zs1 (zs1 (zs1 (zs0)))))))) dX3_evenOut_70 ?_
              refine th_putL (ci := 4) (C := RX3) (T := TX3) (N := 18) (v := .int 2147483647) (ty := .int) hx hb hts hinX3 tyX3 tyX3_ok nmX3 hown hK hP (WL_D hD) hS hI 6 (mF 6 rfl) rfl rfl 16 (Nat.le_of_ble_eq_true rfl) (hts _ (vA_in _ _ (in_13 _ (zs4 (zs4 (zs0)))))) (fun _ h9 => h9) rfl (by decide +kernel) rfl rfl (okI rfl (iv_w ln_2147483647 (by decide))) dX3_evenOut_72 (fun H locs E25 pw26 hI hP hS => ?_)
              have hKp := hKp.pw pw26 rfl
              refine lv_iconst (v := 0) hx hb dX3_evenOut_75 (by decide) ?_
              refine lv_istore (lv' := [(4, .int 0), (3, .int v52_3), (2, .int v4_2), (0, .ref (ad 6)), (1, .int a0)]) hx hb dX3_evenOut_76 hl (by decide) rfl (fun ls hl => ?_)
              refine lv_iconst (v := 0) hx hb dX3_evenOut_78 (by decide) ?_
              refine lv_istore (lv' := [(5, .int 0), (4, .int 0), (3, .int v52_3), (2, .int v4_2), (0, .ref (ad 6)), (1, .int a0)]) hx hb dX3_evenOut_79 hl (by decide) rfl (fun ls hl => ?_)
              have hL81 : ∀ d : Nat, ∀ (w81_6_16 : Int32) (g81_54 : Nat → Int32) (g81_55 : Nat → Int32) (v81_5 : Int32) (v81_4 : Int32) (E81_ : Nat → va_E) (H : Heap) (locs : List Loc) (ls : Array Slot), 0 ≤ w81_6_16.toInt ∧ w81_6_16.toInt ≤ 2147483647 → 0 ≤ v81_5.toInt ∧ v81_5.toInt ≤ 2401 → 0 ≤ v81_4.toInt ∧ v81_4.toInt ≤ 15 → ((v81_5.toNatClampNeg = 0 ∧ w81_6_16.toInt = 2147483647) ∨ BsK (spF (evX g16) y17.toNatClampNeg v4_2.toNatClampNeg) (smF v4_2.toNatClampNeg) v4_2.toNatClampNeg v81_5.toNatClampNeg w81_6_16.toInt v81_4.toInt (fun s9 => (g81_55 s9).toInt)) → v81_5.toInt ≤ v52_3.toInt → 2401 - v81_5.toInt < (d : Int) → IXL cT (shC cf) (spC cf) (LC cf) ad E81_ → Kp w_evenOutX E E81_ → xv (E81_ 6) 16 = .int w81_6_16 → xv (E81_ 6) 15 = .int y17 → xi (E81_ 52) = g16 → xi (E81_ 53) = g4_53 → xi (E81_ 54) = g81_54 → xi (E81_ 55) = g81_55 → va_P (dC, dI) vwCl (WL (LC cf) ad E81_) H → va_S A s.heap H locs → lv_has ls 9 [(5, .int v81_5), (4, .int v81_4), (3, .int v52_3), (2, .int v4_2), (0, .ref (ad 6)), (1, .int a0)] → W p l e (headSpec v_evenOutX rm_evenOutX).room s m args below meth c H locs 0 0 Q (F0 m 81 ls []) := by
                intro d
                induction d with
                | zero =>
                  intro w81_6_16 g81_54 g81_55 v81_5 v81_4 E81_ H locs ls hw81_6_16 hv81_5 hv81_4 hx81_0 hx81_1 hx81_2 hI hKp hs81_6_16 hs81_6_15 hr81_52 hr81_53 hr81_54 hr81_55 hP hS hl
                  exact absurd hx81_2 (by first | exact ms_zu hv81_5.2 | omega)
                | succ d ih81 =>
                  intro w81_6_16 g81_54 g81_55 v81_5 v81_4 E81_ H locs ls hw81_6_16 hv81_5 hv81_4 hx81_0 hx81_1 hx81_2 hI hKp hs81_6_16 hs81_6_15 hr81_52 hr81_53 hr81_54 hr81_55 hP hS hl
                  refine lv_iload hx hb dX3_evenOut_81 (lv_at hl 0 rfl) ?_
                  refine lv_iload_n hx hb dX3_evenOut_83 rfl (lv_at hl 2 rfl) ?_
                  refine lv_icmp_ge (tgt := 210) hx hb dX3_evenOut_84 (by decide) (fun c27 => ?_) (fun c27 => ?_)
                  · --84 taken
                    have t28 : v52_3.toInt ≤ v81_5.toInt := ti_le c27
                    have i29 : 1 ≤ v81_5.toInt ∧ v81_5.toInt ≤ 2401 := iv_le_r t28 hv52_3 hv81_5 (by decide)
                    rw [hQ]
                    exact W.vret hx hb hr (fun t ht hW => ⟨⟨E81_, rfl, ⟨hI, hKp, ⟨_, _, _, _, _, _, _, k8, k19, (hx81_0.elim (fun q9 => by exfalso; have h8 := p7_pos v4_2.toNatClampNeg; have h7 := q9.1; rw [tn_] at h7; omega) (fun q9 => by rw [show v81_5.toNatClampNeg = p7 v4_2.toNatClampNeg by rw [tn_ v81_5]; omega] at q9; exact q9)), congrArg Int32.toInt (show xi (E81_ 6) 16 = w81_6_16 from vi_e hs81_6_16).symm, (show xi (E81_ 53) = g4_53 from hr81_53).symm, (by rw [show xi (E81_ 55) = g81_55 from hr81_55])⟩⟩, by show va_P (dC, dI) vwCl (WL (LC cf) ad E81_) t.heap; rw [ht]; exact hP⟩, hS.F ht⟩) hS.2.2 dX3_evenOut_210
                  · --84 not
                    have t30 : v81_5.toInt < v52_3.toInt := ti_nle c27
                    have i31 : 0 ≤ v81_5.toInt ∧ v81_5.toInt ≤ 2400 := iv_lt_l t30 hv81_5 hv52_3 (by decide)
                    refine lv_iload hx hb dX3_evenOut_87 (lv_at hl 0 rfl) ?_
                    refine lv_istore (lv' := [(6, .int v81_5), (5, .int v81_5), (4, .int v81_4), (3, .int v52_3), (2, .int v4_2), (0, .ref (ad 6)), (1, .int a0)]) hx hb dX3_evenOut_89 hl (by decide) rfl (fun ls hl => ?_)
                    refine lv_iconst (v := 0) hx hb dX3_evenOut_91 (by decide) ?_
                    refine lv_istore (lv' := [(7, .int 0), (6, .int v81_5), (5, .int v81_5), (4, .int v81_4), (3, .int v52_3), (2, .int v4_2), (0, .ref (ad 6)), (1, .int a0)]) hx hb dX3_evenOut_92 hl (by decide) rfl (fun ls hl => ?_)
                    refine lv_iload_n hx hb dX3_evenOut_94 rfl (lv_at hl 5 rfl) ?_
                    refine lv_iconst (v := 1) hx hb dX3_evenOut_95 (by decide) ?_
                    refine lv_isub hx hb dX3_evenOut_96 ?_
                    refine lv_topi (fun y32 ey32 => ?_)
                    obtain ⟨ty32, iy32⟩ := ti_sub (e := 1) (f := 3) i10 ln_1 ey32 (by decide)
                    have ty32 : y32.toInt = v4_2.toInt - 1 := ty32
                    have iy32 : 1 ≤ y32.toInt ∧ y32.toInt ≤ 3 := iy32
                    refine lv_istore (lv' := [(8, .int y32), (7, .int 0), (6, .int v81_5), (5, .int v81_5), (4, .int v81_4), (3, .int v52_3), (2, .int v4_2), (0, .ref (ad 6)), (1, .int a0)]) hx hb dX3_evenOut_97 hl (by decide) rfl (fun ls hl => ?_)
                    have hL99 : ∀ d : Nat, ∀ (g99_54 : Nat → Int32) (v99_8 : Int32) (v99_7 : Int32) (v99_6 : Int32) (E99_ : Nat → va_E) (H : Heap) (locs : List Loc) (ls : Array Slot), -1 ≤ v99_8.toInt ∧ v99_8.toInt ≤ 3 → 0 ≤ v99_7.toInt ∧ v99_7.toInt ≤ 12 → 0 ≤ v99_6.toInt ∧ v99_6.toInt ≤ 2400 → v99_6.toNatClampNeg = v81_5.toNatClampNeg / p7 (v4_2.toNatClampNeg - (v99_8.toInt + 1).toNat) → (∀ j9 : Nat, (v99_8.toInt + 1).toNat ≤ j9 → j9 < v4_2.toNatClampNeg → (g99_54 j9).toInt = ((dg7 v4_2.toNatClampNeg v81_5.toNatClampNeg j9 : Nat) : Int)) → v99_7.toInt + sumF (fun j => ab (((dg7 v4_2.toNatClampNeg v81_5.toNatClampNeg j : Nat) : Int) - 3)) (v99_8.toInt + 1).toNat = smF v4_2.toNatClampNeg v81_5.toNatClampNeg → -1 ≤ v99_8.toInt ∧ v99_8.toInt < v4_2.toInt → 0 ≤ v99_7.toInt ∧ v99_7.toInt ≤ 3 * (v4_2.toInt - 1 - v99_8.toInt) → v99_8.toInt - (-1) < (d : Int) → IXL cT (shC cf) (spC cf) (LC cf) ad E99_ → Kp w_evenOutX E E99_ → xv (E99_ 6) 16 = .int w81_6_16 → xv (E99_ 6) 15 = .int y17 → xi (E99_ 52) = g16 → xi (E99_ 53) = g4_53 → xi (E99_ 54) = g99_54 → xi (E99_ 55) = g81_55 → va_P (dC, dI) vwCl (WL (LC cf) ad E99_) H → va_S A s.heap H locs → lv_has ls 9 [(8, .int v99_8), (7, .int v99_7), (6, .int v99_6), (5, .int v81_5), (4, .int v81_4), (3, .int v52_3), (2, .int v4_2), (0, .ref (ad 6)), (1, .int a0)] → W p l e (headSpec v_evenOutX rm_evenOutX).room s m args below meth c H locs 0 0 Q (F0 m 99 ls []) := by
                      intro d
                      induction d with
                      | zero =>
                        intro g99_54 v99_8 v99_7 v99_6 E99_ H locs ls hv99_8 hv99_7 hv99_6 hx99_0 hx99_1 hx99_2 hx99_3 hx99_4 hx99_5 hI hKp hs99_6_16 hs99_6_15 hr99_52 hr99_53 hr99_54 hr99_55 hP hS hl
                        exact absurd hx99_5 (by first | exact ms_zd hv99_8.1 | omega)
                      | succ d ih99 =>
                        intro g99_54 v99_8 v99_7 v99_6 E99_ H locs ls hv99_8 hv99_7 hv99_6 hx99_0 hx99_1 hx99_2 hx99_3 hx99_4 hx99_5 hI hKp hs99_6_16 hs99_6_15 hr99_52 hr99_53 hr99_54 hr99_55 hP hS hl
                        refine lv_iload hx hb dX3_evenOut_99 (lv_at hl 0 rfl) ?_
                        refine lv_if_lt (tgt := 145) hx hb dX3_evenOut_101 (by decide) (fun c33 => ?_) (fun c33 => ?_)
                        · --101 taken
                          have t34 : v99_8.toInt < 0 := ti_lt c33
                          have i35 : -1 ≤ v99_8.toInt ∧ v99_8.toInt ≤ -1 := iv_lt_l t34 hv99_8 (il_ 0) (by decide)
                          have k36 : ∀ j9 : Nat, j9 < v4_2.toNatClampNeg → (g99_54 j9).toInt = ((dg7 v4_2.toNatClampNeg v81_5.toNatClampNeg j9 : Nat) : Int) := fun j9 h9 => hx99_1 j9 (by rw [show (v99_8.toInt + 1).toNat = 0 by omega]; exact Nat.zero_le _) h9
                          have k37 : v99_7.toInt = smF v4_2.toNatClampNeg v81_5.toNatClampNeg := by have h9 := hx99_2; rw [show (v99_8.toInt + 1).toNat = 0 by omega] at h9; have h8 : sumF (fun j => ab (((dg7 v4_2.toNatClampNeg v81_5.toNatClampNeg j : Nat) : Int) - 3)) 0 = 0 := rfl; omega
                          refine lv_aload_n hx hb dX3_evenOut_145 rfl (lv_at hl 7 rfl) ?_
                          refine lv_iload_n hx hb dX3_evenOut_146 rfl (lv_at hl 6 rfl) ?_
                          refine th_riL (va_runV (As := [.int v4_2]) (rest := []) ⟨hx, hb, hml, hown, hts⟩ (q_spreadTriedX l dC dI cT cf hC ad E99_ H.size v4_2 hI (iv_w i10 (by decide)) (by intro k9 h9; rw [show xi (E99_ 52) = g16 from hr99_52]; rw [show xi (E99_ 6) 15 = y17 from vi_e hs99_6_15] at h9; exact k20 k9 h9)) (cwV 1 hts (gi_V (in_13 _ (zs16 (zs4 (zs4 (zs1 (zs1 (zs0))))))) (in_13 _ (zs16 (zs4 (zs4 (zs1 (zs1 (zs1 (zs0)))))))) (in_13 _ (zs16 (zs4 (zs4 (zs4 (zs0)))))) (in_11 _ (zs4 (zs4 (zs4 (zs1 (zs1 (zs1 (zs0)))))))) (in_13 _ (zs16 (zs4 (zs4 (zs4 (zs1 (zs0)))))))) rfl rfl rfl ⟨rfl, hz_yX3_spreadTried_1⟩ ⟨Nat.le_of_ble_eq_true rfl, Nat.le_of_ble_eq_true rfl⟩) ⟨HWL_bl, va_recv hK hP (ci := 4) (q0 := posL 6 (LC cf)) rfl (hI.ob 6 (mF 6 rfl) rfl), (HWL_wi hP hK (WL_D hD) hS hA hEV)⟩ rfl rfl hl.1 rfl (lv_room (Nat.le_of_ble_eq_true rfl)) dX3_evenOut_147 ⟨Nat.le_of_ble_eq_true rfl, Nat.le_of_ble_eq_true rfl⟩) hS hP (fun r38 H locs hw hP hS => ?_)
                          obtain ⟨f39, f40⟩ := hw
                          have k41 : r38.toInt ≤ (spF (evX g16) y17.toNatClampNeg v4_2.toNatClampNeg) v81_5.toNatClampNeg ∧ (r38.toInt = (spF (evX g16) y17.toNatClampNeg v4_2.toNatClampNeg) v81_5.toNatClampNeg ∨ w81_6_16.toInt < r38.toInt) := by
                            have h9 := f40
                            rw [sp_dg (show xi (E99_ 52) = g16 from hr99_52) (show xi (E99_ 54) = g99_54 from hr99_54) (show (xi (E99_ 6) 15).toNatClampNeg = y17.toNatClampNeg by rw [show xi (E99_ 6) 15 = y17 from vi_e hs99_6_15]) k36, show xi (E99_ 6) 16 = w81_6_16 from vi_e hs99_6_16] at h9
                            exact h9
                          refine lv_istore (lv' := [(8, .int r38), (7, .int v99_7), (6, .int v99_6), (5, .int v81_5), (4, .int v81_4), (3, .int v52_3), (2, .int v4_2), (0, .ref (ad 6)), (1, .int a0)]) hx hb dX3_evenOut_150 hl (by decide) rfl (fun ls hl => ?_)
                          refine lv_iload hx hb dX3_evenOut_152 (lv_at hl 0 rfl) ?_
                          refine lv_aload_n hx hb dX3_evenOut_154 rfl (lv_at hl 7 rfl) ?_
                          refine th_getL (ci := 4) (C := RX3) (T := TX3) (N := 18) (v := .int w81_6_16) hx hb hts hinX3 hown hK hP hI 6 (mF 6 rfl) rfl rfl 16 (Nat.le_of_ble_eq_true rfl) (hts _ (vA_in _ _ (in_13 _ (zs4 (zs4 (zs0)))))) (fun _ h9 => h9) hs99_6_16 dX3_evenOut_155 ?_
                          refine lv_icmp_gt (tgt := 204) hx hb dX3_evenOut_158 (by decide) (fun c42 => ?_) (fun c42 => ?_)
                          · --158 taken
                            have t43 : w81_6_16.toInt < r38.toInt := ti_lt c42
                            have i44 : 0 ≤ w81_6_16.toInt ∧ w81_6_16.toInt ≤ 8011999 := iv_lt_l t43 hw81_6_16 f39 (by decide)
                            have i45 : 1 ≤ r38.toInt ∧ r38.toInt ≤ 8012000 := iv_lt_r t43 hw81_6_16 f39 (by decide)
                            obtain ⟨y46, ey46⟩ : ∃ y : Int32, y = v81_5 + (1 : Int32) := ⟨_, rfl⟩
                            obtain ⟨ty46, iy46⟩ := ti_add (e := 1) (f := 2401) i31 ln_1 ey46 (by decide)
                            have ty46 : y46.toInt = v81_5.toInt + 1 := ty46
                            have iy46 : 1 ≤ y46.toInt ∧ y46.toInt ≤ 2401 := iy46
                            refine lv_iinc (v := y46) (lv' := [(5, .int y46), (8, .int r38), (7, .int v99_7), (6, .int v99_6), (4, .int v81_4), (3, .int v52_3), (2, .int v4_2), (0, .ref (ad 6)), (1, .int a0)]) hx hb dX3_evenOut_204 hl (k := 3) rfl (by rw [ey46]; rfl) (by decide) rfl (fun ls hl => ?_)
                            refine lv_goto (tgt := 81) hx hb dX3_evenOut_207 (by decide) ?_
                            exact ih81 w81_6_16 g99_54 g81_55 y46 v81_4 E99_ _ _ _ (iv_w i44 (by decide)) (iv_w iy46 (by decide)) hv81_4 (hx81_0.elim (fun q9 => by exfalso; omega) (fun q9 => Or.inr (q9.keep (by omega) (fun s9 h9 => rfl) (by rw [tn_ y46, tn_ v81_5]; omega)))) (by omega) (by first | exact ms_su hx81_2 ty46 (by decide) | omega) hI hKp hs99_6_16 hs99_6_15 hr99_52 hr99_53 hr99_54 hr99_55 hP hS (lv_sub hl [0, 4, 5, 6, 7, 8] rfl)
                          · --158 not
                            have t47 : r38.toInt ≤ w81_6_16.toInt := ti_nlt c42
                            refine lv_iload hx hb dX3_evenOut_161 (lv_at hl 0 rfl) ?_
                            refine lv_aload_n hx hb dX3_evenOut_163 rfl (lv_at hl 7 rfl) ?_
                            refine th_getL (ci := 4) (C := RX3) (T := TX3) (N := 18) (v := .int w81_6_16) hx hb hts hinX3 hown hK hP hI 6 (mF 6 rfl) rfl rfl 16 (Nat.le_of_ble_eq_true rfl) (hts _ (vA_in _ _ (in_13 _ (zs4 (zs4 (zs0)))))) (fun _ h9 => h9) hs99_6_16 dX3_evenOut_164 ?_
                            refine lv_icmp_ne (tgt := 180) hx hb dX3_evenOut_167 (by decide) (fun c48 => ?_) (fun c48 => ?_)
                            · --167 taken
                              have t49 : ¬ r38.toInt = w81_6_16.toInt := ti_ne c48
                              refine lv_aload_n hx hb dX3_evenOut_180 rfl (lv_at hl 7 rfl) ?_
                              refine lv_iload hx hb dX3_evenOut_181 (lv_at hl 0 rfl) ?_
                              refine th_putL (ci := 4) (C := RX3) (T := TX3) (N := 18) (v := .int r38) (ty := .int) hx hb hts hinX3 tyX3 tyX3_ok nmX3 hown hK hP (WL_D hD) hS hI 6 (mF 6 rfl) rfl rfl 16 (Nat.le_of_ble_eq_true rfl) (hts _ (vA_in _ _ (in_13 _ (zs4 (zs4 (zs0)))))) (fun _ h9 => h9) rfl (by decide +kernel) rfl rfl (okI rfl (iv_w f39 (by decide))) dX3_evenOut_183 (fun H locs E50 pw51 hI hP hS => ?_)
                              have hKp := hKp.pw pw51 rfl
                              refine lv_iload hx hb dX3_evenOut_186 (lv_at hl 1 rfl) ?_
                              refine lv_istore (lv' := [(4, .int v99_7), (8, .int r38), (7, .int v99_7), (6, .int v99_6), (5, .int v81_5), (3, .int v52_3), (2, .int v4_2), (0, .ref (ad 6)), (1, .int a0)]) hx hb dX3_evenOut_188 hl (by decide) rfl (fun ls hl => ?_)
                              refine lv_aload_n hx hb dX3_evenOut_190 rfl (lv_at hl 7 rfl) ?_
                              refine th_getL (ci := 4) (C := RX3) (T := TX3) (N := 18) (v := .ref (ad 54)) hx hb hts hinX3 hown hK hP hI 6 (mF 6 rfl) rfl rfl 13 (Nat.le_of_ble_eq_true rfl) (hts _ (vA_in _ _ (in_13 _ (zs4 (zs4 (zs1 (zs0))))))) (fun _ h9 => h9) (hI.fr 6 (mF 6 rfl) rfl (Nat.le_of_ble_eq_true rfl) 54 rfl) dX3_evenOut_191 ?_
                              refine lv_iconst (v := 0) hx hb dX3_evenOut_194 (by decide) ?_
                              refine lv_aload_n hx hb dX3_evenOut_195 rfl (lv_at hl 7 rfl) ?_
                              refine th_getL (ci := 4) (C := RX3) (T := TX3) (N := 18) (v := .ref (ad 55)) hx hb hts hinX3 hown hK hP hI 6 (mF 6 rfl) rfl rfl 14 (Nat.le_of_ble_eq_true rfl) (hts _ (vA_in _ _ (in_13 _ (zs4 (zs4 (zs1 (zs1 (zs0)))))))) (fun _ h9 => h9) (hI.fr 6 (mF 6 rfl) rfl (Nat.le_of_ble_eq_true rfl) 55 rfl) dX3_evenOut_196 ?_
                              refine lv_iconst (v := 0) hx hb dX3_evenOut_199 (by decide) ?_
                              refine lv_iconst (v := 4) hx hb dX3_evenOut_200 (by decide) ?_
                              refine th_cpyL hx hb (by rw [hml]; exact hl.1.symm) hown (hts _ (vA_in _ _ (in_13 _ (zs4 (zs4 (zs1 (zs1 (zs1 (zs0))))))))) (hts _ (vA_in _ _ (in_2 _ (zs16 (zs4 (zs4 (zs4 (zs0)))))))) (hts _ (vA_in _ _ (in_2 _ (zs16 (zs4 (zs4 (zs4 (zs1 (zs0))))))))) (hts _ (vA_in _ _ (in_2 _ (zs16 (zs4 (zs4 (zs4 (zs1 (zs1 (zs0)))))))))) hK hP (WL_D hD) hS hI 54 (mF 54 rfl) rfl 55 (mF 55 rfl) rfl rfl (fun _ => rfl) (fun _ => rfl) (n := 4) (by decide) (by decide) (by decide) (Nat.le_of_ble_eq_true rfl) (Nat.le_of_ble_eq_true rfl) dX3_evenOut_201 (fun H locs E52 kq53 hcpy hI hP hS => ?_)
                              have hKp := hKp.tr kq53 (wl_sub rfl rfl)
                              obtain ⟨g54, hg54⟩ : ∃ g, xi (E52 55) = g := ⟨_, rfl⟩
                              have k55 : ∀ s9 : Nat, s9 < 4 → g54 s9 = g99_54 s9 := fun s9 h9 => by rw [← hg54, hcpy, show (4 : Int32).toNatClampNeg = 4 from rfl, cpy_nn h9]; exact congrFun (show xi (E50 54) = g99_54 from ((pw51.ef 54 (Nat.ne_of_beq_eq_false rfl)).trans hr99_54)) s9
                              obtain ⟨y56, ey56⟩ : ∃ y : Int32, y = v81_5 + (1 : Int32) := ⟨_, rfl⟩
                              obtain ⟨ty56, iy56⟩ := ti_add (e := 1) (f := 2401) i31 ln_1 ey56 (by decide)
                              have ty56 : y56.toInt = v81_5.toInt + 1 := ty56
                              have iy56 : 1 ≤ y56.toInt ∧ y56.toInt ≤ 2401 := iy56
                              refine lv_iinc (v := y56) (lv' := [(5, .int y56), (4, .int v99_7), (8, .int r38), (7, .int v99_7), (6, .int v99_6), (3, .int v52_3), (2, .int v4_2), (0, .ref (ad 6)), (1, .int a0)]) hx hb dX3_evenOut_204 hl (k := 4) rfl (by rw [ey56]; rfl) (by decide) rfl (fun ls hl => ?_)
                              refine lv_goto (tgt := 81) hx hb dX3_evenOut_207 (by decide) ?_
                              exact ih81 r38 g99_54 g54 y56 v99_7 E52 _ _ _ (iv_w f39 (by decide)) (iv_w iy56 (by decide)) (iv_w hv99_7 (by decide)) (Or.inr (BsK.new (hx81_0.elim (fun q9 => Or.inl q9.1) (fun q9 => Or.inr ⟨q9, by omega⟩)) (by omega) k37 (fun s9 h9 => (congrArg Int32.toInt (k55 s9 (by rw [tn_] at h9; omega))).trans (k36 s9 h9)) (by rw [tn_ y56, tn_ v81_5]; omega))) (by omega) (by first | exact ms_su hx81_2 ty56 (by decide) | omega) hI hKp ((kq53 6 16 rfl).trans pw51.1) ((kq53 6 15 rfl).trans ((pw51.2 6 15 (fun q9 => absurd q9.2 (Nat.ne_of_beq_eq_false rfl))).trans hs99_6_15)) ((kq53.ef 52 (fun _ => rfl)).trans ((pw51.ef 52 (Nat.ne_of_beq_eq_false rfl)).trans hr99_52)) ((kq53.ef 53 (fun _ => rfl)).trans ((pw51.ef 53 (Nat.ne_of_beq_eq_false rfl)).trans hr99_53)) ((kq53.ef 54 (fun _ => rfl)).trans ((pw51.ef 54 (Nat.ne_of_beq_eq_false rfl)).trans hr99_54)) hg54 hP hS (lv_sub hl [0, 1, 5, 6, 7, 8] rfl)
                            · --167 not
                              have t57 : r38.toInt = w81_6_16.toInt := ti_eq c48
                              have i58 : 0 ≤ w81_6_16.toInt ∧ w81_6_16.toInt ≤ 8012000 := iv_eqi t57.symm hw81_6_16 f39 (by decide)
                              refine lv_iload hx hb dX3_evenOut_170 (lv_at hl 1 rfl) ?_
                              refine lv_iload hx hb dX3_evenOut_172 (lv_at hl 4 rfl) ?_
                              refine lv_icmp_lt (tgt := 180) hx hb dX3_evenOut_174 (by decide) (fun c59 => ?_) (fun c59 => ?_)
                              · --174 taken
                                have t60 : v99_7.toInt < v81_4.toInt := ti_lt c59
                                have i61 : 1 ≤ v81_4.toInt ∧ v81_4.toInt ≤ 15 := iv_lt_r t60 hv99_7 hv81_4 (by decide)
                                refine lv_aload_n hx hb dX3_evenOut_180 rfl (lv_at hl 7 rfl) ?_
                                refine lv_iload hx hb dX3_evenOut_181 (lv_at hl 0 rfl) ?_
                                refine th_putL (ci := 4) (C := RX3) (T := TX3) (N := 18) (v := .int r38) (ty := .int) hx hb hts hinX3 tyX3 tyX3_ok nmX3 hown hK hP (WL_D hD) hS hI 6 (mF 6 rfl) rfl rfl 16 (Nat.le_of_ble_eq_true rfl) (hts _ (vA_in _ _ (in_13 _ (zs4 (zs4 (zs0)))))) (fun _ h9 => h9) rfl (by decide +kernel) rfl rfl (okI rfl (iv_w f39 (by decide))) dX3_evenOut_183 (fun H locs E62 pw63 hI hP hS => ?_)
                                have hKp := hKp.pw pw63 rfl
                                refine lv_iload hx hb dX3_evenOut_186 (lv_at hl 1 rfl) ?_
                                refine lv_istore (lv' := [(4, .int v99_7), (8, .int r38), (7, .int v99_7), (6, .int v99_6), (5, .int v81_5), (3, .int v52_3), (2, .int v4_2), (0, .ref (ad 6)), (1, .int a0)]) hx hb dX3_evenOut_188 hl (by decide) rfl (fun ls hl => ?_)
                                refine lv_aload_n hx hb dX3_evenOut_190 rfl (lv_at hl 7 rfl) ?_
                                refine th_getL (ci := 4) (C := RX3) (T := TX3) (N := 18) (v := .ref (ad 54)) hx hb hts hinX3 hown hK hP hI 6 (mF 6 rfl) rfl rfl 13 (Nat.le_of_ble_eq_true rfl) (hts _ (vA_in _ _ (in_13 _ (zs4 (zs4 (zs1 (zs0))))))) (fun _ h9 => h9) (hI.fr 6 (mF 6 rfl) rfl (Nat.le_of_ble_eq_true rfl) 54 rfl) dX3_evenOut_191 ?_
                                refine lv_iconst (v := 0) hx hb dX3_evenOut_194 (by decide) ?_
                                refine lv_aload_n hx hb dX3_evenOut_195 rfl (lv_at hl 7 rfl) ?_
                                refine th_getL (ci := 4) (C := RX3) (T := TX3) (N := 18) (v := .ref (ad 55)) hx hb hts hinX3 hown hK hP hI 6 (mF 6 rfl) rfl rfl 14 (Nat.le_of_ble_eq_true rfl) (hts _ (vA_in _ _ (in_13 _ (zs4 (zs4 (zs1 (zs1 (zs0)))))))) (fun _ h9 => h9) (hI.fr 6 (mF 6 rfl) rfl (Nat.le_of_ble_eq_true rfl) 55 rfl) dX3_evenOut_196 ?_
                                refine lv_iconst (v := 0) hx hb dX3_evenOut_199 (by decide) ?_
                                refine lv_iconst (v := 4) hx hb dX3_evenOut_200 (by decide) ?_
                                refine th_cpyL hx hb (by rw [hml]; exact hl.1.symm) hown (hts _ (vA_in _ _ (in_13 _ (zs4 (zs4 (zs1 (zs1 (zs1 (zs0))))))))) (hts _ (vA_in _ _ (in_2 _ (zs16 (zs4 (zs4 (zs4 (zs0)))))))) (hts _ (vA_in _ _ (in_2 _ (zs16 (zs4 (zs4 (zs4 (zs1 (zs0))))))))) (hts _ (vA_in _ _ (in_2 _ (zs16 (zs4 (zs4 (zs4 (zs1 (zs1 (zs0)))))))))) hK hP (WL_D hD) hS hI 54 (mF 54 rfl) rfl 55 (mF 55 rfl) rfl rfl (fun _ => rfl) (fun _ => rfl) (n := 4) (by decide) (by decide) (by decide) (Nat.le_of_ble_eq_true rfl) (Nat.le_of_ble_eq_true rfl) dX3_evenOut_201 (fun H locs E64 kq65 hcpy hI hP hS => ?_)
                                have hKp := hKp.tr kq65 (wl_sub rfl rfl)
                                obtain ⟨g66, hg66⟩ : ∃ g, xi (E64 55) = g := ⟨_, rfl⟩
                                have k67 : ∀ s9 : Nat, s9 < 4 → g66 s9 = g99_54 s9 := fun s9 h9 => by rw [← hg66, hcpy, show (4 : Int32).toNatClampNeg = 4 from rfl, cpy_nn h9]; exact congrFun (show xi (E62 54) = g99_54 from ((pw63.ef 54 (Nat.ne_of_beq_eq_false rfl)).trans hr99_54)) s9
                                obtain ⟨y68, ey68⟩ : ∃ y : Int32, y = v81_5 + (1 : Int32) := ⟨_, rfl⟩
                                obtain ⟨ty68, iy68⟩ := ti_add (e := 1) (f := 2401) i31 ln_1 ey68 (by decide)
                                have ty68 : y68.toInt = v81_5.toInt + 1 := ty68
                                have iy68 : 1 ≤ y68.toInt ∧ y68.toInt ≤ 2401 := iy68
                                refine lv_iinc (v := y68) (lv' := [(5, .int y68), (4, .int v99_7), (8, .int r38), (7, .int v99_7), (6, .int v99_6), (3, .int v52_3), (2, .int v4_2), (0, .ref (ad 6)), (1, .int a0)]) hx hb dX3_evenOut_204 hl (k := 4) rfl (by rw [ey68]; rfl) (by decide) rfl (fun ls hl => ?_)
                                refine lv_goto (tgt := 81) hx hb dX3_evenOut_207 (by decide) ?_
                                exact ih81 r38 g99_54 g66 y68 v99_7 E64 _ _ _ (iv_w f39 (by decide)) (iv_w iy68 (by decide)) (iv_w hv99_7 (by decide)) (Or.inr (BsK.new (hx81_0.elim (fun q9 => Or.inl q9.1) (fun q9 => Or.inr ⟨q9, by omega⟩)) (by omega) k37 (fun s9 h9 => (congrArg Int32.toInt (k67 s9 (by rw [tn_] at h9; omega))).trans (k36 s9 h9)) (by rw [tn_ y68, tn_ v81_5]; omega))) (by omega) (by first | exact ms_su hx81_2 ty68 (by decide) | omega) hI hKp ((kq65 6 16 rfl).trans pw63.1) ((kq65 6 15 rfl).trans ((pw63.2 6 15 (fun q9 => absurd q9.2 (Nat.ne_of_beq_eq_false rfl))).trans hs99_6_15)) ((kq65.ef 52 (fun _ => rfl)).trans ((pw63.ef 52 (Nat.ne_of_beq_eq_false rfl)).trans hr99_52)) ((kq65.ef 53 (fun _ => rfl)).trans ((pw63.ef 53 (Nat.ne_of_beq_eq_false rfl)).trans hr99_53)) ((kq65.ef 54 (fun _ => rfl)).trans ((pw63.ef 54 (Nat.ne_of_beq_eq_false rfl)).trans hr99_54)) hg66 hP hS (lv_sub hl [0, 1, 5, 6, 7, 8] rfl)
                              · --174 not
                                have t69 : v81_4.toInt ≤ v99_7.toInt := ti_nlt c59
                                have i70 : 0 ≤ v81_4.toInt ∧ v81_4.toInt ≤ 12 := iv_le_l t69 hv81_4 hv99_7 (by decide)
                                refine lv_goto (tgt := 204) hx hb dX3_evenOut_177 (by decide) ?_
                                obtain ⟨y71, ey71⟩ : ∃ y : Int32, y = v81_5 + (1 : Int32) := ⟨_, rfl⟩
                                obtain ⟨ty71, iy71⟩ := ti_add (e := 1) (f := 2401) i31 ln_1 ey71 (by decide)
                                have ty71 : y71.toInt = v81_5.toInt + 1 := ty71
                                have iy71 : 1 ≤ y71.toInt ∧ y71.toInt ≤ 2401 := iy71
                                refine lv_iinc (v := y71) (lv' := [(5, .int y71), (8, .int r38), (7, .int v99_7), (6, .int v99_6), (4, .int v81_4), (3, .int v52_3), (2, .int v4_2), (0, .ref (ad 6)), (1, .int a0)]) hx hb dX3_evenOut_204 hl (k := 3) rfl (by rw [ey71]; rfl) (by decide) rfl (fun ls hl => ?_)
                                refine lv_goto (tgt := 81) hx hb dX3_evenOut_207 (by decide) ?_
                                exact ih81 w81_6_16 g99_54 g81_55 y71 v81_4 E99_ _ _ _ (iv_w i58 (by decide)) (iv_w iy71 (by decide)) (iv_w i70 (by decide)) (hx81_0.elim (fun q9 => by exfalso; omega) (fun q9 => Or.inr (q9.keep (by omega) (fun s9 h9 => rfl) (by rw [tn_ y71, tn_ v81_5]; omega)))) (by omega) (by first | exact ms_su hx81_2 ty71 (by decide) | omega) hI hKp hs99_6_16 hs99_6_15 hr99_52 hr99_53 hr99_54 hr99_55 hP hS (lv_sub hl [0, 4, 5, 6, 7, 8] rfl)
                        · --101 not
                          have t72 : (0 : Int) ≤ v99_8.toInt := ti_nlt c33
                          have i73 : 0 ≤ v99_8.toInt ∧ v99_8.toInt ≤ 3 := iv_le_r t72 (il_ 0) hv99_8 (by decide)
                          have i74 : 0 ≤ v99_7.toInt ∧ v99_7.toInt ≤ 9 := by omega
                          refine lv_aload_n hx hb dX3_evenOut_104 rfl (lv_at hl 7 rfl) ?_
                          refine th_getL (ci := 4) (C := RX3) (T := TX3) (N := 18) (v := .ref (ad 54)) hx hb hts hinX3 hown hK hP hI 6 (mF 6 rfl) rfl rfl 13 (Nat.le_of_ble_eq_true rfl) (hts _ (vA_in _ _ (in_13 _ (zs4 (zs4 (zs1 (zs0))))))) (fun _ h9 => h9) (hI.fr 6 (mF 6 rfl) rfl (Nat.le_of_ble_eq_true rfl) 54 rfl) dX3_evenOut_105 ?_
                          refine lv_iload hx hb dX3_evenOut_108 (lv_at hl 0 rfl) ?_
                          refine lv_iload hx hb dX3_evenOut_110 (lv_at hl 2 rfl) ?_
                          refine lv_bipush (v := 7) hx hb dX3_evenOut_112 (by decide) ?_
                          refine lv_irem hx hb dX3_evenOut_114 (by decide) ?_
                          refine lv_topi (fun y75 ey75 => ?_)
                          obtain ⟨ty75, iy75⟩ := ti_irem (e := 0) (f := 6) hv99_6 ln_7 ey75 (by decide)
                          have iy75 : 0 ≤ y75.toInt ∧ y75.toInt ≤ 6 := iy75
                          have n76 : vp_in v99_8 4 := (iv_in (n := 4) i73 (by decide))
                          refine th_iastL hx hb hK hP (WL_D hD) hS hI 54 (mF 54 rfl) rfl rfl n76 (okI rfl iy75) dX3_evenOut_115 (fun H locs E77 pw78 hI hP hS => ?_)
                          have hKp := hKp.pw pw78 rfl
                          obtain ⟨g79, eg79⟩ : ∃ z : Nat → Int32, z = upd g99_54 v99_8.toNatClampNeg y75 := ⟨_, rfl⟩
                          have hg79 : xi (E77 54) = g79 := by rw [pw78.eu, hr99_54, eg79]
                          refine lv_iload hx hb dX3_evenOut_116 (lv_at hl 2 rfl) ?_
                          refine lv_bipush (v := 7) hx hb dX3_evenOut_118 (by decide) ?_
                          refine lv_idiv hx hb dX3_evenOut_120 (by decide) ?_
                          refine lv_topi (fun y80 ey80 => ?_)
                          obtain ⟨ty80, iy80⟩ := ti_div (e := 0) (f := 342) hv99_6 ln_7 ey80 (by decide)
                          have iy80 : 0 ≤ y80.toInt ∧ y80.toInt ≤ 342 := iy80
                          refine lv_istore (lv' := [(6, .int y80), (8, .int v99_8), (7, .int v99_7), (5, .int v81_5), (4, .int v81_4), (3, .int v52_3), (2, .int v4_2), (0, .ref (ad 6)), (1, .int a0)]) hx hb dX3_evenOut_121 hl (by decide) rfl (fun ls hl => ?_)
                          refine lv_iload hx hb dX3_evenOut_123 (lv_at hl 2 rfl) ?_
                          refine lv_aload_n hx hb dX3_evenOut_125 rfl (lv_at hl 7 rfl) ?_
                          refine th_getL (ci := 4) (C := RX3) (T := TX3) (N := 18) (v := .ref (ad 54)) hx hb hts hinX3 hown hK hP hI 6 (mF 6 rfl) rfl rfl 13 (Nat.le_of_ble_eq_true rfl) (hts _ (vA_in _ _ (in_13 _ (zs4 (zs4 (zs1 (zs0))))))) (fun _ h9 => h9) (hI.fr 6 (mF 6 rfl) rfl (Nat.le_of_ble_eq_true rfl) 54 rfl) dX3_evenOut_126 ?_
                          refine lv_iload hx hb dX3_evenOut_129 (lv_at hl 1 rfl) ?_
                          have n82 : vp_in v99_8 4 := (iv_in (n := 4) i73 (by decide))
                          refine th_ialdL hx hb hK hP hI 54 (mF 54 rfl) rfl rfl n82 dX3_evenOut_131 (fun y81 ey81 => ?_)
                          have iy81 : 0 ≤ y81.toInt ∧ y81.toInt ≤ 6 := hI.el 54 (mF 54 rfl) rfl n82 (fun _ => rfl) ey81
                          have ey81 := ey81.trans (congrFun hg79 _)
                          refine lv_iconst (v := 3) hx hb dX3_evenOut_132 (by decide) ?_
                          refine th_pi (va_runSN (As := [.int y81, .int 3]) (rest := [.int v99_7]) ⟨hx, hb, hml, hown, hts⟩ (q_capartB l y81 (3 : Int32) (iv_w iy81 (by decide)) (iv_w ln_3 (by decide))) ⟨va_cnB 2 hts (gi_0 (in_10 _ (zs4 (zs4 (zs4 (zs1 (zs1 (zs1 (zs0))))))))) rfl rfl rfl (hEV.1.1 _ (List.mem_of_getElem? (i := 6) rfl)) (hts _ (vA_in _ _ (in_4 _ (zs16 (zs4 (zs1 (zs1 (zs1 (zs0))))))))) hz_yX12_apart_2 ⟨Nat.le_of_ble_eq_true rfl, Nat.le_of_ble_eq_true rfl⟩, (hts _ (vA_in _ _ (in_13 _ (zs16 (zs4 (zs4 (zs1 (zs0)))))))), trivial⟩ ⟨fun _ _ _ _ q => q, fun _ _ _ => ⟨rfl, trivial⟩⟩ rfl rfl hl.1 rfl (lv_room (Nat.le_of_ble_eq_true rfl)) dX3_evenOut_133 ⟨Nat.le_of_ble_eq_true rfl, Nat.le_of_ble_eq_true rfl⟩) hS (fun r83 H1 locs1 hw hk1 hS => ?_)
                          have hP := ub_keep hP hk1
                          generalize H1 = H at hP hS ⊢
                          generalize locs1 = locs at hS ⊢
                          have f84 := hw
                          have k85 : r83.toInt = ab (y75.toInt - 3) := by have h9 := f84; rw [show (3 : Int32).toInt = 3 from rfl] at h9; rw [h9, ey81, eg79, upd_i]
                          have i86 : 0 ≤ r83.toInt ∧ r83.toInt ≤ 3 := by have h9 := k85; have h8 := iy75; unfold ab at h9; exact dite (0 ≤ y75.toInt - 3) (fun q6 => by rw [if_pos q6] at h9; omega) (fun q6 => by rw [if_neg q6] at h9; omega)
                          refine lv_iadd hx hb dX3_evenOut_136 ?_
                          refine lv_topi (fun y87 ey87 => ?_)
                          obtain ⟨ty87, iy87⟩ := ti_add (e := 0) (f := 12) i74 i86 ey87 (by decide)
                          have ty87 : y87.toInt = v99_7.toInt + r83.toInt := ty87
                          have iy87 : 0 ≤ y87.toInt ∧ y87.toInt ≤ 12 := iy87
                          refine lv_istore (lv' := [(7, .int y87), (6, .int y80), (8, .int v99_8), (5, .int v81_5), (4, .int v81_4), (3, .int v52_3), (2, .int v4_2), (0, .ref (ad 6)), (1, .int a0)]) hx hb dX3_evenOut_137 hl (by decide) rfl (fun ls hl => ?_)
                          have k88 := ev_st (S' := v99_8.toNatClampNeg) (X := v99_8.toNatClampNeg) (l' := y80) (s' := y87) (t := r83) hx99_0 hx99_1 hx99_2 (by rw [tn_]; omega) rfl (by rw [tn_]; omega) (by omega) (show y75.toInt = v99_6.toInt % 7 by have q7 := ty75; rw [show (7 : Int32).toInt = 7 from rfl] at q7; exact q7) (show y80.toInt = v99_6.toInt / 7 by have q7 := ty80; rw [show (7 : Int32).toInt = 7 from rfl] at q7; exact q7) eg79 k85 (by omega)
                          obtain ⟨y89, ey89⟩ : ∃ y : Int32, y = v99_8 + (-1 : Int32) := ⟨_, rfl⟩
                          obtain ⟨ty89, iy89⟩ := ti_add (e := (-1)) (f := 2) i73 ln_m1 ey89 (by decide)
                          have ty89 : y89.toInt = v99_8.toInt + (-1) := ty89
                          have iy89 : -1 ≤ y89.toInt ∧ y89.toInt ≤ 2 := iy89
                          refine lv_iinc (v := y89) (lv' := [(8, .int y89), (7, .int y87), (6, .int y80), (5, .int v81_5), (4, .int v81_4), (3, .int v52_3), (2, .int v4_2), (0, .ref (ad 6)), (1, .int a0)]) hx hb dX3_evenOut_139 hl (k := 2) rfl (by rw [ey89]; rfl) (by decide) rfl (fun ls hl => ?_)
                          refine lv_goto (tgt := 99) hx hb dX3_evenOut_142 (by decide) ?_
                          exact ih99 g79 y89 y87 y80 E77 _ _ _ (iv_w iy89 (by decide)) iy87 (iv_w iy80 (by decide)) (by rw [show (y89.toInt + 1).toNat = v99_8.toNatClampNeg by rw [tn_]; omega]; exact k88.1) (by rw [show (y89.toInt + 1).toNat = v99_8.toNatClampNeg by rw [tn_]; omega]; exact k88.2.1) (by rw [show (y89.toInt + 1).toNat = v99_8.toNatClampNeg by rw [tn_]; omega]; exact k88.2.2) (by omega) (by omega) (by first | exact ms_sd hx99_5 ty89 (by decide) | exact ms_sd2 hx99_5 ty89 | omega) hI hKp ((pw78.2 6 16 (fun q9 => absurd q9.1 (Nat.ne_of_beq_eq_false rfl))).trans hs99_6_16) ((pw78.2 6 15 (fun q9 => absurd q9.1 (Nat.ne_of_beq_eq_false rfl))).trans hs99_6_15) ((pw78.ef 52 (Nat.ne_of_beq_eq_false rfl)).trans hr99_52) ((pw78.ef 53 (Nat.ne_of_beq_eq_false rfl)).trans hr99_53) hg79 ((pw78.ef 55 (Nat.ne_of_beq_eq_false rfl)).trans hr99_55) hP hS (lv_sub hl [0, 1, 2, 3, 4, 5, 6, 7, 8] rfl)
                    exact hL99 (5) g81_54 y32 (0 : Int32) v81_5 E81_ _ _ _ (iv_w iy32 (by decide)) (iv_w ln_0 (by decide)) i31 (by rw [show (y32.toInt + 1).toNat = v4_2.toNatClampNeg by rw [tn_]; omega, Nat.sub_self]; exact (Nat.div_one _).symm) (fun j9 h8 h9 => by exfalso; rw [show (y32.toInt + 1).toNat = v4_2.toNatClampNeg by rw [tn_]; omega] at h8; omega) (by rw [show (y32.toInt + 1).toNat = v4_2.toNatClampNeg by rw [tn_]; omega]; show (0 : Int32).toInt + smF v4_2.toNatClampNeg v81_5.toNatClampNeg = smF v4_2.toNatClampNeg v81_5.toNatClampNeg; have z9 := ln_0; omega) (by omega) (by have z9 := ln_0; omega) (by have h9 := iy32; first | exact ms_bd h9.2 (by decide) | omega) hI hKp hs81_6_16 hs81_6_15 hr81_52 hr81_53 hr81_54 hr81_55 hP hS (lv_sub hl [0, 1, 2, 3, 4, 5, 6, 7, 8] rfl)
              exact hL81 (2402) (2147483647 : Int32) g3 g4 (0 : Int32) (0 : Int32) E25 _ _ _ (iv_w ln_2147483647 (by decide)) (iv_w ln_0 (by decide)) (iv_w ln_0 (by decide)) (Or.inl ⟨rfl, rfl⟩) (by have z9 := ln_0; omega) (by have h9 := ln_0; first | exact ms_bu h9.1 (by decide) | omega) hI hKp pw26.1 ((pw26.2 6 15 (fun q9 => absurd q9.2 (Nat.ne_of_beq_eq_false rfl))).trans fy17) ((pw26.ef 52 (Nat.ne_of_beq_eq_false rfl)).trans hg16) ((pw26.ef 53 (Nat.ne_of_beq_eq_false rfl)).trans ((kq14.ef 53 (fun _ => rfl)).trans hr4_53)) ((pw26.ef 54 (Nat.ne_of_beq_eq_false rfl)).trans ((kq14.ef 54 (fun _ => rfl)).trans hr4_54)) ((pw26.ef 55 (Nat.ne_of_beq_eq_false rfl)).trans ((kq14.ef 55 (fun _ => rfl)).trans hr4_55)) hP hS (lv_sub hl [0, 1, 2, 3, 4, 5] rfl)
            · --55 not
              have t90 : v52_4.toInt < v4_2.toInt := ti_nle c21
              have i91 : 0 ≤ v52_4.toInt ∧ v52_4.toInt ≤ 3 := iv_lt_l t90 hv52_4 i10 (by decide)
              have i92 : 1 ≤ v52_3.toInt ∧ v52_3.toInt ≤ 343 := by have h9 := p7_le v52_4.toNatClampNeg (by rw [tn_]; omega); have h8 := h9.2.2 (by rw [tn_]; omega); omega
              refine lv_iload_n hx hb dX3_evenOut_58 rfl (lv_at hl 1 rfl) ?_
              refine lv_bipush (v := 7) hx hb dX3_evenOut_59 (by decide) ?_
              refine lv_imul hx hb dX3_evenOut_61 ?_
              refine lv_topi (fun y93 ey93 => ?_)
              obtain ⟨ty93, iy93⟩ := ti_mul (e := 7) (f := 2401) i92 ln_7 ey93 (by decide)
              have ty93 : y93.toInt = v52_3.toInt * 7 := ty93
              have iy93 : 7 ≤ y93.toInt ∧ y93.toInt ≤ 2401 := iy93
              refine lv_istore_n (lv' := [(3, .int y93), (4, .int v52_4), (2, .int v4_2), (0, .ref (ad 6)), (1, .int a0)]) hx hb dX3_evenOut_62 rfl hl (by decide) rfl (fun ls hl => ?_)
              obtain ⟨y94, ey94⟩ : ∃ y : Int32, y = v52_4 + (1 : Int32) := ⟨_, rfl⟩
              obtain ⟨ty94, iy94⟩ := ti_add (e := 1) (f := 4) i91 ln_1 ey94 (by decide)
              have ty94 : y94.toInt = v52_4.toInt + 1 := ty94
              have iy94 : 1 ≤ y94.toInt ∧ y94.toInt ≤ 4 := iy94
              refine lv_iinc (v := y94) (lv' := [(4, .int y94), (3, .int y93), (2, .int v4_2), (0, .ref (ad 6)), (1, .int a0)]) hx hb dX3_evenOut_63 hl (k := 1) rfl (by rw [ey94]; rfl) (by decide) rfl (fun ls hl => ?_)
              refine lv_goto (tgt := 52) hx hb dX3_evenOut_66 (by decide) ?_
              exact ih52 y94 y93 _ _ _ (iv_w iy94 (by decide)) (iv_w iy93 (by decide)) (by rw [show y94.toNatClampNeg = v52_4.toNatClampNeg + 1 by rw [tn_ y94, tn_ v52_4]; omega]; show y93.toInt = ((7 * p7 v52_4.toNatClampNeg : Nat) : Int); have q7 := ty93; omega) (by omega) (by first | exact ms_su hx52_2 ty94 (by decide) | omega) hP hS (lv_sub hl [0, 1, 2, 3, 4] rfl)
        exact hL52 (5) (0 : Int32) (1 : Int32) _ _ _ (iv_w ln_0 (by decide)) (iv_w ln_1 (by decide)) (show (1 : Int32).toInt = ((p7 0 : Nat) : Int) from rfl) (by have z9 := ln_0; omega) (by have h9 := ln_0; first | exact ms_bu h9.1 (by decide) | omega) hP hS (lv_sub hl [0, 1, 2, 3, 4] rfl)
      · --7 not
        have t95 : v4_3.toInt < 16 := ti_nle c5
        have i96 : 0 ≤ v4_3.toInt ∧ v4_3.toInt ≤ 15 := iv_lt_l t95 hv4_3 (il_ 16) (by decide)
        refine lv_iload_n hx hb dX3_evenOut_10 rfl (lv_at hl 3 rfl) ?_
        refine lv_iload_n hx hb dX3_evenOut_11 rfl (lv_at hl 0 rfl) ?_
        refine lv_ishr hx hb dX3_evenOut_12 ?_
        refine lv_topi (fun y97 ey97 => ?_)
        refine lv_iconst (v := 1) hx hb dX3_evenOut_13 (by decide) ?_
        refine lv_iand hx hb dX3_evenOut_14 ?_
        refine lv_topi (fun y98 ey98 => ?_)
        have iy98 : 0 ≤ y98.toInt ∧ y98.toInt ≤ 1 := ti_and (by decide) ey98
        refine lv_if_eq (tgt := 36) hx hb dX3_evenOut_15 (by decide) (fun c99 => ?_) (fun c99 => ?_)
        · --15 taken
          have t100 : y98.toInt = 0 := ti_eq c99
          have i101 : 0 ≤ y98.toInt ∧ y98.toInt ≤ 0 := iv_eqi t100 iy98 (il_ 0) (by decide)
          have k102 := bit_at (a := a0) (v := v4_3) (by omega) (by omega) ey97 ey98
          have k103 : a0.toNatClampNeg / 2 ^ v4_3.toNatClampNeg % 2 < 2 := Nat.mod_lt _ (by decide)
          have k104 : a0.toNatClampNeg / 2 ^ v4_3.toNatClampNeg % 2 = 0 := (nI01 k103).mp (by rw [← k102]; exact c99)
          have k105 : v4_2.toNatClampNeg = pcS a0.toNatClampNeg v4_3.toNatClampNeg := (EvL.num _ _ _ hx4_0).1
          have k106 : pcS a0.toNatClampNeg v4_3.toNatClampNeg + a0.toNatClampNeg / 2 ^ v4_3.toNatClampNeg % 2 ≤ pcS a0.toNatClampNeg 16 := pcS_mono a0.toNatClampNeg (show v4_3.toNatClampNeg + 1 ≤ 16 by rw [tn_]; omega)
          obtain ⟨y107, ey107⟩ : ∃ y : Int32, y = v4_3 + (1 : Int32) := ⟨_, rfl⟩
          obtain ⟨ty107, iy107⟩ := ti_add (e := 1) (f := 16) i96 ln_1 ey107 (by decide)
          have ty107 : y107.toInt = v4_3.toInt + 1 := ty107
          have iy107 : 1 ≤ y107.toInt ∧ y107.toInt ≤ 16 := iy107
          refine lv_iinc (v := y107) (lv' := [(3, .int y107), (2, .int v4_2), (0, .ref (ad 6)), (1, .int a0)]) hx hb dX3_evenOut_36 hl (k := 0) rfl (by rw [ey107]; rfl) (by decide) rfl (fun ls hl => ?_)
          refine lv_goto (tgt := 4) hx hb dX3_evenOut_39 (by decide) ?_
          exact ih4 g4_53 y107 v4_2 E4_ _ _ _ (iv_w iy107 (by decide)) hv4_2 (hx4_0.no k104 (by rw [tn_ y107, tn_ v4_3]; omega)) (by omega) (by first | exact ms_su hx4_2 ty107 (by decide) | omega) hI hKp hr4_52 hr4_53 hr4_54 hr4_55 hP hS (lv_sub hl [0, 1, 2, 3] rfl)
        · --15 not
          have t108 : ¬ y98.toInt = 0 := ti_ne c99
          have i109 : 1 ≤ y98.toInt ∧ y98.toInt ≤ 1 := iv_ne_l t108 iy98 (il_ 0)
          refine lv_iload_n hx hb dX3_evenOut_18 rfl (lv_at hl 1 rfl) ?_
          refine lv_iconst (v := 4) hx hb dX3_evenOut_19 (by decide) ?_
          refine lv_icmp_lt (tgt := 26) hx hb dX3_evenOut_20 (by decide) (fun c110 => ?_) (fun c110 => ?_)
          · --20 taken
            have t111 : v4_2.toInt < 4 := ti_lt c110
            have i112 : 0 ≤ v4_2.toInt ∧ v4_2.toInt ≤ 3 := iv_lt_l t111 hv4_2 (il_ 4) (by decide)
            refine lv_aload_n hx hb dX3_evenOut_26 rfl (lv_at hl 2 rfl) ?_
            refine th_getL (ci := 4) (C := RX3) (T := TX3) (N := 18) (v := .ref (ad 53)) hx hb hts hinX3 hown hK hP hI 6 (mF 6 rfl) rfl rfl 12 (Nat.le_of_ble_eq_true rfl) (hts _ (vA_in _ _ (in_13 _ (zs4 (zs1 (zs1 (zs0))))))) (fun _ h9 => h9) (hI.fr 6 (mF 6 rfl) rfl (Nat.le_of_ble_eq_true rfl) 53 rfl) dX3_evenOut_27 ?_
            refine lv_iload_n hx hb dX3_evenOut_30 rfl (lv_at hl 1 rfl) ?_
            refine lv_iload_n hx hb dX3_evenOut_31 rfl (lv_at hl 0 rfl) ?_
            have n113 : vp_in v4_2 4 := (iv_in (n := 4) i112 (by decide))
            refine th_iastL hx hb hK hP (WL_D hD) hS hI 53 (mF 53 rfl) rfl rfl n113 (okI rfl i96) dX3_evenOut_32 (fun H locs E114 pw115 hI hP hS => ?_)
            have hKp := hKp.pw pw115 rfl
            obtain ⟨g116, eg116⟩ : ∃ z : Nat → Int32, z = upd g4_53 v4_2.toNatClampNeg v4_3 := ⟨_, rfl⟩
            have hg116 : xi (E114 53) = g116 := by rw [pw115.eu, hr4_53, eg116]
            obtain ⟨y117, ey117⟩ : ∃ y : Int32, y = v4_2 + (1 : Int32) := ⟨_, rfl⟩
            obtain ⟨ty117, iy117⟩ := ti_add (e := 1) (f := 4) i112 ln_1 ey117 (by decide)
            have ty117 : y117.toInt = v4_2.toInt + 1 := ty117
            have iy117 : 1 ≤ y117.toInt ∧ y117.toInt ≤ 4 := iy117
            refine lv_iinc (v := y117) (lv' := [(2, .int y117), (3, .int v4_3), (0, .ref (ad 6)), (1, .int a0)]) hx hb dX3_evenOut_33 hl (k := 1) rfl (by rw [ey117]; rfl) (by decide) rfl (fun ls hl => ?_)
            have k118 := bit_at (a := a0) (v := v4_3) (by omega) (by omega) ey97 ey98
            have k119 : a0.toNatClampNeg / 2 ^ v4_3.toNatClampNeg % 2 < 2 := Nat.mod_lt _ (by decide)
            have k120 : ¬ a0.toNatClampNeg / 2 ^ v4_3.toNatClampNeg % 2 = 0 := fun h9 => c99 (by rw [k118]; exact (nI01 k119).mpr h9)
            have k121 : v4_2.toNatClampNeg = pcS a0.toNatClampNeg v4_3.toNatClampNeg := (EvL.num _ _ _ hx4_0).1
            have k122 : pcS a0.toNatClampNeg v4_3.toNatClampNeg + a0.toNatClampNeg / 2 ^ v4_3.toNatClampNeg % 2 ≤ pcS a0.toNatClampNeg 16 := pcS_mono a0.toNatClampNeg (show v4_3.toNatClampNeg + 1 ≤ 16 by rw [tn_]; omega)
            obtain ⟨y123, ey123⟩ : ∃ y : Int32, y = v4_3 + (1 : Int32) := ⟨_, rfl⟩
            obtain ⟨ty123, iy123⟩ := ti_add (e := 1) (f := 16) i96 ln_1 ey123 (by decide)
            have ty123 : y123.toInt = v4_3.toInt + 1 := ty123
            have iy123 : 1 ≤ y123.toInt ∧ y123.toInt ≤ 16 := iy123
            refine lv_iinc (v := y123) (lv' := [(3, .int y123), (2, .int y117), (0, .ref (ad 6)), (1, .int a0)]) hx hb dX3_evenOut_36 hl (k := 1) rfl (by rw [ey123]; rfl) (by decide) rfl (fun ls hl => ?_)
            refine lv_goto (tgt := 4) hx hb dX3_evenOut_39 (by decide) ?_
            exact ih4 g116 y123 y117 E114 _ _ _ (iv_w iy123 (by decide)) (iv_w iy117 (by decide)) (hx4_0.yes k120 eg116 rfl (by rw [tn_]; omega) (by rw [tn_ y117, tn_ v4_2]; omega) (by rw [tn_ y123, tn_ v4_3]; omega)) (by omega) (by first | exact ms_su hx4_2 ty123 (by decide) | omega) hI hKp ((pw115.ef 52 (Nat.ne_of_beq_eq_false rfl)).trans hr4_52) hg116 ((pw115.ef 54 (Nat.ne_of_beq_eq_false rfl)).trans hr4_54) ((pw115.ef 55 (Nat.ne_of_beq_eq_false rfl)).trans hr4_55) hP hS (lv_sub hl [0, 1, 2, 3] rfl)
          · --20 not
            have t124 : (4 : Int) ≤ v4_2.toInt := ti_nlt c110
            have i125 : 4 ≤ v4_2.toInt ∧ v4_2.toInt ≤ 4 := iv_le_r t124 (il_ 4) hv4_2 (by decide)
            refine lv_goto (tgt := 36) hx hb dX3_evenOut_23 (by decide) ?_
            have k126 := bit_at (a := a0) (v := v4_3) (by omega) (by omega) ey97 ey98
            have k127 : a0.toNatClampNeg / 2 ^ v4_3.toNatClampNeg % 2 < 2 := Nat.mod_lt _ (by decide)
            have k128 : ¬ a0.toNatClampNeg / 2 ^ v4_3.toNatClampNeg % 2 = 0 := fun h9 => c99 (by rw [k126]; exact (nI01 k127).mpr h9)
            have k129 : v4_2.toNatClampNeg = pcS a0.toNatClampNeg v4_3.toNatClampNeg := (EvL.num _ _ _ hx4_0).1
            have k130 : pcS a0.toNatClampNeg v4_3.toNatClampNeg + a0.toNatClampNeg / 2 ^ v4_3.toNatClampNeg % 2 ≤ pcS a0.toNatClampNeg 16 := pcS_mono a0.toNatClampNeg (show v4_3.toNatClampNeg + 1 ≤ 16 by rw [tn_]; omega)
            obtain ⟨y131, ey131⟩ : ∃ y : Int32, y = v4_3 + (1 : Int32) := ⟨_, rfl⟩
            obtain ⟨ty131, iy131⟩ := ti_add (e := 1) (f := 16) i96 ln_1 ey131 (by decide)
            have ty131 : y131.toInt = v4_3.toInt + 1 := ty131
            have iy131 : 1 ≤ y131.toInt ∧ y131.toInt ≤ 16 := iy131
            refine lv_iinc (v := y131) (lv' := [(3, .int y131), (2, .int v4_2), (0, .ref (ad 6)), (1, .int a0)]) hx hb dX3_evenOut_36 hl (k := 0) rfl (by rw [ey131]; rfl) (by decide) rfl (fun ls hl => ?_)
            refine lv_goto (tgt := 4) hx hb dX3_evenOut_39 (by decide) ?_
            exact ih4 g4_53 y131 v4_2 E4_ _ _ _ (iv_w iy131 (by decide)) (iv_w i125 (by decide)) (by exfalso; have z9 := k129; have z8 := k130; have z7 := k128; rw [tn_ v4_2] at z9; omega) (by omega) (by first | exact ms_su hx4_2 ty131 (by decide) | omega) hI hKp hr4_52 hr4_53 hr4_54 hr4_55 hP hS (lv_sub hl [0, 1, 2, 3] rfl)
  exact hL4 (17) g2 (0 : Int32) (0 : Int32) E _ _ _ (iv_w ln_0 (by decide)) (iv_w ln_0 (by decide)) (show EvL _ 0 0 _ from rfl) (by have z9 := ln_0; omega) (by have h9 := ln_0; first | exact ms_bu h9.1 (by decide) | omega) hI hKp hg1 hg2 hg3 hg4 hP hS (lv_sub hl [0, 1, 2, 3] rfl)
def v_bestChangeOfX : List Cond := .code yX3_bestChangeOf cX3_bestChangeOf 3 (some .int) :: vA
abbrev rm_bestChangeOfX : Room := { frames := 0, cells := 0, slots := 0, locals := 0 }
set_option maxHeartbeats 4000000 in
set_option maxRecDepth 100000 in
theorem q_bestChangeOfX (l : Launch) (dC : Nat → ClassId) (dI : Nat → Nat → Nat) (cT : Nat → ClassId) (cf : Nat → Nat) (hC : CF cf) (ad : Nat → Nat) (E : Nat → va_E) (sz : Nat) (a0 : Int32) (hI0 : IXL cT (shC cf) (spC cf) (LC cf) ad E)  : Met l yX3_bestChangeOf v_bestChangeOfX rm_bestChangeOfX (va_Pc [.ref (ad 6), .int a0] (HWL dC dI (TYC cT) cf ad E sz)) (va_Qi (S := Unit) (fun r _ => ((∃ s9 : Nat, s9 < 4 ∧ (xi (E 53) s9).toInt = a0.toInt ∧ r.toInt = (xi (E 55) s9).toInt - 3 ∧ ∀ t9 : Nat, t9 < s9 → ¬ (xi (E 53) t9).toInt = a0.toInt) ∨ ((∀ s9 : Nat, s9 < 4 → ¬ (xi (E 53) s9).toInt = a0.toInt) ∧ r.toInt = -1000000000))) (fun _ _ => True) (fun _ => False)) 0 0 (fun _ => False) := by
  obtain ⟨⟨hc0, hc1, hc2, hc3, hc4, hc5⟩, hcr⟩ := id hC
  refine Met.ofW (cc := cX3_bestChangeOf) (maxL := 3) (ret := (some .int)) (by decide) rfl ?_
  intro p e s m args below meth c s₁ B hml hv
  obtain ⟨hargs, hsz, hP, hK, hD0, hEV⟩ := hv
  subst hsz
  have hx := B.exec
  have hb := B.bytes
  have hr := B.returns
  have hts := atoms_spec (ws := v_bestChangeOfX) B.pre
  have hown : s.vm.findClass RX3 = some m.cls := findClass_of_methodNamed B.named
  have hlocks := B.notSynchronized
  have hinX3 : ∀ w ∈ u_ws RX3 TX3 18, w ∈ v_bestChangeOfX := fun w h => vA_in _ w (in_X3 w h)
  have hS : va_S (fun _ : Nat => False) s.heap s.heap [] := va_S.rf
  have hD := hD0
  have hI := hI0
  have hKp : Kp (wl [] []) E E := Kp.rf
  have hl := lv_entry ([.ref (ad 6), .int a0]) (n := 3) (Nat.le_of_ble_eq_true rfl)
  obtain ⟨Q, hQ⟩ : ∃ Q, Q = MQ below (va_Qi (S := Unit) (fun r _ => ((∃ s9 : Nat, s9 < 4 ∧ (xi (E 53) s9).toInt = a0.toInt ∧ r.toInt = (xi (E 55) s9).toInt - 3 ∧ ∀ t9 : Nat, t9 < s9 → ¬ (xi (E 53) t9).toInt = a0.toInt) ∨ ((∀ s9 : Nat, s9 < 4 → ¬ (xi (E 53) s9).toInt = a0.toInt) ∧ r.toInt = -1000000000))) (fun _ _ => True) (fun _ => False)) args s 0 0 (fun _ => False) := ⟨_, rfl⟩
  rw [← hQ, show entryFrame m args 3 = _ from (congrArg (fun z => entryFrame m z 3) hargs).trans (lg_entry_eq _ _ _)]
  generalize (lg_sl ([.ref (ad 6), .int a0]) ++ List.replicate (3 - (lg_sl ([.ref (ad 6), .int a0])).length) Slot.unset).toArray = ls at hl ⊢
  have hl : lv_has ls 3 [(0, .ref (ad 6)), (1, .int a0)] := hl
  have z0z : (0 : Int32).toInt = 0 := rfl
  refine lv_iconst (v := 0) hx hb dX3_bestChangeOf_0 (by decide) ?_
  refine lv_istore_n (lv' := [(2, .int 0), (0, .ref (ad 6)), (1, .int a0)]) hx hb dX3_bestChangeOf_1 rfl hl (by decide) rfl (fun ls hl => ?_)
  have hL2 : ∀ d : Nat, ∀ (v2_2 : Int32) (H : Heap) (locs : List Loc) (ls : Array Slot), 0 ≤ v2_2.toInt ∧ v2_2.toInt ≤ 4 → (∀ s9 : Nat, s9 < v2_2.toNatClampNeg → ¬ (xi (E 53) s9).toInt = a0.toInt) → 4 - v2_2.toInt < (d : Int) → va_P (dC, dI) vwCl (WL (LC cf) ad E) H → va_S (fun _ : Nat => False) s.heap H locs → lv_has ls 3 [(2, .int v2_2), (0, .ref (ad 6)), (1, .int a0)] → W p l e (headSpec v_bestChangeOfX rm_bestChangeOfX).room s m args below meth c H locs 0 0 Q (F0 m 2 ls []) := by
    intro d
    induction d with
    | zero =>
      intro v2_2 H locs ls hv2_2 hx2_0 hx2_1 hP hS hl
      exact absurd hx2_1 (by first | exact ms_zu hv2_2.2 | omega)
    | succ d ih2 =>
      intro v2_2 H locs ls hv2_2 hx2_0 hx2_1 hP hS hl
      refine lv_iload_n hx hb dX3_bestChangeOf_2 rfl (lv_at hl 0 rfl) ?_
      refine lv_iconst (v := 4) hx hb dX3_bestChangeOf_3 (by decide) ?_
      refine lv_icmp_ge (tgt := 32) hx hb dX3_bestChangeOf_4 (by decide) (fun c1 => ?_) (fun c1 => ?_)
      · --4 taken
        have t2 : (4 : Int) ≤ v2_2.toInt := ti_le c1
        have i3 : 4 ≤ v2_2.toInt ∧ v2_2.toInt ≤ 4 := iv_le_r t2 (il_ 4) hv2_2 (by decide)
        refine lv_ldc hx hb hown (hts _ (vA_in _ _ (in_13 _ (zs16 (zs16 (zs1 (zs1 (zs0)))))))) dX3_bestChangeOf_32 ?_
        rw [hQ]
        exact W.iret (v := (-1000000000)) hx hb hr (fun t ht hW => ⟨⟨(-1000000000), (), rfl, (Or.inr ⟨fun s9 h9 => hx2_0 s9 (by rw [tn_]; omega), rfl⟩), trivial⟩, hS.F ht⟩) hS.2.2 dX3_bestChangeOf_34
      · --4 not
        have t4 : v2_2.toInt < 4 := ti_nle c1
        have i5 : 0 ≤ v2_2.toInt ∧ v2_2.toInt ≤ 3 := iv_lt_l t4 hv2_2 (il_ 4) (by decide)
        refine lv_aload_n hx hb dX3_bestChangeOf_7 rfl (lv_at hl 1 rfl) ?_
        refine th_getL (ci := 4) (C := RX3) (T := TX3) (N := 18) (v := .ref (ad 53)) hx hb hts hinX3 hown hK hP hI 6 (mF 6 rfl) rfl rfl 12 (Nat.le_of_ble_eq_true rfl) (hts _ (vA_in _ _ (in_13 _ (zs4 (zs1 (zs1 (zs0))))))) (fun _ h9 => h9) (hI.fr 6 (mF 6 rfl) rfl (Nat.le_of_ble_eq_true rfl) 53 rfl) dX3_bestChangeOf_8 ?_
        refine lv_iload_n hx hb dX3_bestChangeOf_11 rfl (lv_at hl 0 rfl) ?_
        have n7 : vp_in v2_2 4 := (iv_in (n := 4) i5 (by decide))
        refine th_ialdL hx hb hK hP hI 53 (mF 53 rfl) rfl rfl n7 dX3_bestChangeOf_12 (fun y6 ey6 => ?_)
        have iy6 : 0 ≤ y6.toInt ∧ y6.toInt ≤ 15 := hI.el 53 (mF 53 rfl) rfl n7 (fun _ => rfl) ey6
        have ey6 := ey6.trans (hKp.ei 53 _ rfl)
        refine lv_iload_n hx hb dX3_bestChangeOf_13 rfl (lv_at hl 2 rfl) ?_
        refine lv_icmp_ne (tgt := 26) hx hb dX3_bestChangeOf_14 (by decide) (fun c8 => ?_) (fun c8 => ?_)
        · --14 taken
          have t9 : ¬ y6.toInt = a0.toInt := ti_ne c8
          obtain ⟨y10, ey10⟩ : ∃ y : Int32, y = v2_2 + (1 : Int32) := ⟨_, rfl⟩
          obtain ⟨ty10, iy10⟩ := ti_add (e := 1) (f := 4) i5 ln_1 ey10 (by decide)
          have ty10 : y10.toInt = v2_2.toInt + 1 := ty10
          have iy10 : 1 ≤ y10.toInt ∧ y10.toInt ≤ 4 := iy10
          refine lv_iinc (v := y10) (lv' := [(2, .int y10), (0, .ref (ad 6)), (1, .int a0)]) hx hb dX3_bestChangeOf_26 hl (k := 0) rfl (by rw [ey10]; rfl) (by decide) rfl (fun ls hl => ?_)
          refine lv_goto (tgt := 2) hx hb dX3_bestChangeOf_29 (by decide) ?_
          exact ih2 y10 _ _ _ (iv_w iy10 (by decide)) (fun s9 h9 => dite (s9 = v2_2.toNatClampNeg) (fun q9 => by rw [q9, ← ey6]; omega) (fun q9 => hx2_0 s9 (by rw [tn_] at h9 q9 ⊢; omega))) (by first | exact ms_su hx2_1 ty10 (by decide) | omega) hP hS (lv_sub hl [0, 1, 2] rfl)
        · --14 not
          have t11 : y6.toInt = a0.toInt := ti_eq c8
          have i12 : 0 ≤ a0.toInt ∧ a0.toInt ≤ 15 := iv_eqi t11.symm (iv_all _) iy6 (by decide)
          refine lv_aload_n hx hb dX3_bestChangeOf_17 rfl (lv_at hl 1 rfl) ?_
          refine th_getL (ci := 4) (C := RX3) (T := TX3) (N := 18) (v := .ref (ad 55)) hx hb hts hinX3 hown hK hP hI 6 (mF 6 rfl) rfl rfl 14 (Nat.le_of_ble_eq_true rfl) (hts _ (vA_in _ _ (in_13 _ (zs4 (zs4 (zs1 (zs1 (zs0)))))))) (fun _ h9 => h9) (hI.fr 6 (mF 6 rfl) rfl (Nat.le_of_ble_eq_true rfl) 55 rfl) dX3_bestChangeOf_18 ?_
          refine lv_iload_n hx hb dX3_bestChangeOf_21 rfl (lv_at hl 0 rfl) ?_
          have n14 : vp_in v2_2 4 := (iv_in (n := 4) i5 (by decide))
          refine th_ialdL hx hb hK hP hI 55 (mF 55 rfl) rfl rfl n14 dX3_bestChangeOf_22 (fun y13 ey13 => ?_)
          have iy13 : 0 ≤ y13.toInt ∧ y13.toInt ≤ 6 := hI.el 55 (mF 55 rfl) rfl n14 (fun _ => rfl) ey13
          have ey13 := ey13.trans (hKp.ei 55 _ rfl)
          refine lv_iconst (v := 3) hx hb dX3_bestChangeOf_23 (by decide) ?_
          refine lv_isub hx hb dX3_bestChangeOf_24 ?_
          refine lv_topi (fun y15 ey15 => ?_)
          obtain ⟨ty15, iy15⟩ := ti_sub (e := (-3)) (f := 3) iy13 ln_3 ey15 (by decide)
          have ty15 : y15.toInt = y13.toInt - 3 := ty15
          have iy15 : -3 ≤ y15.toInt ∧ y15.toInt ≤ 3 := iy15
          rw [hQ]
          exact W.iret (v := y15) hx hb hr (fun t ht hW => ⟨⟨y15, (), rfl, (Or.inl ⟨v2_2.toNatClampNeg, by rw [tn_]; omega, by rw [← ey6]; omega, by rw [← ey13]; omega, hx2_0⟩), trivial⟩, hS.F ht⟩) hS.2.2 dX3_bestChangeOf_25
  exact hL2 (5) (0 : Int32) _ _ _ (iv_w ln_0 (by decide)) (fun s9 h9 => absurd h9 (Nat.not_lt_zero s9)) (by have h9 := ln_0; first | exact ms_bu h9.1 (by decide) | omega) hP hS (lv_sub hl [0, 1, 2] rfl)
def v_u_evenX : List Cond := .code yX12_even cX12_even 2 (some .int) :: vA
abbrev rm_u_evenX : Room := { frames := 8, cells := 0, slots := 0, locals := 320 }
def w_u_evenX : Nat → Nat → Bool := wl [19, 20, 26, 27, 28, 29, 30, 43, 44, 45, 46, 52, 53, 54, 55] [(3, 6), (3, 7), (3, 8), (6, 15), (6, 16)]
set_option maxHeartbeats 4000000 in
set_option maxRecDepth 100000 in
theorem q_u_evenX (l : Launch) (dC : Nat → ClassId) (dI : Nat → Nat → Nat) (cT : Nat → ClassId) (cf : Nat → Nat) (hC : CF cf) (ad : Nat → Nat) (E : Nat → va_E) (sz : Nat) (a0 : Int32) (hI0 : IXL cT (shC cf) (spC cf) (LC cf) ad E) (hh0 : RulAll cf E) : Met l yX12_even v_u_evenX rm_u_evenX (va_Pc [.ref (ad 0), .int a0] (HWL dC dI (TYC cT) cf ad E sz)) (va_Qi (S := Nat → va_E) (fun r u => IXL cT (shC cf) (spC cf) (LC cf) ad u ∧ Kp w_u_evenX E u ∧ (((((SmB a0 (xi (E 1) 1)) → (EvR (wyO E) (fnC cf E (xi (E 1) 0)) (seC cf E (xi (E 1) 0)) (nmC cf E (xi (E 1) 0)) (cf 2) a0.toNatClampNeg 16 (fun m9 g9 b9 c9 => r.toInt = b9))) ∧ (¬ (SmB a0 (xi (E 1) 1)) → (r.toInt = -1)))))) (HBL dC dI (LC cf) ad) (va_A (WL (LC cf) ad E) sz)) 0 0 (va_A (WL (LC cf) ad E) sz) := by
  obtain ⟨⟨hc0, hc1, hc2, hc3, hc4, hc5⟩, hcr⟩ := id hC
  refine Met.ofW (cc := cX12_even) (maxL := 2) (ret := (some .int)) (by decide) rfl ?_
  intro p e s m args below meth c s₁ B hml hv
  obtain ⟨hargs, hsz, hP, hK, hD0, hEV⟩ := hv
  subst hsz
  have hx := B.exec
  have hb := B.bytes
  have hr := B.returns
  have hts := atoms_spec (ws := v_u_evenX) B.pre
  have hown : s.vm.findClass RX12 = some m.cls := findClass_of_methodNamed B.named
  have hlocks := B.notSynchronized
  have hinX12 : ∀ w ∈ u_ws RX12 TX12 6, w ∈ v_u_evenX := fun w h => vA_in _ w (in_X12 w h)
  have hinX3 : ∀ w ∈ u_ws RX3 TX3 18, w ∈ v_u_evenX := fun w h => vA_in _ w (in_X3 w h)
  generalize hAe : va_A (WL (LC cf) ad E) s.heap.size = A at hEV ⊢
  have hA : ∀ q : Nat, s.heap.size ≤ q → A q := fun q h => by rw [← hAe]; exact Or.inr h
  have hD : va_D A (WL (LC cf) ad E) := by rw [← hAe]; exact hD0.self
  have hS : va_S A s.heap s.heap [] := va_S.rf
  have hI := hI0
  have hKp : Kp w_u_evenX E E := Kp.rf
  have hl := lv_entry ([.ref (ad 0), .int a0]) (n := 2) (Nat.le_of_ble_eq_true rfl)
  obtain ⟨Q, hQ⟩ : ∃ Q, Q = MQ below (va_Qi (S := Nat → va_E) (fun r u => IXL cT (shC cf) (spC cf) (LC cf) ad u ∧ Kp w_u_evenX E u ∧ (((((SmB a0 (xi (E 1) 1)) → (EvR (wyO E) (fnC cf E (xi (E 1) 0)) (seC cf E (xi (E 1) 0)) (nmC cf E (xi (E 1) 0)) (cf 2) a0.toNatClampNeg 16 (fun m9 g9 b9 c9 => r.toInt = b9))) ∧ (¬ (SmB a0 (xi (E 1) 1)) → (r.toInt = -1)))))) (HBL dC dI (LC cf) ad) (A)) args s 0 0 (A) := ⟨_, rfl⟩
  rw [← hQ, show entryFrame m args 2 = _ from (congrArg (fun z => entryFrame m z 2) hargs).trans (lg_entry_eq _ _ _)]
  generalize (lg_sl ([.ref (ad 0), .int a0]) ++ List.replicate (2 - (lg_sl ([.ref (ad 0), .int a0])).length) Slot.unset).toArray = ls at hl ⊢
  have hl : lv_has ls 2 [(0, .ref (ad 0)), (1, .int a0)] := hl
  refine lv_aload_n hx hb dX12_even_0 rfl (lv_at hl 0 rfl) ?_
  refine th_getL (ci := 13) (C := RX12) (T := TX12) (N := 6) (v := .ref (ad 1)) hx hb hts hinX12 hown hK hP hI 0 (mF 0 rfl) rfl rfl 0 (Nat.le_of_ble_eq_true rfl) (hts _ (vA_in _ _ (in_10 _ (zs16 (zs1 (zs0)))))) (fun _ h9 => h9) (hI.fr 0 (mF 0 rfl) rfl (Nat.le_of_ble_eq_true rfl) 1 rfl) dX12_even_1 ?_
  refine lv_iload_n hx hb dX12_even_4 rfl (lv_at hl 1 rfl) ?_
  refine th_riL (va_runV (As := [.int a0]) (rest := []) ⟨hx, hb, hml, hown, hts⟩ (q_areSomeX l dC dI cT cf hC ad E s.heap.size a0 hI) (cwV 1 hts (gi_V (in_11 _ (zs4 (zs4 (zs1 (zs0))))) (in_11 _ (zs4 (zs4 (zs1 (zs1 (zs0)))))) (in_11 _ (zs4 (zs4 (zs1 (zs1 (zs1 (zs0))))))) (in_5 _ (zs4 (zs1 (zs1 (zs0))))) (in_4 _ (zs16 (zs4 (zs0))))) rfl rfl rfl ⟨rfl, hz_yX0_areSome_1⟩ ⟨Nat.le_of_ble_eq_true rfl, Nat.le_of_ble_eq_true rfl⟩) ⟨HWL_bl, va_recv hK hP (ci := 1) (q0 := posL 1 (LC cf)) rfl (hI.ob 1 (mF 1 rfl) rfl), (HWL_wi hP hK (WL_D hD) hS hA hEV)⟩ rfl rfl hl.1 rfl (lv_room (Nat.le_of_ble_eq_true rfl)) dX12_even_5 ⟨Nat.le_of_ble_eq_true rfl, Nat.le_of_ble_eq_true rfl⟩) hS hP (fun r1 H locs hw hP hS => ?_)
  obtain ⟨f2, f3⟩ := hw
  refine lv_if_ne (tgt := 13) hx hb dX12_even_8 (by decide) (fun c4 => ?_) (fun c4 => ?_)
  · --8 taken
    have t5 : ¬ r1.toInt = 0 := ti_ne c4
    have i6 : 1 ≤ r1.toInt ∧ r1.toInt ≤ 1 := iv_ne_l t5 f2 (il_ 0)
    have k7 : SmB a0 (xi (E 1) 1) := f3.mp (by omega)
    have ibtk7 : 0 ≤ (xi (E 1) 1).toInt ∧ (xi (E 1) 1).toInt ≤ 16 := hI0.iv 1 (mF 1 rfl) rfl (Nat.le_of_ble_eq_true rfl) rfl
    have i8 : 0 ≤ a0.toInt ∧ a0.toInt ≤ 65535 := by have h9 := k7.1; have h8 : 2 ^ ((xi (E 1) 1)).toNatClampNeg ≤ 2 ^ 16 := Nat.pow_le_pow_right (by decide) (by rw [tn_]; omega); have h7 : (2 : Nat) ^ 16 = 65536 := rfl; omega
    refine lv_aload_n hx hb dX12_even_13 rfl (lv_at hl 0 rfl) ?_
    refine th_getL (ci := 13) (C := RX12) (T := TX12) (N := 6) (v := .ref (ad 6)) hx hb hts hinX12 hown hK hP hI 0 (mF 0 rfl) rfl rfl 5 (Nat.le_of_ble_eq_true rfl) (hts _ (vA_in _ _ (in_11 _ (zs4 (zs4 (zs0)))))) (fun _ h9 => h9) (hI.fr 0 (mF 0 rfl) rfl (Nat.le_of_ble_eq_true rfl) 6 rfl) dX12_even_14 ?_
    refine th_vL (va_runV (As := []) (rest := []) ⟨hx, hb, hml, hown, hts⟩ (q_loadAllX l dC dI cT cf hC ad E H.size hI (by exact hh0)) (cwV 0 hts (gi_V (in_11 _ (zs4 (zs4 (zs4 (zs0))))) (in_11 _ (zs4 (zs4 (zs4 (zs1 (zs0)))))) (in_11 _ (zs4 (zs4 (zs4 (zs1 (zs1 (zs0))))))) (in_11 _ (zs4 (zs4 (zs4 (zs1 (zs1 (zs1 (zs0)))))))) (in_11 _ (zs16 (zs0)))) rfl rfl rfl ⟨rfl, hz_yX3_loadAll_0⟩ ⟨Nat.le_of_ble_eq_true rfl, Nat.le_of_ble_eq_true rfl⟩) ⟨HWL_bl, va_recv hK hP (ci := 4) (q0 := posL 6 (LC cf)) rfl (hI.ob 6 (mF 6 rfl) rfl), (HWL_wi hP hK (WL_D hD) hS hA hEV)⟩ rfl rfl hl.1 rfl (lv_room (Nat.le_of_ble_eq_true rfl)) dX12_even_17 ⟨Nat.le_of_ble_eq_true rfl, Nat.le_of_ble_eq_true rfl⟩) (WL_D hD) hS hA (fun E10 H locs hw hP hS => ?_)
    obtain ⟨hI, kq11, hw⟩ := hw
    have hKb := hKp
    have hKp := hKp.tr kq11 (wl_sub rfl rfl)
    have f12 := hw
    have i13 : 0 ≤ (xi (E 1) 0).toInt ∧ (xi (E 1) 0).toInt ≤ 400 := hI0.iv 1 (mF 1 rfl) rfl (Nat.le_of_ble_eq_true rfl) rfl
    refine lv_aload_n hx hb dX12_even_20 rfl (lv_at hl 0 rfl) ?_
    refine th_getL (ci := 13) (C := RX12) (T := TX12) (N := 6) (v := .ref (ad 6)) hx hb hts hinX12 hown hK hP hI 0 (mF 0 rfl) rfl rfl 5 (Nat.le_of_ble_eq_true rfl) (hts _ (vA_in _ _ (in_11 _ (zs4 (zs4 (zs0)))))) (fun _ h9 => h9) (hI.fr 0 (mF 0 rfl) rfl (Nat.le_of_ble_eq_true rfl) 6 rfl) dX12_even_21 ?_
    refine lv_iload_n hx hb dX12_even_24 rfl (lv_at hl 1 rfl) ?_
    refine th_vL (va_runV (As := [.int a0]) (rest := []) ⟨hx, hb, hml, hown, hts⟩ (q_evenOutX l dC dI cT cf hC ad E10 H.size a0 hI i8 (by exact k7.2)) (cwV 1 hts (gi_V (in_13 _ (zs1 (zs1 (zs0)))) (in_13 _ (zs1 (zs1 (zs1 (zs0))))) (in_13 _ (zs4 (zs0))) (in_11 _ (zs4 (zs4 (zs4 (zs1 (zs1 (zs1 (zs0)))))))) (in_13 _ (zs4 (zs1 (zs0))))) rfl rfl rfl ⟨rfl, hz_yX3_evenOut_1⟩ ⟨Nat.le_of_ble_eq_true rfl, Nat.le_of_ble_eq_true rfl⟩) ⟨HWL_bl, va_recv hK hP (ci := 4) (q0 := posL 6 (LC cf)) rfl (hI.ob 6 (mF 6 rfl) rfl), (HWL_wi hP hK (WL_D hD) hS hA hEV)⟩ rfl rfl hl.1 rfl (lv_room (Nat.le_of_ble_eq_true rfl)) dX12_even_25 ⟨Nat.le_of_ble_eq_true rfl, Nat.le_of_ble_eq_true rfl⟩) (WL_D hD) hS hA (fun E15 H locs hw hP hS => ?_)
    obtain ⟨hI, kq16, hw⟩ := hw
    have hKb := hKp
    have hKp := hKp.tr kq16 (wl_sub rfl rfl)
    have f17 := hw
    have k18 : EvR (wyO E) (fnC cf E (xi (E 1) 0)) (seC cf E (xi (E 1) 0)) (nmC cf E (xi (E 1) 0)) (cf 2) a0.toNatClampNeg 16 (fun m9 g9 b9 c9 => b9 = (xi (E15 6) 16).toInt ∧ g9 = xi (E15 53) ∧ c9 = fun s9 : Nat => (xi (E15 55) s9).toInt) := EvR.c f17 (K64.of hKb (fun o9 ho9 j9 => wl_p rfl rfl ho9)) (by omega) f12
    refine lv_aload_n hx hb dX12_even_28 rfl (lv_at hl 0 rfl) ?_
    refine th_getL (ci := 13) (C := RX12) (T := TX12) (N := 6) (v := .ref (ad 6)) hx hb hts hinX12 hown hK hP hI 0 (mF 0 rfl) rfl rfl 5 (Nat.le_of_ble_eq_true rfl) (hts _ (vA_in _ _ (in_11 _ (zs4 (zs4 (zs0)))))) (fun _ h9 => h9) (hI.fr 0 (mF 0 rfl) rfl (Nat.le_of_ble_eq_true rfl) 6 rfl) dX12_even_29 ?_
    obtain ⟨y19, ey19⟩ : ∃ y, xi (E15 6) 16 = y := ⟨_, rfl⟩
    have fy19 : xv (E15 6) 16 = .int y19 := (hI.fi 6 (mF 6 rfl) rfl (Nat.le_of_ble_eq_true rfl) rfl).trans (congrArg Value.int ey19)
    refine th_getL (ci := 4) (C := RX3) (T := TX3) (N := 18) (v := .int y19) hx hb hts hinX3 hown hK hP hI 6 (mF 6 rfl) rfl rfl 16 (Nat.le_of_ble_eq_true rfl) (hts _ (vA_in _ _ (in_18 _ (zs4 (zs1 (zs0)))))) (fun _ h9 => h9) fy19 dX12_even_32 ?_
    rw [hQ]
    exact W.iret (v := y19) hx hb hr (fun t ht hW => ⟨⟨y19, E15, rfl, ⟨hI, hKp, ⟨fun _ => by obtain ⟨m9, g9, c9, X9, b9, s9, d9, q1, q2, q3, q4, -, -⟩ := k18; exact ⟨m9, g9, c9, X9, b9, s9, d9, q1, q2, q3, (show y19.toInt = b9 by rw [q4, show xi (E15 6) 16 = y19 from vi_e fy19])⟩, fun g9 => absurd k7 g9⟩⟩, by show va_P (dC, dI) vwCl (WL (LC cf) ad E15) t.heap; rw [ht]; exact hP⟩, hS.F ht⟩) hS.2.2 dX12_even_35
  · --8 not
    have t20 : r1.toInt = 0 := ti_eq c4
    have i21 : 0 ≤ r1.toInt ∧ r1.toInt ≤ 0 := iv_eqi t20 f2 (il_ 0) (by decide)
    refine lv_iconst (v := -1) hx hb dX12_even_11 (by decide) ?_
    rw [hQ]
    exact W.iret (v := (-1)) hx hb hr (fun t ht hW => ⟨⟨(-1), E, rfl, ⟨hI, hKp, ⟨fun g9 => by exfalso; have z9 := f3.mpr g9; omega, fun _ => rfl⟩⟩, by show va_P (dC, dI) vwCl (WL (LC cf) ad E) t.heap; rw [ht]; exact hP⟩, hS.F ht⟩) hS.2.2 dX12_even_12
def v_u_changeX : List Cond := .code yX12_change cX12_change 3 (some .int) :: vA
abbrev rm_u_changeX : Room := { frames := 8, cells := 0, slots := 0, locals := 320 }
def w_u_changeX : Nat → Nat → Bool := wl [19, 20, 26, 27, 28, 29, 30, 43, 44, 45, 46, 52, 53, 54, 55] [(3, 6), (3, 7), (3, 8), (6, 15), (6, 16)]
set_option maxHeartbeats 4000000 in
set_option maxRecDepth 100000 in
theorem q_u_changeX (l : Launch) (dC : Nat → ClassId) (dI : Nat → Nat → Nat) (cT : Nat → ClassId) (cf : Nat → Nat) (hC : CF cf) (ad : Nat → Nat) (E : Nat → va_E) (sz : Nat) (a0 : Int32) (a1 : Int32) (hI0 : IXL cT (shC cf) (spC cf) (LC cf) ad E) (hh0 : RulAll cf E) : Met l yX12_change v_u_changeX rm_u_changeX (va_Pc [.ref (ad 0), .int a0, .int a1] (HWL dC dI (TYC cT) cf ad E sz)) (va_Qi (S := Nat → va_E) (fun r u => IXL cT (shC cf) (spC cf) (LC cf) ad u ∧ Kp w_u_changeX E u ∧ (((((SmB a0 (xi (E 1) 1) ∧ (0 ≤ a1.toInt ∧ a1.toInt < (xi (E 1) 1).toInt) ∧ ¬ a0.toNatClampNeg / 2 ^ a1.toNatClampNeg % 2 = 0) → (EvR (wyO E) (fnC cf E (xi (E 1) 0)) (seC cf E (xi (E 1) 0)) (nmC cf E (xi (E 1) 0)) (cf 2) a0.toNatClampNeg 16 (fun m9 g9 b9 c9 => ∃ s9 : Nat, s9 < m9 ∧ (g9 s9).toInt = a1.toInt ∧ r.toInt = c9 s9 - 3))) ∧ (¬ (SmB a0 (xi (E 1) 1) ∧ (0 ≤ a1.toInt ∧ a1.toInt < (xi (E 1) 1).toInt) ∧ ¬ a0.toNatClampNeg / 2 ^ a1.toNatClampNeg % 2 = 0) → (r.toInt = -1000000000)))))) (HBL dC dI (LC cf) ad) (va_A (WL (LC cf) ad E) sz)) 0 0 (va_A (WL (LC cf) ad E) sz) := by
  obtain ⟨⟨hc0, hc1, hc2, hc3, hc4, hc5⟩, hcr⟩ := id hC
  refine Met.ofW (cc := cX12_change) (maxL := 3) (ret := (some .int)) (by decide) rfl ?_
  intro p e s m args below meth c s₁ B hml hv
  obtain ⟨hargs, hsz, hP, hK, hD0, hEV⟩ := hv
  subst hsz
  have hx := B.exec
  have hb := B.bytes
  have hr := B.returns
  have hts := atoms_spec (ws := v_u_changeX) B.pre
  have hown : s.vm.findClass RX12 = some m.cls := findClass_of_methodNamed B.named
  have hlocks := B.notSynchronized
  have hinX12 : ∀ w ∈ u_ws RX12 TX12 6, w ∈ v_u_changeX := fun w h => vA_in _ w (in_X12 w h)
  generalize hAe : va_A (WL (LC cf) ad E) s.heap.size = A at hEV ⊢
  have hA : ∀ q : Nat, s.heap.size ≤ q → A q := fun q h => by rw [← hAe]; exact Or.inr h
  have hD : va_D A (WL (LC cf) ad E) := by rw [← hAe]; exact hD0.self
  have hS : va_S A s.heap s.heap [] := va_S.rf
  have hI := hI0
  have hKp : Kp w_u_changeX E E := Kp.rf
  have hl := lv_entry ([.ref (ad 0), .int a0, .int a1]) (n := 3) (Nat.le_of_ble_eq_true rfl)
  obtain ⟨Q, hQ⟩ : ∃ Q, Q = MQ below (va_Qi (S := Nat → va_E) (fun r u => IXL cT (shC cf) (spC cf) (LC cf) ad u ∧ Kp w_u_changeX E u ∧ (((((SmB a0 (xi (E 1) 1) ∧ (0 ≤ a1.toInt ∧ a1.toInt < (xi (E 1) 1).toInt) ∧ ¬ a0.toNatClampNeg / 2 ^ a1.toNatClampNeg % 2 = 0) → (EvR (wyO E) (fnC cf E (xi (E 1) 0)) (seC cf E (xi (E 1) 0)) (nmC cf E (xi (E 1) 0)) (cf 2) a0.toNatClampNeg 16 (fun m9 g9 b9 c9 => ∃ s9 : Nat, s9 < m9 ∧ (g9 s9).toInt = a1.toInt ∧ r.toInt = c9 s9 - 3))) ∧ (¬ (SmB a0 (xi (E 1) 1) ∧ (0 ≤ a1.toInt ∧ a1.toInt < (xi (E 1) 1).toInt) ∧ ¬ a0.toNatClampNeg / 2 ^ a1.toNatClampNeg % 2 = 0) → (r.toInt = -1000000000)))))) (HBL dC dI (LC cf) ad) (A)) args s 0 0 (A) := ⟨_, rfl⟩
  rw [← hQ, show entryFrame m args 3 = _ from (congrArg (fun z => entryFrame m z 3) hargs).trans (lg_entry_eq _ _ _)]
  generalize (lg_sl ([.ref (ad 0), .int a0, .int a1]) ++ List.replicate (3 - (lg_sl ([.ref (ad 0), .int a0, .int a1])).length) Slot.unset).toArray = ls at hl ⊢
  have hl : lv_has ls 3 [(0, .ref (ad 0)), (1, .int a0), (2, .int a1)] := hl
  refine lv_aload_n hx hb dX12_change_0 rfl (lv_at hl 0 rfl) ?_
  refine th_getL (ci := 13) (C := RX12) (T := TX12) (N := 6) (v := .ref (ad 1)) hx hb hts hinX12 hown hK hP hI 0 (mF 0 rfl) rfl rfl 0 (Nat.le_of_ble_eq_true rfl) (hts _ (vA_in _ _ (in_10 _ (zs16 (zs1 (zs0)))))) (fun _ h9 => h9) (hI.fr 0 (mF 0 rfl) rfl (Nat.le_of_ble_eq_true rfl) 1 rfl) dX12_change_1 ?_
  refine lv_iload_n hx hb dX12_change_4 rfl (lv_at hl 1 rfl) ?_
  refine th_riL (va_runV (As := [.int a0]) (rest := []) ⟨hx, hb, hml, hown, hts⟩ (q_areSomeX l dC dI cT cf hC ad E s.heap.size a0 hI) (cwV 1 hts (gi_V (in_11 _ (zs4 (zs4 (zs1 (zs0))))) (in_11 _ (zs4 (zs4 (zs1 (zs1 (zs0)))))) (in_11 _ (zs4 (zs4 (zs1 (zs1 (zs1 (zs0))))))) (in_5 _ (zs4 (zs1 (zs1 (zs0))))) (in_4 _ (zs16 (zs4 (zs0))))) rfl rfl rfl ⟨rfl, hz_yX0_areSome_1⟩ ⟨Nat.le_of_ble_eq_true rfl, Nat.le_of_ble_eq_true rfl⟩) ⟨HWL_bl, va_recv hK hP (ci := 1) (q0 := posL 1 (LC cf)) rfl (hI.ob 1 (mF 1 rfl) rfl), (HWL_wi hP hK (WL_D hD) hS hA hEV)⟩ rfl rfl hl.1 rfl (lv_room (Nat.le_of_ble_eq_true rfl)) dX12_change_5 ⟨Nat.le_of_ble_eq_true rfl, Nat.le_of_ble_eq_true rfl⟩) hS hP (fun r1 H locs hw hP hS => ?_)
  obtain ⟨f2, f3⟩ := hw
  refine lv_if_eq (tgt := 30) hx hb dX12_change_8 (by decide) (fun c4 => ?_) (fun c4 => ?_)
  · --8 taken
    have t5 : r1.toInt = 0 := ti_eq c4
    have i6 : 0 ≤ r1.toInt ∧ r1.toInt ≤ 0 := iv_eqi t5 f2 (il_ 0) (by decide)
    refine lv_ldc hx hb hown (hts _ (vA_in _ _ (in_11 _ (zs4 (zs1 (zs1 (zs1 (zs0)))))))) dX12_change_30 ?_
    rw [hQ]
    exact W.iret (v := (-1000000000)) hx hb hr (fun t ht hW => ⟨⟨(-1000000000), E, rfl, ⟨hI, hKp, ⟨fun g9 => by exfalso; have z9 := f3.mpr g9.1; omega, fun _ => rfl⟩⟩, by show va_P (dC, dI) vwCl (WL (LC cf) ad E) t.heap; rw [ht]; exact hP⟩, hS.F ht⟩) hS.2.2 dX12_change_32
  · --8 not
    have t7 : ¬ r1.toInt = 0 := ti_ne c4
    have i8 : 1 ≤ r1.toInt ∧ r1.toInt ≤ 1 := iv_ne_l t7 f2 (il_ 0)
    have k9 : SmB a0 (xi (E 1) 1) := f3.mp (by omega)
    have ibtk9 : 0 ≤ (xi (E 1) 1).toInt ∧ (xi (E 1) 1).toInt ≤ 16 := hI0.iv 1 (mF 1 rfl) rfl (Nat.le_of_ble_eq_true rfl) rfl
    have i10 : 0 ≤ a0.toInt ∧ a0.toInt ≤ 65535 := by have h9 := k9.1; have h8 : 2 ^ ((xi (E 1) 1)).toNatClampNeg ≤ 2 ^ 16 := Nat.pow_le_pow_right (by decide) (by rw [tn_]; omega); have h7 : (2 : Nat) ^ 16 = 65536 := rfl; omega
    refine lv_aload_n hx hb dX12_change_11 rfl (lv_at hl 0 rfl) ?_
    refine th_getL (ci := 13) (C := RX12) (T := TX12) (N := 6) (v := .ref (ad 1)) hx hb hts hinX12 hown hK hP hI 0 (mF 0 rfl) rfl rfl 0 (Nat.le_of_ble_eq_true rfl) (hts _ (vA_in _ _ (in_10 _ (zs16 (zs1 (zs0)))))) (fun _ h9 => h9) (hI.fr 0 (mF 0 rfl) rfl (Nat.le_of_ble_eq_true rfl) 1 rfl) dX12_change_12 ?_
    refine lv_iload_n hx hb dX12_change_15 rfl (lv_at hl 2 rfl) ?_
    refine th_riL (va_runV (As := [.int a1]) (rest := []) ⟨hx, hb, hml, hown, hts⟩ (q_isBoatC l dC dI cT cf hC ad E H.size a1 hI) (cwV 1 hts (gi_V (in_10 _ (zs16 (zs4 (zs4 (zs1 (zs1 (zs1 (zs0)))))))) (in_6 _ (zs4 (zs4 (zs4 (zs0))))) (in_6 _ (zs4 (zs4 (zs4 (zs1 (zs0)))))) (in_5 _ (zs4 (zs1 (zs1 (zs0))))) (in_5 _ (zs16 (zs16 (zs4 (zs1 (zs1 (zs0)))))))) rfl rfl rfl ⟨rfl, hz_yX0_isBoat_1⟩ ⟨Nat.le_of_ble_eq_true rfl, Nat.le_of_ble_eq_true rfl⟩) ⟨HWL_bl, va_recv hK hP (ci := 1) (q0 := posL 1 (LC cf)) rfl (hI.ob 1 (mF 1 rfl) rfl), (HWL_wi hP hK (WL_D hD) hS hA hEV)⟩ rfl rfl hl.1 rfl (lv_room (Nat.le_of_ble_eq_true rfl)) dX12_change_16 ⟨Nat.le_of_ble_eq_true rfl, Nat.le_of_ble_eq_true rfl⟩) hS hP (fun r11 H locs hw hP hS => ?_)
    rcases hw with hw | hw
    · -- isBoatC, case 0
      obtain ⟨rfl, f12, f13⟩ := hw
      have i14 : 0 ≤ (xi (E 1) 1).toInt ∧ (xi (E 1) 1).toInt ≤ 16 := hI0.iv 1 (mF 1 rfl) rfl (Nat.le_of_ble_eq_true rfl) rfl
      refine lv_if_eq (tgt := 30) hx hb dX12_change_19 (by decide) (fun c15 => ?_) (fun c15 => ?_)
      · --19 taken
        exact absurd c15 (by decide)
      · --19 not
        refine lv_iload_n hx hb dX12_change_22 rfl (lv_at hl 1 rfl) ?_
        refine lv_iload_n hx hb dX12_change_23 rfl (lv_at hl 2 rfl) ?_
        refine lv_ishr hx hb dX12_change_24 ?_
        refine lv_topi (fun y16 ey16 => ?_)
        refine lv_iconst (v := 1) hx hb dX12_change_25 (by decide) ?_
        refine lv_iand hx hb dX12_change_26 ?_
        refine lv_topi (fun y17 ey17 => ?_)
        have iy17 : 0 ≤ y17.toInt ∧ y17.toInt ≤ 1 := ti_and (by decide) ey17
        refine lv_if_ne (tgt := 33) hx hb dX12_change_27 (by decide) (fun c18 => ?_) (fun c18 => ?_)
        · --27 taken
          have t19 : ¬ y17.toInt = 0 := ti_ne c18
          have i20 : 1 ≤ y17.toInt ∧ y17.toInt ≤ 1 := iv_ne_l t19 iy17 (il_ 0)
          have k21 := bit_at (a := a0) (v := a1) (by omega) (by omega) ey16 ey17
          have k22 : a0.toNatClampNeg / 2 ^ a1.toNatClampNeg % 2 < 2 := Nat.mod_lt _ (by decide)
          have k23 : ¬ a0.toNatClampNeg / 2 ^ a1.toNatClampNeg % 2 = 0 := fun h9 => c18 (by rw [k21]; exact (nI01 k22).mpr h9)
          refine lv_aload_n hx hb dX12_change_33 rfl (lv_at hl 0 rfl) ?_
          refine th_getL (ci := 13) (C := RX12) (T := TX12) (N := 6) (v := .ref (ad 6)) hx hb hts hinX12 hown hK hP hI 0 (mF 0 rfl) rfl rfl 5 (Nat.le_of_ble_eq_true rfl) (hts _ (vA_in _ _ (in_11 _ (zs4 (zs4 (zs0)))))) (fun _ h9 => h9) (hI.fr 0 (mF 0 rfl) rfl (Nat.le_of_ble_eq_true rfl) 6 rfl) dX12_change_34 ?_
          refine th_vL (va_runV (As := []) (rest := []) ⟨hx, hb, hml, hown, hts⟩ (q_loadAllX l dC dI cT cf hC ad E H.size hI (by exact hh0)) (cwV 0 hts (gi_V (in_11 _ (zs4 (zs4 (zs4 (zs0))))) (in_11 _ (zs4 (zs4 (zs4 (zs1 (zs0)))))) (in_11 _ (zs4 (zs4 (zs4 (zs1 (zs1 (zs0))))))) (in_11 _ (zs4 (zs4 (zs4 (zs1 (zs1 (zs1 (zs0)))))))) (in_11 _ (zs16 (zs0)))) rfl rfl rfl ⟨rfl, hz_yX3_loadAll_0⟩ ⟨Nat.le_of_ble_eq_true rfl, Nat.le_of_ble_eq_true rfl⟩) ⟨HWL_bl, va_recv hK hP (ci := 4) (q0 := posL 6 (LC cf)) rfl (hI.ob 6 (mF 6 rfl) rfl), (HWL_wi hP hK (WL_D hD) hS hA hEV)⟩ rfl rfl hl.1 rfl (lv_room (Nat.le_of_ble_eq_true rfl)) dX12_change_37 ⟨Nat.le_of_ble_eq_true rfl, Nat.le_of_ble_eq_true rfl⟩) (WL_D hD) hS hA (fun E25 H locs hw hP hS => ?_)
          obtain ⟨hI, kq26, hw⟩ := hw
          have hKb := hKp
          have hKp := hKp.tr kq26 (wl_sub rfl rfl)
          have f27 := hw
          have i28 : 0 ≤ (xi (E 1) 0).toInt ∧ (xi (E 1) 0).toInt ≤ 400 := hI0.iv 1 (mF 1 rfl) rfl (Nat.le_of_ble_eq_true rfl) rfl
          refine lv_aload_n hx hb dX12_change_40 rfl (lv_at hl 0 rfl) ?_
          refine th_getL (ci := 13) (C := RX12) (T := TX12) (N := 6) (v := .ref (ad 6)) hx hb hts hinX12 hown hK hP hI 0 (mF 0 rfl) rfl rfl 5 (Nat.le_of_ble_eq_true rfl) (hts _ (vA_in _ _ (in_11 _ (zs4 (zs4 (zs0)))))) (fun _ h9 => h9) (hI.fr 0 (mF 0 rfl) rfl (Nat.le_of_ble_eq_true rfl) 6 rfl) dX12_change_41 ?_
          refine lv_iload_n hx hb dX12_change_44 rfl (lv_at hl 1 rfl) ?_
          refine th_vL (va_runV (As := [.int a0]) (rest := []) ⟨hx, hb, hml, hown, hts⟩ (q_evenOutX l dC dI cT cf hC ad E25 H.size a0 hI i10 (by exact k9.2)) (cwV 1 hts (gi_V (in_13 _ (zs1 (zs1 (zs0)))) (in_13 _ (zs1 (zs1 (zs1 (zs0))))) (in_13 _ (zs4 (zs0))) (in_11 _ (zs4 (zs4 (zs4 (zs1 (zs1 (zs1 (zs0)))))))) (in_13 _ (zs4 (zs1 (zs0))))) rfl rfl rfl ⟨rfl, hz_yX3_evenOut_1⟩ ⟨Nat.le_of_ble_eq_true rfl, Nat.le_of_ble_eq_true rfl⟩) ⟨HWL_bl, va_recv hK hP (ci := 4) (q0 := posL 6 (LC cf)) rfl (hI.ob 6 (mF 6 rfl) rfl), (HWL_wi hP hK (WL_D hD) hS hA hEV)⟩ rfl rfl hl.1 rfl (lv_room (Nat.le_of_ble_eq_true rfl)) dX12_change_45 ⟨Nat.le_of_ble_eq_true rfl, Nat.le_of_ble_eq_true rfl⟩) (WL_D hD) hS hA (fun E30 H locs hw hP hS => ?_)
          obtain ⟨hI, kq31, hw⟩ := hw
          have hKb := hKp
          have hKp := hKp.tr kq31 (wl_sub rfl rfl)
          have f32 := hw
          have k33 : EvR (wyO E) (fnC cf E (xi (E 1) 0)) (seC cf E (xi (E 1) 0)) (nmC cf E (xi (E 1) 0)) (cf 2) a0.toNatClampNeg 16 (fun m9 g9 b9 c9 => b9 = (xi (E30 6) 16).toInt ∧ g9 = xi (E30 53) ∧ c9 = fun s9 : Nat => (xi (E30 55) s9).toInt) := EvR.c f32 (K64.of hKb (fun o9 ho9 j9 => wl_p rfl rfl ho9)) (by omega) f27
          refine lv_aload_n hx hb dX12_change_48 rfl (lv_at hl 0 rfl) ?_
          refine th_getL (ci := 13) (C := RX12) (T := TX12) (N := 6) (v := .ref (ad 6)) hx hb hts hinX12 hown hK hP hI 0 (mF 0 rfl) rfl rfl 5 (Nat.le_of_ble_eq_true rfl) (hts _ (vA_in _ _ (in_11 _ (zs4 (zs4 (zs0)))))) (fun _ h9 => h9) (hI.fr 0 (mF 0 rfl) rfl (Nat.le_of_ble_eq_true rfl) 6 rfl) dX12_change_49 ?_
          refine lv_iload_n hx hb dX12_change_52 rfl (lv_at hl 2 rfl) ?_
          refine th_riL (va_runV (As := [.int a1]) (rest := []) ⟨hx, hb, hml, hown, hts⟩ (q_bestChangeOfX l dC dI cT cf hC ad E30 H.size a1 hI) (cwV 1 hts (gi_V (in_13 _ (zs16 (zs4 (zs4 (zs4 (zs1 (zs1 (zs0)))))))) (in_13 _ (zs16 (zs4 (zs4 (zs4 (zs1 (zs1 (zs1 (zs0))))))))) (in_13 _ (zs16 (zs16 (zs0)))) (in_11 _ (zs4 (zs4 (zs4 (zs1 (zs1 (zs1 (zs0)))))))) (in_13 _ (zs16 (zs16 (zs1 (zs0)))))) rfl rfl rfl ⟨rfl, hz_yX3_bestChangeOf_1⟩ ⟨Nat.le_of_ble_eq_true rfl, Nat.le_of_ble_eq_true rfl⟩) ⟨HWL_bl, va_recv hK hP (ci := 4) (q0 := posL 6 (LC cf)) rfl (hI.ob 6 (mF 6 rfl) rfl), (HWL_wi hP hK (WL_D hD) hS hA hEV)⟩ rfl rfl hl.1 rfl (lv_room (Nat.le_of_ble_eq_true rfl)) dX12_change_53 ⟨Nat.le_of_ble_eq_true rfl, Nat.le_of_ble_eq_true rfl⟩) hS hP (fun r34 H locs hw hP hS => ?_)
          have f35 := hw
          rw [hQ]
          exact W.iret (v := r34) hx hb hr (fun t ht hW => ⟨⟨r34, E30, rfl, ⟨hI, hKp, ⟨fun _ => by obtain ⟨m9, g9, c9, X9, b9, s9, d9, q1, q2, q3, -, q5, q6⟩ := k33; exact ⟨m9, g9, c9, X9, b9, s9, d9, q1, q2, q3, bc_ok q1 q5 q6 (by rw [tn_]; omega) k23 f35 (by have h7 := k9.2.2; have h8 := (EvL.num _ _ _ q1).1; omega) (by omega)⟩, fun g9 => absurd ⟨k9, ⟨by omega, by omega⟩, k23⟩ g9⟩⟩, by show va_P (dC, dI) vwCl (WL (LC cf) ad E30) t.heap; rw [ht]; exact hP⟩, hS.F ht⟩) hS.2.2 dX12_change_56
        · --27 not
          have t36 : y17.toInt = 0 := ti_eq c18
          have i37 : 0 ≤ y17.toInt ∧ y17.toInt ≤ 0 := iv_eqi t36 iy17 (il_ 0) (by decide)
          have k38 := bit_at (a := a0) (v := a1) (by omega) (by omega) ey16 ey17
          have k39 : a0.toNatClampNeg / 2 ^ a1.toNatClampNeg % 2 < 2 := Nat.mod_lt _ (by decide)
          have k40 : a0.toNatClampNeg / 2 ^ a1.toNatClampNeg % 2 = 0 := (nI01 k39).mp (by rw [← k38]; exact c18)
          refine lv_ldc hx hb hown (hts _ (vA_in _ _ (in_11 _ (zs4 (zs1 (zs1 (zs1 (zs0)))))))) dX12_change_30 ?_
          rw [hQ]
          exact W.iret (v := (-1000000000)) hx hb hr (fun t ht hW => ⟨⟨(-1000000000), E, rfl, ⟨hI, hKp, ⟨fun g9 => absurd k40 g9.2.2, fun _ => rfl⟩⟩, by show va_P (dC, dI) vwCl (WL (LC cf) ad E) t.heap; rw [ht]; exact hP⟩, hS.F ht⟩) hS.2.2 dX12_change_32
    · -- isBoatC, case 1
      obtain ⟨rfl, f41⟩ := hw
      have i42 : 0 ≤ (xi (E 1) 1).toInt ∧ (xi (E 1) 1).toInt ≤ 16 := hI0.iv 1 (mF 1 rfl) rfl (Nat.le_of_ble_eq_true rfl) rfl
      refine lv_if_eq (tgt := 30) hx hb dX12_change_19 (by decide) (fun c43 => ?_) (fun c43 => ?_)
      · --19 taken
        refine lv_ldc hx hb hown (hts _ (vA_in _ _ (in_11 _ (zs4 (zs1 (zs1 (zs1 (zs0)))))))) dX12_change_30 ?_
        rw [hQ]
        exact W.iret (v := (-1000000000)) hx hb hr (fun t ht hW => ⟨⟨(-1000000000), E, rfl, ⟨hI, hKp, ⟨fun g9 => by exfalso; have z9 := f3.mpr g9.1; omega, fun _ => rfl⟩⟩, by show va_P (dC, dI) vwCl (WL (LC cf) ad E) t.heap; rw [ht]; exact hP⟩, hS.F ht⟩) hS.2.2 dX12_change_32
      · --19 not
        exact absurd c43 (by decide)
