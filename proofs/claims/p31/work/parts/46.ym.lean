set_option maxRecDepth 100000 in
theorem zh_dX0_numberOf_0_0 : zc cX0_numberOf 0 [42, 28, 29, 182, 0, 107, 54, 4, 42, 27, 28, 29, 182, 0, 111, 54] = true := by decide +kernel
set_option maxRecDepth 100000 in
theorem zh_dX0_numberOf_15_16 : zc cX0_numberOf 16 [5, 21, 4, 2, 159, 0, 9, 21, 5, 2, 160, 0, 7, 17, 3, 232] = true := by decide +kernel
set_option maxRecDepth 100000 in
theorem zh_dX0_numberOf_32_32 : zc cX0_numberOf 32 [172, 42, 180, 0, 12, 21, 5, 182, 0, 69, 192, 0, 94, 58, 6, 42] = true := by decide +kernel
set_option maxRecDepth 100000 in
theorem zh_dX0_numberOf_48_48 : zc cX0_numberOf 48 [182, 0, 115, 42, 180, 0, 41, 3, 25, 6, 180, 0, 118, 79, 42, 180] = true := by decide +kernel
set_option maxRecDepth 100000 in
theorem zh_dX0_numberOf_63_64 : zc cX0_numberOf 64 [0, 41, 4, 25, 6, 180, 0, 121, 79, 42, 180, 0, 41, 5, 25, 6] = true := by decide +kernel
set_option maxRecDepth 100000 in
theorem zh_dX0_numberOf_80_80 : zc cX0_numberOf 80 [180, 0, 124, 79, 42, 180, 0, 18, 21, 4, 182, 0, 69, 192, 0, 103] = true := by decide +kernel
set_option maxRecDepth 100000 in
theorem zh_dX0_numberOf_96_96 : zc cX0_numberOf 96 [16, 110, 42, 180, 0, 41, 42, 180, 0, 45, 182, 0, 127, 17, 1, 244] = true := by decide +kernel
set_option maxRecDepth 100000 in
theorem zh_dX0_numberOf_112_112 : zc cX0_numberOf 112 [17, 7, 208, 184, 0, 131, 172] = true := by decide +kernel
set_option maxRecDepth 100000 in
theorem zh_dX12_number_0_0 : zc cX12_number 0 [42, 180, 0, 10, 27, 182, 0, 66, 153, 0, 21, 28, 184, 0, 70, 153] = true := by decide +kernel
set_option maxRecDepth 100000 in
theorem zh_dX12_number_15_16 : zc cX12_number 16 [0, 14, 42, 180, 0, 10, 29, 182, 0, 92, 154, 0, 5, 2, 172, 42] = true := by decide +kernel
set_option maxRecDepth 100000 in
theorem zh_dX12_number_32_32 : zc cX12_number 32 [180, 0, 10, 27, 28, 29, 182, 0, 124, 172] = true := by decide +kernel
set_option maxRecDepth 100000 in
theorem zh_dX12_held_0_0 : zc cX12_held 0 [26, 27, 162, 0, 7, 27, 167, 0, 13, 26, 28, 164, 0, 7, 28, 167] = true := by decide +kernel
set_option maxRecDepth 100000 in
theorem zh_dX12_held_15_16 : zc cX12_held 16 [0, 4, 26, 172] = true := by decide +kernel
theorem dX0_numberOf_0 : decode cX0_numberOf 0 = .ok (.aload_n 0, 1) := zo_42 (zi_at zh_dX0_numberOf_0_0 0 rfl)
theorem dX0_numberOf_1 : decode cX0_numberOf 1 = .ok (.iload_n 2, 1) := zo_28 (zi_at zh_dX0_numberOf_0_0 1 rfl)
theorem dX0_numberOf_2 : decode cX0_numberOf 2 = .ok (.iload_n 3, 1) := zo_29 (zi_at zh_dX0_numberOf_0_0 2 rfl)
theorem dX0_numberOf_3 : decode cX0_numberOf 3 = .ok (.invokevirtual 107, 3) := zo_182 (zi_at zh_dX0_numberOf_0_0 3 rfl) (zi_at zh_dX0_numberOf_0_0 4 rfl) (zi_at zh_dX0_numberOf_0_0 5 rfl) rfl
theorem dX0_numberOf_6 : decode cX0_numberOf 6 = .ok (.istore 4, 2) := zo_54 (zi_at zh_dX0_numberOf_0_0 6 rfl) (zi_at zh_dX0_numberOf_0_0 7 rfl)
theorem dX0_numberOf_8 : decode cX0_numberOf 8 = .ok (.aload_n 0, 1) := zo_42 (zi_at zh_dX0_numberOf_0_0 8 rfl)
theorem dX0_numberOf_9 : decode cX0_numberOf 9 = .ok (.iload_n 1, 1) := zo_27 (zi_at zh_dX0_numberOf_0_0 9 rfl)
theorem dX0_numberOf_10 : decode cX0_numberOf 10 = .ok (.iload_n 2, 1) := zo_28 (zi_at zh_dX0_numberOf_0_0 10 rfl)
theorem dX0_numberOf_11 : decode cX0_numberOf 11 = .ok (.iload_n 3, 1) := zo_29 (zi_at zh_dX0_numberOf_0_0 11 rfl)
theorem dX0_numberOf_12 : decode cX0_numberOf 12 = .ok (.invokevirtual 111, 3) := zo_182 (zi_at zh_dX0_numberOf_0_0 12 rfl) (zi_at zh_dX0_numberOf_0_0 13 rfl) (zi_at zh_dX0_numberOf_0_0 14 rfl) rfl
theorem dX0_numberOf_15 : decode cX0_numberOf 15 = .ok (.istore 5, 2) := zo_54 (zi_at zh_dX0_numberOf_0_0 15 rfl) (zi_at zh_dX0_numberOf_15_16 0 rfl)
theorem dX0_numberOf_17 : decode cX0_numberOf 17 = .ok (.iload 4, 2) := zo_21 (zi_at zh_dX0_numberOf_15_16 1 rfl) (zi_at zh_dX0_numberOf_15_16 2 rfl)
theorem dX0_numberOf_19 : decode cX0_numberOf 19 = .ok (.iconst (-1), 1) := zo_2 (zi_at zh_dX0_numberOf_15_16 3 rfl)
theorem dX0_numberOf_20 : decode cX0_numberOf 20 = .ok (.if_icmp .eq 9, 3) := zo_159 (zi_at zh_dX0_numberOf_15_16 4 rfl) (zi_at zh_dX0_numberOf_15_16 5 rfl) (zi_at zh_dX0_numberOf_15_16 6 rfl) rfl
theorem dX0_numberOf_23 : decode cX0_numberOf 23 = .ok (.iload 5, 2) := zo_21 (zi_at zh_dX0_numberOf_15_16 7 rfl) (zi_at zh_dX0_numberOf_15_16 8 rfl)
theorem dX0_numberOf_25 : decode cX0_numberOf 25 = .ok (.iconst (-1), 1) := zo_2 (zi_at zh_dX0_numberOf_15_16 9 rfl)
theorem dX0_numberOf_26 : decode cX0_numberOf 26 = .ok (.if_icmp .ne 7, 3) := zo_160 (zi_at zh_dX0_numberOf_15_16 10 rfl) (zi_at zh_dX0_numberOf_15_16 11 rfl) (zi_at zh_dX0_numberOf_15_16 12 rfl) rfl
theorem dX0_numberOf_29 : decode cX0_numberOf 29 = .ok (.sipush 1000, 3) := zo_17 (zi_at zh_dX0_numberOf_15_16 13 rfl) (zi_at zh_dX0_numberOf_15_16 14 rfl) (zi_at zh_dX0_numberOf_15_16 15 rfl) rfl
theorem dX0_numberOf_32 : decode cX0_numberOf 32 = .ok (.ireturn, 1) := zo_172 (zi_at zh_dX0_numberOf_32_32 0 rfl)
theorem dX0_numberOf_33 : decode cX0_numberOf 33 = .ok (.aload_n 0, 1) := zo_42 (zi_at zh_dX0_numberOf_32_32 1 rfl)
theorem dX0_numberOf_34 : decode cX0_numberOf 34 = .ok (.getfield 12, 3) := zo_180 (zi_at zh_dX0_numberOf_32_32 2 rfl) (zi_at zh_dX0_numberOf_32_32 3 rfl) (zi_at zh_dX0_numberOf_32_32 4 rfl) rfl
theorem dX0_numberOf_37 : decode cX0_numberOf 37 = .ok (.iload 5, 2) := zo_21 (zi_at zh_dX0_numberOf_32_32 5 rfl) (zi_at zh_dX0_numberOf_32_32 6 rfl)
theorem dX0_numberOf_39 : decode cX0_numberOf 39 = .ok (.invokevirtual 69, 3) := zo_182 (zi_at zh_dX0_numberOf_32_32 7 rfl) (zi_at zh_dX0_numberOf_32_32 8 rfl) (zi_at zh_dX0_numberOf_32_32 9 rfl) rfl
theorem dX0_numberOf_42 : decode cX0_numberOf 42 = .ok (.checkcast 94, 3) := zo_192 (zi_at zh_dX0_numberOf_32_32 10 rfl) (zi_at zh_dX0_numberOf_32_32 11 rfl) (zi_at zh_dX0_numberOf_32_32 12 rfl) rfl
theorem dX0_numberOf_45 : decode cX0_numberOf 45 = .ok (.astore 6, 2) := zo_58 (zi_at zh_dX0_numberOf_32_32 13 rfl) (zi_at zh_dX0_numberOf_32_32 14 rfl)
theorem dX0_numberOf_47 : decode cX0_numberOf 47 = .ok (.aload_n 0, 1) := zo_42 (zi_at zh_dX0_numberOf_32_32 15 rfl)
theorem dX0_numberOf_48 : decode cX0_numberOf 48 = .ok (.invokevirtual 115, 3) := zo_182 (zi_at zh_dX0_numberOf_48_48 0 rfl) (zi_at zh_dX0_numberOf_48_48 1 rfl) (zi_at zh_dX0_numberOf_48_48 2 rfl) rfl
theorem dX0_numberOf_51 : decode cX0_numberOf 51 = .ok (.aload_n 0, 1) := zo_42 (zi_at zh_dX0_numberOf_48_48 3 rfl)
theorem dX0_numberOf_52 : decode cX0_numberOf 52 = .ok (.getfield 41, 3) := zo_180 (zi_at zh_dX0_numberOf_48_48 4 rfl) (zi_at zh_dX0_numberOf_48_48 5 rfl) (zi_at zh_dX0_numberOf_48_48 6 rfl) rfl
theorem dX0_numberOf_55 : decode cX0_numberOf 55 = .ok (.iconst 0, 1) := zo_3 (zi_at zh_dX0_numberOf_48_48 7 rfl)
theorem dX0_numberOf_56 : decode cX0_numberOf 56 = .ok (.aload 6, 2) := zo_25 (zi_at zh_dX0_numberOf_48_48 8 rfl) (zi_at zh_dX0_numberOf_48_48 9 rfl)
theorem dX0_numberOf_58 : decode cX0_numberOf 58 = .ok (.getfield 118, 3) := zo_180 (zi_at zh_dX0_numberOf_48_48 10 rfl) (zi_at zh_dX0_numberOf_48_48 11 rfl) (zi_at zh_dX0_numberOf_48_48 12 rfl) rfl
theorem dX0_numberOf_61 : decode cX0_numberOf 61 = .ok (.iastore, 1) := zo_79 (zi_at zh_dX0_numberOf_48_48 13 rfl)
theorem dX0_numberOf_62 : decode cX0_numberOf 62 = .ok (.aload_n 0, 1) := zo_42 (zi_at zh_dX0_numberOf_48_48 14 rfl)
theorem dX0_numberOf_63 : decode cX0_numberOf 63 = .ok (.getfield 41, 3) := zo_180 (zi_at zh_dX0_numberOf_48_48 15 rfl) (zi_at zh_dX0_numberOf_63_64 0 rfl) (zi_at zh_dX0_numberOf_63_64 1 rfl) rfl
theorem dX0_numberOf_66 : decode cX0_numberOf 66 = .ok (.iconst 1, 1) := zo_4 (zi_at zh_dX0_numberOf_63_64 2 rfl)
theorem dX0_numberOf_67 : decode cX0_numberOf 67 = .ok (.aload 6, 2) := zo_25 (zi_at zh_dX0_numberOf_63_64 3 rfl) (zi_at zh_dX0_numberOf_63_64 4 rfl)
theorem dX0_numberOf_69 : decode cX0_numberOf 69 = .ok (.getfield 121, 3) := zo_180 (zi_at zh_dX0_numberOf_63_64 5 rfl) (zi_at zh_dX0_numberOf_63_64 6 rfl) (zi_at zh_dX0_numberOf_63_64 7 rfl) rfl
theorem dX0_numberOf_72 : decode cX0_numberOf 72 = .ok (.iastore, 1) := zo_79 (zi_at zh_dX0_numberOf_63_64 8 rfl)
theorem dX0_numberOf_73 : decode cX0_numberOf 73 = .ok (.aload_n 0, 1) := zo_42 (zi_at zh_dX0_numberOf_63_64 9 rfl)
theorem dX0_numberOf_74 : decode cX0_numberOf 74 = .ok (.getfield 41, 3) := zo_180 (zi_at zh_dX0_numberOf_63_64 10 rfl) (zi_at zh_dX0_numberOf_63_64 11 rfl) (zi_at zh_dX0_numberOf_63_64 12 rfl) rfl
theorem dX0_numberOf_77 : decode cX0_numberOf 77 = .ok (.iconst 2, 1) := zo_5 (zi_at zh_dX0_numberOf_63_64 13 rfl)
theorem dX0_numberOf_78 : decode cX0_numberOf 78 = .ok (.aload 6, 2) := zo_25 (zi_at zh_dX0_numberOf_63_64 14 rfl) (zi_at zh_dX0_numberOf_63_64 15 rfl)
theorem dX0_numberOf_80 : decode cX0_numberOf 80 = .ok (.getfield 124, 3) := zo_180 (zi_at zh_dX0_numberOf_80_80 0 rfl) (zi_at zh_dX0_numberOf_80_80 1 rfl) (zi_at zh_dX0_numberOf_80_80 2 rfl) rfl
theorem dX0_numberOf_83 : decode cX0_numberOf 83 = .ok (.iastore, 1) := zo_79 (zi_at zh_dX0_numberOf_80_80 3 rfl)
theorem dX0_numberOf_84 : decode cX0_numberOf 84 = .ok (.aload_n 0, 1) := zo_42 (zi_at zh_dX0_numberOf_80_80 4 rfl)
theorem dX0_numberOf_85 : decode cX0_numberOf 85 = .ok (.getfield 18, 3) := zo_180 (zi_at zh_dX0_numberOf_80_80 5 rfl) (zi_at zh_dX0_numberOf_80_80 6 rfl) (zi_at zh_dX0_numberOf_80_80 7 rfl) rfl
theorem dX0_numberOf_88 : decode cX0_numberOf 88 = .ok (.iload 4, 2) := zo_21 (zi_at zh_dX0_numberOf_80_80 8 rfl) (zi_at zh_dX0_numberOf_80_80 9 rfl)
theorem dX0_numberOf_90 : decode cX0_numberOf 90 = .ok (.invokevirtual 69, 3) := zo_182 (zi_at zh_dX0_numberOf_80_80 10 rfl) (zi_at zh_dX0_numberOf_80_80 11 rfl) (zi_at zh_dX0_numberOf_80_80 12 rfl) rfl
theorem dX0_numberOf_93 : decode cX0_numberOf 93 = .ok (.checkcast 103, 3) := zo_192 (zi_at zh_dX0_numberOf_80_80 13 rfl) (zi_at zh_dX0_numberOf_80_80 14 rfl) (zi_at zh_dX0_numberOf_80_80 15 rfl) rfl
theorem dX0_numberOf_96 : decode cX0_numberOf 96 = .ok (.bipush 110, 2) := zo_16 (zi_at zh_dX0_numberOf_96_96 0 rfl) (zi_at zh_dX0_numberOf_96_96 1 rfl) rfl
theorem dX0_numberOf_98 : decode cX0_numberOf 98 = .ok (.aload_n 0, 1) := zo_42 (zi_at zh_dX0_numberOf_96_96 2 rfl)
theorem dX0_numberOf_99 : decode cX0_numberOf 99 = .ok (.getfield 41, 3) := zo_180 (zi_at zh_dX0_numberOf_96_96 3 rfl) (zi_at zh_dX0_numberOf_96_96 4 rfl) (zi_at zh_dX0_numberOf_96_96 5 rfl) rfl
theorem dX0_numberOf_102 : decode cX0_numberOf 102 = .ok (.aload_n 0, 1) := zo_42 (zi_at zh_dX0_numberOf_96_96 6 rfl)
theorem dX0_numberOf_103 : decode cX0_numberOf 103 = .ok (.getfield 45, 3) := zo_180 (zi_at zh_dX0_numberOf_96_96 7 rfl) (zi_at zh_dX0_numberOf_96_96 8 rfl) (zi_at zh_dX0_numberOf_96_96 9 rfl) rfl
theorem dX0_numberOf_106 : decode cX0_numberOf 106 = .ok (.invokevirtual 127, 3) := zo_182 (zi_at zh_dX0_numberOf_96_96 10 rfl) (zi_at zh_dX0_numberOf_96_96 11 rfl) (zi_at zh_dX0_numberOf_96_96 12 rfl) rfl
theorem dX0_numberOf_109 : decode cX0_numberOf 109 = .ok (.sipush 500, 3) := zo_17 (zi_at zh_dX0_numberOf_96_96 13 rfl) (zi_at zh_dX0_numberOf_96_96 14 rfl) (zi_at zh_dX0_numberOf_96_96 15 rfl) rfl
theorem dX0_numberOf_112 : decode cX0_numberOf 112 = .ok (.sipush 2000, 3) := zo_17 (zi_at zh_dX0_numberOf_112_112 0 rfl) (zi_at zh_dX0_numberOf_112_112 1 rfl) (zi_at zh_dX0_numberOf_112_112 2 rfl) rfl
theorem dX0_numberOf_115 : decode cX0_numberOf 115 = .ok (.invokestatic 131, 3) := zo_184 (zi_at zh_dX0_numberOf_112_112 3 rfl) (zi_at zh_dX0_numberOf_112_112 4 rfl) (zi_at zh_dX0_numberOf_112_112 5 rfl) rfl
theorem dX0_numberOf_118 : decode cX0_numberOf 118 = .ok (.ireturn, 1) := zo_172 (zi_at zh_dX0_numberOf_112_112 6 rfl)
theorem dX12_number_0 : decode cX12_number 0 = .ok (.aload_n 0, 1) := zo_42 (zi_at zh_dX12_number_0_0 0 rfl)
theorem dX12_number_1 : decode cX12_number 1 = .ok (.getfield 10, 3) := zo_180 (zi_at zh_dX12_number_0_0 1 rfl) (zi_at zh_dX12_number_0_0 2 rfl) (zi_at zh_dX12_number_0_0 3 rfl) rfl
theorem dX12_number_4 : decode cX12_number 4 = .ok (.iload_n 1, 1) := zo_27 (zi_at zh_dX12_number_0_0 4 rfl)
theorem dX12_number_5 : decode cX12_number 5 = .ok (.invokevirtual 66, 3) := zo_182 (zi_at zh_dX12_number_0_0 5 rfl) (zi_at zh_dX12_number_0_0 6 rfl) (zi_at zh_dX12_number_0_0 7 rfl) rfl
theorem dX12_number_8 : decode cX12_number 8 = .ok (.ifCond .eq 21, 3) := zo_153 (zi_at zh_dX12_number_0_0 8 rfl) (zi_at zh_dX12_number_0_0 9 rfl) (zi_at zh_dX12_number_0_0 10 rfl) rfl
theorem dX12_number_11 : decode cX12_number 11 = .ok (.iload_n 2, 1) := zo_28 (zi_at zh_dX12_number_0_0 11 rfl)
theorem dX12_number_12 : decode cX12_number 12 = .ok (.invokestatic 70, 3) := zo_184 (zi_at zh_dX12_number_0_0 12 rfl) (zi_at zh_dX12_number_0_0 13 rfl) (zi_at zh_dX12_number_0_0 14 rfl) rfl
theorem dX12_number_15 : decode cX12_number 15 = .ok (.ifCond .eq 14, 3) := zo_153 (zi_at zh_dX12_number_0_0 15 rfl) (zi_at zh_dX12_number_15_16 0 rfl) (zi_at zh_dX12_number_15_16 1 rfl) rfl
theorem dX12_number_18 : decode cX12_number 18 = .ok (.aload_n 0, 1) := zo_42 (zi_at zh_dX12_number_15_16 2 rfl)
theorem dX12_number_19 : decode cX12_number 19 = .ok (.getfield 10, 3) := zo_180 (zi_at zh_dX12_number_15_16 3 rfl) (zi_at zh_dX12_number_15_16 4 rfl) (zi_at zh_dX12_number_15_16 5 rfl) rfl
theorem dX12_number_22 : decode cX12_number 22 = .ok (.iload_n 3, 1) := zo_29 (zi_at zh_dX12_number_15_16 6 rfl)
theorem dX12_number_23 : decode cX12_number 23 = .ok (.invokevirtual 92, 3) := zo_182 (zi_at zh_dX12_number_15_16 7 rfl) (zi_at zh_dX12_number_15_16 8 rfl) (zi_at zh_dX12_number_15_16 9 rfl) rfl
theorem dX12_number_26 : decode cX12_number 26 = .ok (.ifCond .ne 5, 3) := zo_154 (zi_at zh_dX12_number_15_16 10 rfl) (zi_at zh_dX12_number_15_16 11 rfl) (zi_at zh_dX12_number_15_16 12 rfl) rfl
theorem dX12_number_29 : decode cX12_number 29 = .ok (.iconst (-1), 1) := zo_2 (zi_at zh_dX12_number_15_16 13 rfl)
theorem dX12_number_30 : decode cX12_number 30 = .ok (.ireturn, 1) := zo_172 (zi_at zh_dX12_number_15_16 14 rfl)
theorem dX12_number_31 : decode cX12_number 31 = .ok (.aload_n 0, 1) := zo_42 (zi_at zh_dX12_number_15_16 15 rfl)
theorem dX12_number_32 : decode cX12_number 32 = .ok (.getfield 10, 3) := zo_180 (zi_at zh_dX12_number_32_32 0 rfl) (zi_at zh_dX12_number_32_32 1 rfl) (zi_at zh_dX12_number_32_32 2 rfl) rfl
theorem dX12_number_35 : decode cX12_number 35 = .ok (.iload_n 1, 1) := zo_27 (zi_at zh_dX12_number_32_32 3 rfl)
theorem dX12_number_36 : decode cX12_number 36 = .ok (.iload_n 2, 1) := zo_28 (zi_at zh_dX12_number_32_32 4 rfl)
theorem dX12_number_37 : decode cX12_number 37 = .ok (.iload_n 3, 1) := zo_29 (zi_at zh_dX12_number_32_32 5 rfl)
theorem dX12_number_38 : decode cX12_number 38 = .ok (.invokevirtual 124, 3) := zo_182 (zi_at zh_dX12_number_32_32 6 rfl) (zi_at zh_dX12_number_32_32 7 rfl) (zi_at zh_dX12_number_32_32 8 rfl) rfl
theorem dX12_number_41 : decode cX12_number 41 = .ok (.ireturn, 1) := zo_172 (zi_at zh_dX12_number_32_32 9 rfl)
theorem dX12_held_0 : decode cX12_held 0 = .ok (.iload_n 0, 1) := zo_26 (zi_at zh_dX12_held_0_0 0 rfl)
theorem dX12_held_1 : decode cX12_held 1 = .ok (.iload_n 1, 1) := zo_27 (zi_at zh_dX12_held_0_0 1 rfl)
theorem dX12_held_2 : decode cX12_held 2 = .ok (.if_icmp .ge 7, 3) := zo_162 (zi_at zh_dX12_held_0_0 2 rfl) (zi_at zh_dX12_held_0_0 3 rfl) (zi_at zh_dX12_held_0_0 4 rfl) rfl
theorem dX12_held_5 : decode cX12_held 5 = .ok (.iload_n 1, 1) := zo_27 (zi_at zh_dX12_held_0_0 5 rfl)
theorem dX12_held_6 : decode cX12_held 6 = .ok (.goto 13, 3) := zo_167 (zi_at zh_dX12_held_0_0 6 rfl) (zi_at zh_dX12_held_0_0 7 rfl) (zi_at zh_dX12_held_0_0 8 rfl) rfl
theorem dX12_held_9 : decode cX12_held 9 = .ok (.iload_n 0, 1) := zo_26 (zi_at zh_dX12_held_0_0 9 rfl)
theorem dX12_held_10 : decode cX12_held 10 = .ok (.iload_n 2, 1) := zo_28 (zi_at zh_dX12_held_0_0 10 rfl)
theorem dX12_held_11 : decode cX12_held 11 = .ok (.if_icmp .le 7, 3) := zo_164 (zi_at zh_dX12_held_0_0 11 rfl) (zi_at zh_dX12_held_0_0 12 rfl) (zi_at zh_dX12_held_0_0 13 rfl) rfl
theorem dX12_held_14 : decode cX12_held 14 = .ok (.iload_n 2, 1) := zo_28 (zi_at zh_dX12_held_0_0 14 rfl)
theorem dX12_held_15 : decode cX12_held 15 = .ok (.goto 4, 3) := zo_167 (zi_at zh_dX12_held_0_0 15 rfl) (zi_at zh_dX12_held_15_16 0 rfl) (zi_at zh_dX12_held_15_16 1 rfl) rfl
theorem dX12_held_18 : decode cX12_held 18 = .ok (.iload_n 0, 1) := zo_26 (zi_at zh_dX12_held_15_16 2 rfl)
theorem dX12_held_19 : decode cX12_held 19 = .ok (.ireturn, 1) := zo_172 (zi_at zh_dX12_held_15_16 3 rfl)
theorem hz_yX12_held_3 : yX12_held.cls ≠ "java/lang/invoke/MethodHandle" ∧ yX12_held.cls ≠ "java/lang/invoke/VarHandle" ∧ (parseMethodDescriptor yX12_held.desc).map (fun d => d.parameters.length) = some 3 := by decide +kernel
theorem hz_yX0_numberOf_3 : yX0_numberOf.cls ≠ "java/lang/invoke/MethodHandle" ∧ yX0_numberOf.cls ≠ "java/lang/invoke/VarHandle" ∧ (parseMethodDescriptor yX0_numberOf.desc).map (fun d => d.parameters.length) = some 3 := by decide +kernel

/-! ===== letters ===== -/
def lz : Nat → Int32 := fun _ => 0
def lset (L : Nat → Int32) (p : Nat) (v : Int32) : Nat → Int32 := fun q => if q = p then v else L q
theorem lz_b : ∀ p, B7 (lz p) := fun _ => ⟨(by decide : (-16777216 : Int) ≤ (0 : Int32).toInt), (by decide : (0 : Int32).toInt ≤ 16777215)⟩
theorem ls_b {L : Nat → Int32} {p : Nat} {v : Int32} (h : ∀ q, B7 (L q)) (hv : B7 v) : ∀ q, B7 (lset L p v q) := fun q => by
  unfold lset
  by_cases e : q = p
  · rw [if_pos e]
    exact hv
  · rw [if_neg e]
    exact h q
theorem fl_s {E E1 : Nat → va_E} {o : Nat} {x y v : Int32} (h : ∀ j, j < x.toNatClampNeg → xi (E o) j = v) (p : Pw E E1 o x.toNatClampNeg (.int v)) (t : y.toInt = x.toInt + 1) (h0 : 0 ≤ x.toInt) : ∀ j, j < y.toNatClampNeg → xi (E1 o) j = v := fun j hj => by
  have e : y.toNatClampNeg = x.toNatClampNeg + 1 := by
    rw [tn_, tn_]
    omega
  by_cases q : j = x.toNatClampNeg
  · rw [q]
    exact vi_e p.1
  · rw [show xi (E1 o) j = xi (E o) j from congrArg vi (p.2 o j (fun r => q r.2))]
    exact h j (by omega)
theorem cL_0 {E : Nat → va_E} (h : ∀ j, j < 14 → xi (E 19) j = 0) : cL E = lz := funext (fun p => by
  unfold cL lz
  by_cases q : p < 14
  · rw [if_pos q]
    exact h p q
  · rw [if_neg q])
theorem cL_set {E E1 : Nat → va_E} {x v : Int32} {k : Nat} (p : Pw E E1 19 x.toNatClampNeg (.int v)) (hx : x.toNatClampNeg = k) (hk : k < 14) : cL E1 = lset (cL E) k v := funext (fun q => by
  rw [hx] at p
  unfold cL lset
  by_cases e : q = k
  · rw [if_pos e, e, if_pos hk]
    exact vi_e p.1
  · rw [if_neg e, show xi (E1 19) q = xi (E 19) q from congrArg vi (p.2 19 q (fun r => e r.2))])
theorem let_ne : ∀ p, p < 14 → ∀ q, q < 14 → q ≠ p → (lets.getD q 0).toNat ≠ (lets.getD p 0).toNat := by decide
theorem let_nz : ∀ p, p < 14 → 0 ≠ (lets.getD p 0).toNat := by decide
theorem let_128 : ∀ p, p < 14 → (lets.getD p 0).toNat < 128 := by decide
theorem let_hi {q : Nat} (h : 14 ≤ q) : lets.getD q 0 = 0 := by
  rw [List.getD_eq_getElem?_getD, List.getElem?_eq_none (show lets.length ≤ q from h)]
  rfl
theorem mL_0 {E : Nat → va_E} (h : ∀ j, j < 128 → xi (E 12) j = 0) : mLt E = lz := funext (fun p => by
  unfold mLt lz
  by_cases q : p < 14
  · exact h _ (let_128 p q)
  · rw [let_hi (by omega)]
    exact h 0 (by decide))
theorem mL_set {E E1 : Nat → va_E} {x v : Int32} {k : Nat} (p : Pw E E1 12 x.toNatClampNeg (.int v)) (hk : k < 14) (hx : x.toNatClampNeg = (lets.getD k 0).toNat) : mLt E1 = lset (mLt E) k v := funext (fun q => by
  rw [hx] at p
  unfold mLt lset
  by_cases e : q = k
  · rw [if_pos e, e]
    exact vi_e p.1
  · rw [if_neg e]
    refine congrArg vi (p.2 12 _ (fun r => ?_))
    by_cases c : q < 14
    · exact let_ne k hk q c e r.2
    · rw [let_hi (by omega)] at r
      exact let_nz k hk r.2)
/-! ===== RULES of the class ===== -/
def RulAll (cf : Nat → Nat) (E : Nat → va_E) : Prop := ∀ i, i < cf 1 → RulOk E i (cf (8 + 2 * i)) (cf (9 + 2 * i))
theorem rul_cg {E E' : Nat → va_E} {i : Nat} (h : ∀ t, 2 ≤ t → t < 6 → ∀ j, xi (E' (64 * (i + 1) + t)) j = xi (E (64 * (i + 1) + t)) j) : rSt E' i = rSt E i ∧ rLa E' i = rLa E i ∧ rBe E' i = rBe E i ∧ rSu E' i = rSu E i := ⟨funext (fun j => congrArg Int32.toInt (h 2 (by decide) (by decide) j)), funext (fun j => congrArg Int32.toInt (h 3 (by decide) (by decide) j)), funext (fun j => congrArg Int32.toInt (h 4 (by decide) (by decide) j)), funext (fun j => congrArg Int32.toInt (h 5 (by decide) (by decide) j))⟩
theorem RulOk.cg {E E' : Nat → va_E} {i m s : Nat} (h : RulOk E i m s) (hc : ∀ t, 2 ≤ t → t < 6 → ∀ j, xi (E' (64 * (i + 1) + t)) j = xi (E (64 * (i + 1) + t)) j) : RulOk E' i m s := by
  obtain ⟨e1, e2, e3, e4⟩ := rul_cg hc
  unfold RulOk
  rw [e1, e3, e4]
  exact h
theorem clE_cg {E E' : Nat → va_E} {i m : Nat} (hc : ∀ t, 2 ≤ t → t < 6 → ∀ j, xi (E' (64 * (i + 1) + t)) j = xi (E (64 * (i + 1) + t)) j) : clE E' i m = clE E i m := by
  obtain ⟨e1, e2, e3, e4⟩ := rul_cg hc
  unfold clE
  rw [e1, e2, e3, e4]
theorem kp_rul {w : Nat → Nat → Bool} {E E' : Nat → va_E} (hk : Kp w E E') (hw : ∀ o, 64 ≤ o → ∀ j, w o j = false) (i : Nat) : ∀ t, 2 ≤ t → t < 6 → ∀ j, xi (E' (64 * (i + 1) + t)) j = xi (E (64 * (i + 1) + t)) j := fun t _ _ j => congrArg vi (hk _ j (hw _ (by omega) j))
theorem RulAll.kp {cf : Nat → Nat} {w : Nat → Nat → Bool} {E E' : Nat → va_E} (h : RulAll cf E) (hk : Kp w E E') (hw : ∀ o, 64 ≤ o → ∀ j, w o j = false) : RulAll cf E' := fun i hi => (h i hi).cg (kp_rul hk hw i)
/-! ===== NUMBER ===== -/
theorem cO_in {gB gF gT : Nat → Int32} {boat day q : Int32} : ∀ n : Nat, n ≤ 4000 → (cO gB gF gT boat day q n).toInt = -1 ∨ (0 ≤ (cO gB gF gT boat day q n).toInt ∧ (cO gB gF gT boat day q n).toInt < (n : Int)) := by
  intro n
  induction n with
  | zero => exact fun _ => Or.inl rfl
  | succ n ih =>
    intro hn
    by_cases c : gB n = boat ∧ gT n ≤ q ∧ gF n ≤ day ∧ (cO gB gF gT boat day q n = -1 ∨ gF (cO gB gF gT boat day q n).toNatClampNeg ≤ gF n)
    · rw [show cO gB gF gT boat day q (n + 1) = nI n from if_pos c, nI_toInt (by omega)]
      exact Or.inr ⟨by omega, by omega⟩
    · rw [show cO gB gF gT boat day q (n + 1) = cO gB gF gT boat day q n from if_neg c]
      exact (ih (by omega)).imp id (fun h => ⟨h.1, by omega⟩)
/-- NUMBER out of RULES, CERTIFICATE and what RULES say of letters -/
def nuA (law paper a b c : Int32) (W : (Nat → Int32) → Int32) : Int := if law.toInt = -1 ∨ paper.toInt = -1 then 1000 else max 500 (min 2000 (W (lset (lset (lset lz 0 a) 1 b) 2 c)).toInt)
theorem nuA_0 {law paper a b c : Int32} {W : (Nat → Int32) → Int32} (h : law.toInt = -1 ∨ paper.toInt = -1) : (1000 : Int32).toInt = nuA law paper a b c W := by
  unfold nuA
  rw [if_pos h]
  rfl
theorem nuA_1 {law paper a b c w : Int32} {n : Int} {W : (Nat → Int32) → Int32} (h : ¬ law.toInt = -1) (h1 : ¬ paper.toInt = -1) (hw : w = W (lset (lset (lset lz 0 a) 1 b) 2 c)) (hn : n = max 500 (min 2000 w.toInt)) : n = nuA law paper a b c W := by
  unfold nuA
  rw [if_neg (fun q => q.elim h h1), hn, hw]
def lawC (cf : Nat → Nat) (E : Nat → va_E) (day q : Int32) : Int32 := cO (fun _ => 0) (fun k9 => xi (E (64 * (k9 + 1) + 1)) 0) (fun k9 => xi (E (64 * (k9 + 1) + 1)) 1) 0 day q (cf 1)
def papC (cf : Nat → Nat) (E : Nat → va_E) (boat day q : Int32) : Int32 := cO (fun k9 => xi (E (64 * (k9 + 1) + 0)) 0) (fun k9 => xi (E (64 * (k9 + 1) + 0)) 1) (fun k9 => xi (E (64 * (k9 + 1) + 0)) 2) boat day q (cf 0)
/-- WORTH of a label by RULES k -/
def wC (cf : Nat → Nat) (E : Nat → va_E) (lab : Int) (k : Nat) (L : Nat → Int32) : Int32 := wo L lab (clE E k (cf (8 + 2 * k)))
def numC (cf : Nat → Nat) (E : Nat → va_E) (boat day q : Int32) : Int := nuA (lawC cf E day q) (papC cf E boat day q) (xi (E (64 * ((papC cf E boat day q).toNatClampNeg + 1) + 0)) 3) (xi (E (64 * ((papC cf E boat day q).toNatClampNeg + 1) + 0)) 4) (xi (E (64 * ((papC cf E boat day q).toNatClampNeg + 1) + 0)) 5) (wC cf E 110 (lawC cf E day q).toNatClampNeg)
def lawM (E : Nat → va_E) (day q : Int32) : Int32 := cO (fun _ => 0) (xi (E 10)) (xi (E 11)) 0 day q (xi (E 0) 17).toNatClampNeg
def papM (E : Nat → va_E) (boat day q : Int32) : Int32 := cO (xi (E 1)) (xi (E 2)) (xi (E 6)) boat day q (xi (E 0) 9).toNatClampNeg
def numM (E : Nat → va_E) (boat day q : Int32) : Int := if (papM E boat day q).toInt = -1 then 1000 else max 500 (min 2000 (wML (lset (lset (lset lz 0 (xi (E 3) (papM E boat day q).toNatClampNeg)) 1 (xi (E 4) (papM E boat day q).toNatClampNeg)) 2 (xi (E 5) (papM E boat day q).toNatClampNeg)) E 110 (lawM E day q)).toInt)
theorem mTx_cg {E E' : Nat → va_E} {k : Nat} (h : ∀ j, xi (E' 8) j = xi (E 8) j) (h1 : ∀ j, xi (E' 9) j = xi (E 9) j) : mTx E' k = mTx E k := by
  unfold mTx
  rw [h1, show mBn (xi (E' 8)) (200 * k) = mBn (xi (E 8)) (200 * k) from funext (fun j => by unfold mBn; rw [h])]
theorem wML_cg {L : Nat → Int32} {E E' : Nat → va_E} {lab : Int} {k : Int32} (h : ∀ j, xi (E' 8) j = xi (E 8) j) (h1 : ∀ j, xi (E' 9) j = xi (E 9) j) : wML L E' lab k = wML L E lab k := by
  unfold wML
  rw [mTx_cg h h1]
theorem TXM.cg {E E' : Nat → va_E} (hx : TXM E) (h : ∀ j, xi (E' 8) j = xi (E 8) j) (h1 : ∀ j, xi (E' 9) j = xi (E 9) j) (h2 : xi (E' 0) 17 = xi (E 0) 17) : TXM E' := fun k hk => by
  rw [mTx_cg h h1]
  rw [h2] at hk
  exact hx k hk
theorem numM_0 {E : Nat → va_E} {boat day q : Int32} (h : (papM E boat day q).toInt = -1) : (1000 : Int32).toInt = numM E boat day q := by
  unfold numM
  rw [if_pos h]
  rfl
theorem numM_1 {E : Nat → va_E} {boat day q w c : Int32} {n : Int} (hc : c = papM E boat day q) (h : ¬ c.toInt = -1) (hw : w = wML (lset (lset (lset lz 0 (xi (E 3) c.toNatClampNeg)) 1 (xi (E 4) c.toNatClampNeg)) 2 (xi (E 5) c.toNatClampNeg)) E 110 (lawM E day q)) (hn : n = max 500 (min 2000 w.toInt)) : n = numM E boat day q := by
  unfold numM
  rw [← hc, if_neg h, hn, hw]
theorem numM_cg {E E' : Nat → va_E} {boat day q : Int32} (h : ∀ o ∈ [1, 2, 6, 10, 11, 8, 9, 3, 4, 5], ∀ j, xi (E' o) j = xi (E o) j) (h1 : xi (E' 0) 17 = xi (E 0) 17) (h2 : xi (E' 0) 9 = xi (E 0) 9) : numM E' boat day q = numM E boat day q := by
  have g : ∀ o ∈ [1, 2, 6, 10, 11, 8, 9, 3, 4, 5], xi (E' o) = xi (E o) := fun o ho => funext (h o ho)
  have hp : papM E' boat day q = papM E boat day q := by
    unfold papM
    rw [g 1 (by decide), g 2 (by decide), g 6 (by decide), h2]
  have hl : lawM E' day q = lawM E day q := by
    unfold lawM
    rw [g 10 (by decide), g 11 (by decide), h1]
  unfold numM
  rw [hp, hl, g 3 (by decide), g 4 (by decide), g 5 (by decide), wML_cg (E := E) (h 8 (by decide)) (h 9 (by decide))]
theorem numM_kp {w : Nat → Nat → Bool} {E E' : Nat → va_E} {boat day q : Int32} (hk : Kp w E E') (hw : ∀ o ∈ [1, 2, 6, 10, 11, 8, 9, 3, 4, 5], ∀ j, w o j = false) (h1 : w 0 17 = false) (h2 : w 0 9 = false) : numM E' boat day q = numM E boat day q := numM_cg (fun o ho j => congrArg vi (hk o j (hw o ho j))) (congrArg vi (hk 0 17 h1)) (congrArg vi (hk 0 9 h2))
/-- both sides -/
def RuRel (cf : Nat → Nat) (E EM : Nat → va_E) : Prop := RulAll cf E ∧ (xi (EM 0) 17).toInt = ((cf 1 : Nat) : Int) ∧ (∀ i, i < cf 1 → xi (E (64 * (i + 1) + 1)) 0 = xi (EM 10) i ∧ xi (E (64 * (i + 1) + 1)) 1 = xi (EM 11) i) ∧ ∀ i, i < cf 1 → ∃ a, mTx EM i = .good a (clE E i (cf (8 + 2 * i)))
theorem RuRel.txm {cf : Nat → Nat} {E EM : Nat → va_E} (h : RuRel cf E EM) : TXM EM := fun k hk => by
  obtain ⟨a1, a2, a3, a4⟩ := h
  obtain ⟨a, e⟩ := a4 k (by omega)
  rw [e]
  rfl
theorem cO_cg9 {gB gF gT gB' gF' gT' : Nat → Int32} {boat day q : Int32} : ∀ n : Nat, n ≤ 4000 → (∀ k, k < n → gB k = gB' k ∧ gF k = gF' k ∧ gT k = gT' k) → cO gB gF gT boat day q n = cO gB' gF' gT' boat day q n := by
  intro n
  induction n with
  | zero => exact fun _ _ => rfl
  | succ n ih =>
    intro hn h
    have i1 := ih (by omega) (fun k hk => h k (by omega))
    obtain ⟨e1, e2, e3⟩ := h n (by omega)
    have i2 := cO_in (gB := gB') (gF := gF') (gT := gT') (boat := boat) (day := day) (q := q) n (by omega)
    have hc : (cO gB gF gT boat day q n = -1 ∨ gF (cO gB gF gT boat day q n).toNatClampNeg ≤ gF n) ↔ (cO gB' gF' gT' boat day q n = -1 ∨ gF' (cO gB' gF' gT' boat day q n).toNatClampNeg ≤ gF' n) := by
      rw [i1, e2]
      rcases i2 with i2 | i2
      · have i3 : cO gB' gF' gT' boat day q n = -1 := Int32.toInt_inj.mp i2
        exact ⟨fun _ => Or.inl i3, fun _ => Or.inl i3⟩
      · rw [(h _ (by rw [tn_]; omega)).2.1]
    by_cases c : gB' n = boat ∧ gT' n ≤ q ∧ gF' n ≤ day ∧ (cO gB' gF' gT' boat day q n = -1 ∨ gF' (cO gB' gF' gT' boat day q n).toNatClampNeg ≤ gF' n)
    · have k1 : cO gB gF gT boat day q (n + 1) = nI n := if_pos ⟨e1.trans c.1, by rw [e3]; exact c.2.1, by rw [e2]; exact c.2.2.1, hc.mpr c.2.2.2⟩
      have k2 : cO gB' gF' gT' boat day q (n + 1) = nI n := if_pos c
      exact k1.trans k2.symm
    · have k1 : cO gB gF gT boat day q (n + 1) = cO gB gF gT boat day q n := if_neg (fun d => c ⟨e1.symm.trans d.1, by rw [← e3]; exact d.2.1, by rw [← e2]; exact d.2.2.1, hc.mp d.2.2.2⟩)
      have k2 : cO gB' gF' gT' boat day q (n + 1) = cO gB' gF' gT' boat day q n := if_neg c
      exact (k1.trans i1).trans k2.symm
theorem RuRel.law {cf : Nat → Nat} {E EM : Nat → va_E} (h : RuRel cf E EM) (h16 : cf 1 ≤ 16) (day q : Int32) : lawC cf E day q = lawM EM day q := by
  obtain ⟨a1, a2, a3, a4⟩ := h
  unfold lawC lawM
  rw [show (xi (EM 0) 17).toNatClampNeg = cf 1 by rw [tn_]; omega]
  exact cO_cg9 (cf 1) (by omega) (fun k hk => ⟨rfl, (a3 k hk).1, (a3 k hk).2⟩)
/-- WORTH is the same on both sides -/
theorem RuRel.worth {cf : Nat → Nat} {E EM : Nat → va_E} (h : RuRel cf E EM) {lab : Int} {k : Int32} {L : Nat → Int32} (h0 : 0 ≤ k.toInt) (h1 : k.toInt < ((cf 1 : Nat) : Int)) : wC cf E lab k.toNatClampNeg L = wML L EM lab k := by
  obtain ⟨a1, a2, a3, a4⟩ := h
  obtain ⟨a, e⟩ := a4 k.toNatClampNeg (by rw [tn_]; omega)
  unfold wML wC
  rw [if_neg (by omega), e]
  rfl
/-- CERTIFICATES alike -/
def CeRel (cf : Nat → Nat) (E EM : Nat → va_E) : Prop := (xi (EM 0) 9).toInt = ((cf 0 : Nat) : Int) ∧ ∀ i, i < cf 0 → xi (E (64 * (i + 1) + 0)) 0 = xi (EM 1) i ∧ xi (E (64 * (i + 1) + 0)) 1 = xi (EM 2) i ∧ xi (E (64 * (i + 1) + 0)) 2 = xi (EM 6) i ∧ xi (E (64 * (i + 1) + 0)) 3 = xi (EM 3) i ∧ xi (E (64 * (i + 1) + 0)) 4 = xi (EM 4) i ∧ xi (E (64 * (i + 1) + 0)) 5 = xi (EM 5) i
theorem num_eq {cf : Nat → Nat} {E EM : Nat → va_E} (h : RuRel cf E EM) (hc : CeRel cf E EM) (h16 : cf 1 ≤ 16) (h80 : cf 0 ≤ 80) (boat day q : Int32) : numC cf E boat day q = numM EM boat day q := by
  obtain ⟨c1, c2⟩ := hc
  have hp : papC cf E boat day q = papM EM boat day q := by
    unfold papC papM
    rw [show (xi (EM 0) 9).toNatClampNeg = cf 0 by rw [tn_]; omega]
    exact cO_cg9 (cf 0) (by omega) (fun k hk => ⟨(c2 k hk).1, (c2 k hk).2.1, (c2 k hk).2.2.1⟩)
  have hl := h.law h16 day q
  have i1 : (lawC cf E day q).toInt = -1 ∨ _ := cO_in (cf 1) (by omega)
  have i0 : (papC cf E boat day q).toInt = -1 ∨ _ := cO_in (cf 0) (by omega)
  unfold numC numM nuA
  rw [← hp, ← hl]
  by_cases e : (papC cf E boat day q).toInt = -1
  · rw [if_pos (Or.inr e), if_pos e]
  · rw [if_neg e]
    have g0 : 0 ≤ (papC cf E boat day q).toInt ∧ (papC cf E boat day q).toInt < ((cf 0 : Nat) : Int) := i0.elim (fun q9 => absurd q9 e) id
    obtain ⟨-, -, -, d3, d4, d5⟩ := c2 (papC cf E boat day q).toNatClampNeg (by rw [tn_]; omega)
    rw [d3, d4, d5]
    by_cases e1 : (lawC cf E day q).toInt = -1
    · rw [if_pos (Or.inl e1)]
      unfold wML
      rw [if_pos e1]
      decide
    · have g1 : 0 ≤ (lawC cf E day q).toInt ∧ (lawC cf E day q).toInt < ((cf 1 : Nat) : Int) := i1.elim (fun q9 => absurd q9 e1) id
      rw [if_neg (fun q9 => q9.elim e1 e), h.worth g1.1 g1.2]
section
def v_fill19X : List Cond := .code yJ7_fill_53178 cJ7_fill_53178 4 none :: vA
abbrev rm_fill19X : Room := { frames := 0, cells := 0, slots := 0, locals := 0 }
def w_fill19X : Nat → Nat → Bool := wl [19] []
set_option maxHeartbeats 4000000 in
set_option maxRecDepth 100000 in
theorem q_fill19X (l : Launch) (dC : Nat → ClassId) (dI : Nat → Nat → Nat) (cT : Nat → ClassId) (cf : Nat → Nat) (hC : CF cf) (ad : Nat → Nat) (E : Nat → va_E) (sz : Nat) (a1 : Int32) (hI0 : IXL cT (shC cf) (spC cf) (LC cf) ad E)  : Met l yJ7_fill_53178 v_fill19X rm_fill19X (va_Pc [.ref (ad 19), .int a1] (HWL dC dI (TYC cT) cf ad E sz)) (va_Qv (S := Nat → va_E) (fun u => IXL cT (shC cf) (spC cf) (LC cf) ad u ∧ Kp w_fill19X E u ∧ ((∀ j9, j9 < 14 → xi (u 19) j9 = a1))) (HBL dC dI (LC cf) ad) (va_A (WL (LC cf) ad E) sz)) 0 0 (va_A (WL (LC cf) ad E) sz) := by
  obtain ⟨⟨hc0, hc1, hc2, hc3, hc4, hc5⟩, hcr⟩ := id hC
  refine Met.ofW (cc := cJ7_fill_53178) (maxL := 4) (ret := none) (by decide) rfl ?_
  intro p e s m args below meth c s₁ B hml hv
  obtain ⟨hargs, hsz, hP, hK, hD0, hEV⟩ := hv
  subst hsz
  have hx := B.exec
  have hb := B.bytes
  have hr := B.returns
  have hts := atoms_spec (ws := v_fill19X) B.pre
  have hown : s.vm.findClass RJ7 = some m.cls := findClass_of_methodNamed B.named
  have hlocks := B.notSynchronized
  generalize hAe : va_A (WL (LC cf) ad E) s.heap.size = A at hEV ⊢
  have hA : ∀ q : Nat, s.heap.size ≤ q → A q := fun q h => by rw [← hAe]; exact Or.inr h
  have hD : va_D A (WL (LC cf) ad E) := by rw [← hAe]; exact hD0.self
  have hS : va_S A s.heap s.heap [] := va_S.rf
  have hI := hI0
  have hKp : Kp w_fill19X E E := Kp.rf
  have hl := lv_entry ([.ref (ad 19), .int a1]) (n := 4) (Nat.le_of_ble_eq_true rfl)
  obtain ⟨Q, hQ⟩ : ∃ Q, Q = MQ below (va_Qv (S := Nat → va_E) (fun u => IXL cT (shC cf) (spC cf) (LC cf) ad u ∧ Kp w_fill19X E u ∧ ((∀ j9, j9 < 14 → xi (u 19) j9 = a1))) (HBL dC dI (LC cf) ad) (A)) args s 0 0 (A) := ⟨_, rfl⟩
  rw [← hQ, show entryFrame m args 4 = _ from (congrArg (fun z => entryFrame m z 4) hargs).trans (lg_entry_eq _ _ _)]
  generalize (lg_sl ([.ref (ad 19), .int a1]) ++ List.replicate (4 - (lg_sl ([.ref (ad 19), .int a1])).length) Slot.unset).toArray = ls at hl ⊢
  have hl : lv_has ls 4 [(0, .ref (ad 19)), (1, .int a1)] := hl
  refine lv_iconst (v := 0) hx hb dJ7_fill_53178_0 (by decide) ?_
  refine lv_istore_n (lv' := [(2, .int 0), (0, .ref (ad 19)), (1, .int a1)]) hx hb dJ7_fill_53178_1 rfl hl (by decide) rfl (fun ls hl => ?_)
  refine lv_aload_n hx hb dJ7_fill_53178_2 rfl (lv_at hl 1 rfl) ?_
  refine va_alen (v := 14) hx hb hK hP (posL 19 (LC cf)) 0 (hI.ar 19 (mF 19 rfl) rfl) rfl rfl dJ7_fill_53178_3 ?_
  refine lv_istore_n (lv' := [(3, .int 14), (2, .int 0), (0, .ref (ad 19)), (1, .int a1)]) hx hb dJ7_fill_53178_4 rfl hl (by decide) rfl (fun ls hl => ?_)
  have hL5 : ∀ d : Nat, ∀ (v5_2 : Int32) (E5_ : Nat → va_E) (H : Heap) (locs : List Loc) (ls : Array Slot), 0 ≤ v5_2.toInt ∧ v5_2.toInt ≤ 14 → (∀ j9, j9 < v5_2.toNatClampNeg → xi (E5_ 19) j9 = a1) → 14 - v5_2.toInt < (d : Int) → IXL cT (shC cf) (spC cf) (LC cf) ad E5_ → Kp w_fill19X E E5_ → va_P (dC, dI) vwCl (WL (LC cf) ad E5_) H → va_S A s.heap H locs → lv_has ls 4 [(3, .int 14), (2, .int v5_2), (0, .ref (ad 19)), (1, .int a1)] → W p l e (headSpec v_fill19X rm_fill19X).room s m args below meth c H locs 0 0 Q (F0 m 5 ls []) := by
    intro d
    induction d with
    | zero =>
      intro v5_2 E5_ H locs ls hv5_2 hx5_0 hx5_1 hI hKp hP hS hl
      exact absurd hx5_1 (by first | exact ms_zu hv5_2.2 | omega)
    | succ d ih5 =>
      intro v5_2 E5_ H locs ls hv5_2 hx5_0 hx5_1 hI hKp hP hS hl
      refine lv_iload_n hx hb dJ7_fill_53178_5 rfl (lv_at hl 1 rfl) ?_
      refine lv_iload_n hx hb dJ7_fill_53178_6 rfl (lv_at hl 0 rfl) ?_
      refine lv_icmp_ge (tgt := 20) hx hb dJ7_fill_53178_7 (by decide) (fun c1 => ?_) (fun c1 => ?_)
      · --7 taken
        have t2 : (14 : Int) ≤ v5_2.toInt := ti_le c1
        have i3 : 14 ≤ v5_2.toInt ∧ v5_2.toInt ≤ 14 := iv_le_r t2 (il_ 14) hv5_2 (by decide)
        rw [hQ]
        exact W.vret hx hb hr (fun t ht hW => ⟨⟨E5_, rfl, ⟨hI, hKp, fun j9 hj9 => hx5_0 j9 (by rw [tn_]; omega)⟩, by show va_P (dC, dI) vwCl (WL (LC cf) ad E5_) t.heap; rw [ht]; exact hP⟩, hS.F ht⟩) hS.2.2 dJ7_fill_53178_20
      · --7 not
        have t4 : v5_2.toInt < 14 := ti_nle c1
        have i5 : 0 ≤ v5_2.toInt ∧ v5_2.toInt ≤ 13 := iv_lt_l t4 hv5_2 (il_ 14) (by decide)
        refine lv_aload_n hx hb dJ7_fill_53178_10 rfl (lv_at hl 2 rfl) ?_
        refine lv_iload_n hx hb dJ7_fill_53178_11 rfl (lv_at hl 1 rfl) ?_
        refine lv_iload_n hx hb dJ7_fill_53178_12 rfl (lv_at hl 3 rfl) ?_
        have n6 : vp_in v5_2 14 := (iv_in (n := 14) i5 (by decide))
        refine th_iastL hx hb hK hP (WL_D hD) hS hI 19 (mF 19 rfl) rfl rfl n6 (okI rfl (iv_all _)) dJ7_fill_53178_13 (fun H locs E7 pw8 hI hP hS => ?_)
        have hKp := hKp.pw pw8 rfl
        obtain ⟨y9, ey9⟩ : ∃ y : Int32, y = v5_2 + (1 : Int32) := ⟨_, rfl⟩
        obtain ⟨ty9, iy9⟩ := ti_add (e := 1) (f := 14) i5 ln_1 ey9 (by decide)
        have ty9 : y9.toInt = v5_2.toInt + 1 := ty9
        have iy9 : 1 ≤ y9.toInt ∧ y9.toInt ≤ 14 := iy9
        refine lv_iinc (v := y9) (lv' := [(2, .int y9), (3, .int 14), (0, .ref (ad 19)), (1, .int a1)]) hx hb dJ7_fill_53178_14 hl (k := 1) rfl (by rw [ey9]; rfl) (by decide) rfl (fun ls hl => ?_)
        refine lv_goto (tgt := 5) hx hb dJ7_fill_53178_17 (by decide) ?_
        exact ih5 y9 E7 _ _ _ (iv_w iy9 (by decide)) (fl_s hx5_0 pw8 ty9 (by omega)) (by first | exact ms_su hx5_1 ty9 (by decide) | omega) hI hKp hP hS (lv_sub hl [1, 0, 2, 3] rfl)
  exact hL5 (15) (0 : Int32) E _ _ _ (iv_w ln_0 (by decide)) (fun j9 hj9 => absurd hj9 (by rw [tn_]; exact Nat.not_lt_zero _)) (by have h9 := ln_0; first | exact ms_bu h9.1 (by decide) | omega) hI hKp hP hS (lv_sub hl [0, 1, 2, 3] rfl)
def v_forgetX : List Cond := .code yX0_forgetLetters cX0_forgetLetters 1 none :: vA
abbrev rm_forgetX : Room := { frames := 1, cells := 0, slots := 0, locals := 40 }
def w_forgetX : Nat → Nat → Bool := wl [19] []
set_option maxHeartbeats 4000000 in
set_option maxRecDepth 100000 in
theorem q_forgetX (l : Launch) (dC : Nat → ClassId) (dI : Nat → Nat → Nat) (cT : Nat → ClassId) (cf : Nat → Nat) (hC : CF cf) (ad : Nat → Nat) (E : Nat → va_E) (sz : Nat)  (hI0 : IXL cT (shC cf) (spC cf) (LC cf) ad E)  : Met l yX0_forgetLetters v_forgetX rm_forgetX (va_Pc [.ref (ad 1)] (HWL dC dI (TYC cT) cf ad E sz)) (va_Qv (S := Nat → va_E) (fun u => IXL cT (shC cf) (spC cf) (LC cf) ad u ∧ Kp w_forgetX E u ∧ ((cL u = lz))) (HBL dC dI (LC cf) ad) (va_A (WL (LC cf) ad E) sz)) 0 0 (va_A (WL (LC cf) ad E) sz) := by
  obtain ⟨⟨hc0, hc1, hc2, hc3, hc4, hc5⟩, hcr⟩ := id hC
  refine Met.ofW (cc := cX0_forgetLetters) (maxL := 1) (ret := none) (by decide) rfl ?_
  intro p e s m args below meth c s₁ B hml hv
  obtain ⟨hargs, hsz, hP, hK, hD0, hEV⟩ := hv
  subst hsz
  have hx := B.exec
  have hb := B.bytes
  have hr := B.returns
  have hts := atoms_spec (ws := v_forgetX) B.pre
  have hown : s.vm.findClass RX0 = some m.cls := findClass_of_methodNamed B.named
  have hlocks := B.notSynchronized
  have hinX0 : ∀ w ∈ u_ws RX0 TX0 11, w ∈ v_forgetX := fun w h => vA_in _ w (in_X0 w h)
  generalize hAe : va_A (WL (LC cf) ad E) s.heap.size = A at hEV ⊢
  have hA : ∀ q : Nat, s.heap.size ≤ q → A q := fun q h => by rw [← hAe]; exact Or.inr h
  have hD : va_D A (WL (LC cf) ad E) := by rw [← hAe]; exact hD0.self
  have hS : va_S A s.heap s.heap [] := va_S.rf
  have hI := hI0
  have hKp : Kp w_forgetX E E := Kp.rf
  have hl := lv_entry ([.ref (ad 1)]) (n := 1) (Nat.le_of_ble_eq_true rfl)
  obtain ⟨Q, hQ⟩ : ∃ Q, Q = MQ below (va_Qv (S := Nat → va_E) (fun u => IXL cT (shC cf) (spC cf) (LC cf) ad u ∧ Kp w_forgetX E u ∧ ((cL u = lz))) (HBL dC dI (LC cf) ad) (A)) args s 0 0 (A) := ⟨_, rfl⟩
  rw [← hQ, show entryFrame m args 1 = _ from (congrArg (fun z => entryFrame m z 1) hargs).trans (lg_entry_eq _ _ _)]
  generalize (lg_sl ([.ref (ad 1)]) ++ List.replicate (1 - (lg_sl ([.ref (ad 1)])).length) Slot.unset).toArray = ls at hl ⊢
  have hl : lv_has ls 1 [(0, .ref (ad 1))] := hl
  refine lv_aload_n hx hb dX0_forgetLetters_0 rfl (lv_at hl 0 rfl) ?_
  refine th_getL (ci := 1) (C := RX0) (T := TX0) (N := 11) (v := .ref (ad 19)) hx hb hts hinX0 hown hK hP hI 1 (mF 1 rfl) rfl rfl 9 (Nat.le_of_ble_eq_true rfl) (hts _ (vA_in _ _ (in_5 _ (zs16 (zs4 (zs4 (zs0))))))) (fun _ h9 => h9) (hI.fr 1 (mF 1 rfl) rfl (Nat.le_of_ble_eq_true rfl) 19 rfl) dX0_forgetLetters_1 ?_
  refine lv_iconst (v := 0) hx hb dX0_forgetLetters_4 (by decide) ?_
  refine th_vL (va_runS (As := [.ref (ad 19), .int 0]) (rest := []) ⟨hx, hb, hml, hown, hts⟩ (q_fill19X l dC dI cT cf hC ad E s.heap.size (0 : Int32) hI) (va_cwS 2 hts (gi_S (in_5 _ (zs16 (zs4 (zs4 (zs1 (zs0)))))) (in_5 _ (zs16 (zs4 (zs4 (zs1 (zs1 (zs0))))))) (in_2 _ (zs16 (zs4 (zs1 (zs1 (zs0)))))) (in_2 _ (zs16 (zs16 (zs4 (zs1 (zs1 (zs1 (zs0))))))))) rfl rfl rfl hz_yJ7_fill_53178_2 ⟨Nat.le_of_ble_eq_true rfl, Nat.le_of_ble_eq_true rfl⟩) ⟨HWL_bl, (HWL_wi hP hK (WL_D hD) hS hA hEV)⟩ rfl rfl hl.1 rfl (lv_room (Nat.le_of_ble_eq_true rfl)) dX0_forgetLetters_5 ⟨Nat.le_of_ble_eq_true rfl, Nat.le_of_ble_eq_true rfl⟩) (WL_D hD) hS hA (fun E2 H locs hw hP hS => ?_)
  obtain ⟨hI, kq3, hw⟩ := hw
  have hKb := hKp
  have hKp := hKp.tr kq3 (wl_sub rfl rfl)
  have f4 := hw
  rw [hQ]
  exact W.vret hx hb hr (fun t ht hW => ⟨⟨E2, rfl, ⟨hI, hKp, cL_0 f4⟩, by show va_P (dC, dI) vwCl (WL (LC cf) ad E2) t.heap; rw [ht]; exact hP⟩, hS.F ht⟩) hS.2.2 dX0_forgetLetters_8
def v_cheldX : List Cond := .code yX12_held cX12_held 3 (some .int) :: vA
abbrev rm_cheldX : Room := { frames := 0, cells := 0, slots := 0, locals := 0 }
set_option maxHeartbeats 4000000 in
set_option maxRecDepth 100000 in
theorem q_cheldX (l : Launch) (a0 : Int32) (a1 : Int32) (a2 : Int32) (hh0 : a1.toInt ≤ a2.toInt) : Met l yX12_held v_cheldX rm_cheldX (va_Pc [.int a0, .int a1, .int a2] (fun _ => True)) (va_Qi (S := Unit) (fun r _ => (r.toInt = max a1.toInt (min a2.toInt a0.toInt))) (fun _ _ => True) (fun _ => False)) 0 0 (fun _ => False) := by
  refine Met.ofW (cc := cX12_held) (maxL := 3) (ret := (some .int)) (by decide) rfl ?_
  intro p e s m args below meth c s₁ B hml hv
  obtain ⟨hargs, -⟩ := hv
  have hx := B.exec
  have hb := B.bytes
  have hr := B.returns
  have hts := atoms_spec (ws := v_cheldX) B.pre
  have hown : s.vm.findClass RX12 = some m.cls := findClass_of_methodNamed B.named
  have hlocks := B.notSynchronized
  have hS : va_S (fun _ : Nat => False) s.heap s.heap [] := va_S.rf
  have hl := lv_entry ([.int a0, .int a1, .int a2]) (n := 3) (Nat.le_of_ble_eq_true rfl)
  obtain ⟨Q, hQ⟩ : ∃ Q, Q = MQ below (va_Qi (S := Unit) (fun r _ => (r.toInt = max a1.toInt (min a2.toInt a0.toInt))) (fun _ _ => True) (fun _ => False)) args s 0 0 (fun _ => False) := ⟨_, rfl⟩
  rw [← hQ, show entryFrame m args 3 = _ from (congrArg (fun z => entryFrame m z 3) hargs).trans (lg_entry_eq _ _ _)]
  generalize (lg_sl ([.int a0, .int a1, .int a2]) ++ List.replicate (3 - (lg_sl ([.int a0, .int a1, .int a2])).length) Slot.unset).toArray = ls at hl ⊢
  have hl : lv_has ls 3 [(0, .int a0), (1, .int a1), (2, .int a2)] := hl
  refine lv_iload_n hx hb dX12_held_0 rfl (lv_at hl 0 rfl) ?_
  refine lv_iload_n hx hb dX12_held_1 rfl (lv_at hl 1 rfl) ?_
  refine lv_icmp_ge (tgt := 9) hx hb dX12_held_2 (by decide) (fun c1 => ?_) (fun c1 => ?_)
  · --2 taken
    have t2 : a1.toInt ≤ a0.toInt := ti_le c1
    refine lv_iload_n hx hb dX12_held_9 rfl (lv_at hl 0 rfl) ?_
    refine lv_iload_n hx hb dX12_held_10 rfl (lv_at hl 2 rfl) ?_
    refine lv_icmp_le (tgt := 18) hx hb dX12_held_11 (by decide) (fun c3 => ?_) (fun c3 => ?_)
    · --11 taken
      have t4 : a0.toInt ≤ a2.toInt := ti_le c3
      refine lv_iload_n hx hb dX12_held_18 rfl (lv_at hl 0 rfl) ?_
      rw [hQ]
      exact W.iret (v := a0) hx hb hr (fun t ht hW => ⟨⟨a0, (), rfl, (by omega), trivial⟩, hS.F ht⟩) hS.2.2 dX12_held_19
    · --11 not
      have t5 : a2.toInt < a0.toInt := ti_nle c3
      have i6 : -2147483648 ≤ a2.toInt ∧ a2.toInt ≤ 2147483646 := iv_lt_l t5 (iv_all _) (iv_all _) (by decide)
      have i7 : -2147483647 ≤ a0.toInt ∧ a0.toInt ≤ 2147483647 := iv_lt_r t5 (iv_all _) (iv_all _) (by decide)
      refine lv_iload_n hx hb dX12_held_14 rfl (lv_at hl 2 rfl) ?_
      refine lv_goto (tgt := 19) hx hb dX12_held_15 (by decide) ?_
      rw [hQ]
      exact W.iret (v := a2) hx hb hr (fun t ht hW => ⟨⟨a2, (), rfl, (by omega), trivial⟩, hS.F ht⟩) hS.2.2 dX12_held_19
  · --2 not
    have t8 : a0.toInt < a1.toInt := ti_nle c1
    have i9 : -2147483648 ≤ a0.toInt ∧ a0.toInt ≤ 2147483646 := iv_lt_l t8 (iv_all _) (iv_all _) (by decide)
    have i10 : -2147483647 ≤ a1.toInt ∧ a1.toInt ≤ 2147483647 := iv_lt_r t8 (iv_all _) (iv_all _) (by decide)
    refine lv_iload_n hx hb dX12_held_5 rfl (lv_at hl 1 rfl) ?_
    refine lv_goto (tgt := 19) hx hb dX12_held_6 (by decide) ?_
    rw [hQ]
    exact W.iret (v := a1) hx hb hr (fun t ht hW => ⟨⟨a1, (), rfl, (by omega), trivial⟩, hS.F ht⟩) hS.2.2 dX12_held_19
def v_numberOfX : List Cond := .code yX0_numberOf cX0_numberOf 7 (some .int) :: vA
abbrev rm_numberOfX : Room := { frames := 4, cells := 0, slots := 0, locals := 160 }
def w_numberOfX : Nat → Nat → Bool := wl [19, 20] []
set_option maxHeartbeats 4000000 in
set_option maxRecDepth 100000 in
theorem q_numberOfX (l : Launch) (dC : Nat → ClassId) (dI : Nat → Nat → Nat) (cT : Nat → ClassId) (cf : Nat → Nat) (hC : CF cf) (ad : Nat → Nat) (E : Nat → va_E) (sz : Nat) (a0 : Int32) (a1 : Int32) (a2 : Int32) (hI0 : IXL cT (shC cf) (spC cf) (LC cf) ad E) (hh0 : RulAll cf E) : Met l yX0_numberOf v_numberOfX rm_numberOfX (va_Pc [.ref (ad 1), .int a0, .int a1, .int a2] (HWL dC dI (TYC cT) cf ad E sz)) (va_Qi (S := Nat → va_E) (fun r u => IXL cT (shC cf) (spC cf) (LC cf) ad u ∧ Kp w_numberOfX E u ∧ ((r.toInt = numC cf E a0 a1 a2))) (HBL dC dI (LC cf) ad) (va_A (WL (LC cf) ad E) sz)) 0 0 (va_A (WL (LC cf) ad E) sz) := by
  obtain ⟨⟨hc0, hc1, hc2, hc3, hc4, hc5⟩, hcr⟩ := id hC
  refine Met.ofW (cc := cX0_numberOf) (maxL := 7) (ret := (some .int)) (by decide) rfl ?_
  intro p e s m args below meth c s₁ B hml hv
  obtain ⟨hargs, hsz, hP, hK, hD0, hEV⟩ := hv
  subst hsz
  have hx := B.exec
  have hb := B.bytes
  have hr := B.returns
  have hts := atoms_spec (ws := v_numberOfX) B.pre
  have hown : s.vm.findClass RX0 = some m.cls := findClass_of_methodNamed B.named
  have hlocks := B.notSynchronized
  have hinX0 : ∀ w ∈ u_ws RX0 TX0 11, w ∈ v_numberOfX := fun w h => vA_in _ w (in_X0 w h)
  have hinX1 : ∀ w ∈ u_ws RX1 TX1 6, w ∈ v_numberOfX := fun w h => vA_in _ w (in_X1 w h)
  generalize hAe : va_A (WL (LC cf) ad E) s.heap.size = A at hEV ⊢
  have hA : ∀ q : Nat, s.heap.size ≤ q → A q := fun q h => by rw [← hAe]; exact Or.inr h
  have hD : va_D A (WL (LC cf) ad E) := by rw [← hAe]; exact hD0.self
  have hS : va_S A s.heap s.heap [] := va_S.rf
  have hI := hI0
  have hKp : Kp w_numberOfX E E := Kp.rf
  have hl := lv_entry ([.ref (ad 1), .int a0, .int a1, .int a2]) (n := 7) (Nat.le_of_ble_eq_true rfl)
  obtain ⟨Q, hQ⟩ : ∃ Q, Q = MQ below (va_Qi (S := Nat → va_E) (fun r u => IXL cT (shC cf) (spC cf) (LC cf) ad u ∧ Kp w_numberOfX E u ∧ ((r.toInt = numC cf E a0 a1 a2))) (HBL dC dI (LC cf) ad) (A)) args s 0 0 (A) := ⟨_, rfl⟩
  rw [← hQ, show entryFrame m args 7 = _ from (congrArg (fun z => entryFrame m z 7) hargs).trans (lg_entry_eq _ _ _)]
  generalize (lg_sl ([.ref (ad 1), .int a0, .int a1, .int a2]) ++ List.replicate (7 - (lg_sl ([.ref (ad 1), .int a0, .int a1, .int a2])).length) Slot.unset).toArray = ls at hl ⊢
  have hl : lv_has ls 7 [(0, .ref (ad 1)), (1, .int a0), (2, .int a1), (3, .int a2)] := hl
  refine lv_aload_n hx hb dX0_numberOf_0 rfl (lv_at hl 0 rfl) ?_
  refine lv_iload_n hx hb dX0_numberOf_1 rfl (lv_at hl 2 rfl) ?_
  refine lv_iload_n hx hb dX0_numberOf_2 rfl (lv_at hl 3 rfl) ?_
  refine th_riL (va_runV (As := [.int a1, .int a2]) (rest := []) ⟨hx, hb, hml, hown, hts⟩ (q_rulesOnX l dC dI cT cf hC ad E s.heap.size a1 a2 hI) (cwV 2 hts (gi_V (in_6 _ (zs16 (zs4 (zs4 (zs1 (zs1 (zs1 (zs0)))))))) (in_6 _ (zs16 (zs4 (zs4 (zs4 (zs0)))))) (in_6 _ (zs16 (zs4 (zs4 (zs4 (zs1 (zs0))))))) (in_5 _ (zs4 (zs1 (zs1 (zs0))))) (in_6 _ (zs16 (zs4 (zs4 (zs4 (zs1 (zs1 (zs0))))))))) rfl rfl rfl ⟨rfl, hz_yX0_rulesOn_2⟩ ⟨Nat.le_of_ble_eq_true rfl, Nat.le_of_ble_eq_true rfl⟩) ⟨HWL_bl, va_recv hK hP (ci := 1) (q0 := posL 1 (LC cf)) rfl (hI.ob 1 (mF 1 rfl) rfl), (HWL_wi hP hK (WL_D hD) hS hA hEV)⟩ rfl rfl hl.1 rfl (lv_room (Nat.le_of_ble_eq_true rfl)) dX0_numberOf_3 ⟨Nat.le_of_ble_eq_true rfl, Nat.le_of_ble_eq_true rfl⟩) hS hP (fun r1 H locs hw hP hS => ?_)
  obtain ⟨f2, f3, f4⟩ := hw
  have k5 : r1 = lawC cf E a1 a2 := Int32.toInt_inj.mp f4
  refine lv_istore (lv' := [(4, .int r1), (0, .ref (ad 1)), (1, .int a0), (2, .int a1), (3, .int a2)]) hx hb dX0_numberOf_6 hl (by decide) rfl (fun ls hl => ?_)
  refine lv_aload_n hx hb dX0_numberOf_8 rfl (lv_at hl 1 rfl) ?_
  refine lv_iload_n hx hb dX0_numberOf_9 rfl (lv_at hl 2 rfl) ?_
  refine lv_iload_n hx hb dX0_numberOf_10 rfl (lv_at hl 3 rfl) ?_
  refine lv_iload_n hx hb dX0_numberOf_11 rfl (lv_at hl 4 rfl) ?_
  refine th_riL (va_runV (As := [.int a0, .int a1, .int a2]) (rest := []) ⟨hx, hb, hml, hown, hts⟩ (q_certificateOnX l dC dI cT cf hC ad E H.size a0 a1 a2 hI) (cwV 3 hts (gi_V (in_6 _ (zs16 (zs16 (zs1 (zs0))))) (in_6 _ (zs16 (zs16 (zs1 (zs1 (zs0)))))) (in_6 _ (zs16 (zs16 (zs1 (zs1 (zs1 (zs0))))))) (in_5 _ (zs4 (zs1 (zs1 (zs0))))) (in_4 _ (zs16 (zs4 (zs4 (zs4 (zs0))))))) rfl rfl rfl ⟨rfl, hz_yX0_certificateOn_3⟩ ⟨Nat.le_of_ble_eq_true rfl, Nat.le_of_ble_eq_true rfl⟩) ⟨HWL_bl, va_recv hK hP (ci := 1) (q0 := posL 1 (LC cf)) rfl (hI.ob 1 (mF 1 rfl) rfl), (HWL_wi hP hK (WL_D hD) hS hA hEV)⟩ rfl rfl hl.1 rfl (lv_room (Nat.le_of_ble_eq_true rfl)) dX0_numberOf_12 ⟨Nat.le_of_ble_eq_true rfl, Nat.le_of_ble_eq_true rfl⟩) hS hP (fun r6 H locs hw hP hS => ?_)
  obtain ⟨f7, f8, f9⟩ := hw
  have k10 : r6 = papC cf E a0 a1 a2 := Int32.toInt_inj.mp f9
  refine lv_istore (lv' := [(5, .int r6), (4, .int r1), (0, .ref (ad 1)), (1, .int a0), (2, .int a1), (3, .int a2)]) hx hb dX0_numberOf_15 hl (by decide) rfl (fun ls hl => ?_)
  refine lv_iload hx hb dX0_numberOf_17 (lv_at hl 1 rfl) ?_
  refine lv_iconst (v := -1) hx hb dX0_numberOf_19 (by decide) ?_
  refine lv_icmp_eq (tgt := 29) hx hb dX0_numberOf_20 (by decide) (fun c11 => ?_) (fun c11 => ?_)
  · --20 taken
    have t12 : r1.toInt = -1 := ti_eq c11
    have i13 : -1 ≤ r1.toInt ∧ r1.toInt ≤ -1 := iv_eqi t12 f2 (il_ (-1)) (by decide)
    refine lv_sipush (v := 1000) hx hb dX0_numberOf_29 (by decide) ?_
    rw [hQ]
    exact W.iret (v := 1000) hx hb hr (fun t ht hW => ⟨⟨1000, E, rfl, ⟨hI, hKp, nuA_0 (Or.inl (by rw [← k5]; omega))⟩, by show va_P (dC, dI) vwCl (WL (LC cf) ad E) t.heap; rw [ht]; exact hP⟩, hS.F ht⟩) hS.2.2 dX0_numberOf_32
  · --20 not
    have t14 : ¬ r1.toInt = -1 := ti_ne c11
    have i15 : 0 ≤ r1.toInt ∧ r1.toInt ≤ 15 := iv_ne_l t14 f2 (il_ (-1))
    refine lv_iload hx hb dX0_numberOf_23 (lv_at hl 0 rfl) ?_
    refine lv_iconst (v := -1) hx hb dX0_numberOf_25 (by decide) ?_
    refine lv_icmp_ne (tgt := 33) hx hb dX0_numberOf_26 (by decide) (fun c16 => ?_) (fun c16 => ?_)
    · --26 taken
      have t17 : ¬ r6.toInt = -1 := ti_ne c16
      have i18 : 0 ≤ r6.toInt ∧ r6.toInt ≤ 79 := iv_ne_l t17 f7 (il_ (-1))
      refine lv_aload_n hx hb dX0_numberOf_33 rfl (lv_at hl 2 rfl) ?_
      refine th_getL (ci := 1) (C := RX0) (T := TX0) (N := 11) (v := .ref (ad 7)) hx hb hts hinX0 hown hK hP hI 1 (mF 1 rfl) rfl rfl 3 (Nat.le_of_ble_eq_true rfl) (hts _ (vA_in _ _ (in_4 _ (zs16 (zs4 (zs4 (zs4 (zs1 (zs0))))))))) (fun _ h9 => h9) (hI.fr 1 (mF 1 rfl) rfl (Nat.le_of_ble_eq_true rfl) 7 rfl) dX0_numberOf_34 ?_
      refine lv_iload hx hb dX0_numberOf_37 (lv_at hl 0 rfl) ?_
      refine th_rrL (va_runV (As := [.int r6]) (rest := []) ⟨hx, hb, hml, hown, hts⟩ (q_get0 l dC dI cT cf hC ad E H.size r6 hI (by omega)) (cwV 1 hts (gi_V (in_4 _ (zs16 (zs16 (zs4 (zs1 (zs0)))))) (in_4 _ (zs16 (zs16 (zs4 (zs1 (zs1 (zs0))))))) (in_4 _ (zs16 (zs16 (zs4 (zs1 (zs1 (zs1 (zs0)))))))) (in_3 _ (zs16 (zs1 (zs1 (zs0))))) (in_3 _ (zs16 (zs16 (zs4 (zs1 (zs1 (zs1 (zs0))))))))) rfl rfl rfl ⟨rfl, hz_yJx4a65c_get_915e3_1⟩ ⟨Nat.le_of_ble_eq_true rfl, Nat.le_of_ble_eq_true rfl⟩) ⟨HWL_bl, va_recv hK hP (ci := 0) (q0 := posL 7 (LC cf)) rfl (hI.ob 7 (mF 7 rfl) rfl), (HWL_wi hP hK (WL_D hD) hS hA hEV)⟩ rfl rfl hl.1 rfl (lv_room (Nat.le_of_ble_eq_true rfl)) dX0_numberOf_39 ⟨Nat.le_of_ble_eq_true rfl, Nat.le_of_ble_eq_true rfl⟩) hS hP (fun r19 H locs hw hP hS => ?_)
      obtain rfl := hw
      have lv20 : r6.toNatClampNeg < cf 0 := by rw [tn_]; omega
      refine va_castS (cC := dC 2) hx hb hown (hts _ (vA_in _ _ (in_4 _ (zs16 (zs4 (zs4 (zs4 (zs1 (zs1 (zs0)))))))))) (hK.1 2 _ rfl).2 (va_recv hK hP (ci := 2) (q0 := posL (64 * (r6.toNatClampNeg + 1) + 0) (LC cf)) rfl (hI.ob (64 * (r6.toNatClampNeg + 1) + 0) (mP 0 r6.toNatClampNeg (by decide) lv20 (kl_le hC 0 (by decide))) (shC_p 0 r6.toNatClampNeg (by decide)))) dX0_numberOf_42 ?_
      refine lv_astore (lv' := [(6, .ref (ad (64 * (r6.toNatClampNeg + 1) + 0))), (5, .int r6), (4, .int r1), (0, .ref (ad 1)), (1, .int a0), (2, .int a1), (3, .int a2)]) hx hb dX0_numberOf_45 hl (by decide) rfl (fun ls hl => ?_)
      refine lv_aload_n hx hb dX0_numberOf_47 rfl (lv_at hl 3 rfl) ?_
      refine th_vL (va_runV (As := []) (rest := []) ⟨hx, hb, hml, hown, hts⟩ (q_forgetX l dC dI cT cf hC ad E H.size hI) (cwV 0 hts (gi_V (in_6 _ (zs16 (zs16 (zs4 (zs0))))) (in_6 _ (zs16 (zs16 (zs4 (zs1 (zs0)))))) (in_6 _ (zs16 (zs16 (zs4 (zs1 (zs1 (zs0))))))) (in_5 _ (zs4 (zs1 (zs1 (zs0))))) (in_5 _ (zs16 (zs4 (zs1 (zs1 (zs1 (zs0)))))))) rfl rfl rfl ⟨rfl, hz_yX0_forgetLetters_0⟩ ⟨Nat.le_of_ble_eq_true rfl, Nat.le_of_ble_eq_true rfl⟩) ⟨HWL_bl, va_recv hK hP (ci := 1) (q0 := posL 1 (LC cf)) rfl (hI.ob 1 (mF 1 rfl) rfl), (HWL_wi hP hK (WL_D hD) hS hA hEV)⟩ rfl rfl hl.1 rfl (lv_room (Nat.le_of_ble_eq_true rfl)) dX0_numberOf_48 ⟨Nat.le_of_ble_eq_true rfl, Nat.le_of_ble_eq_true rfl⟩) (WL_D hD) hS hA (fun E22 H locs hw hP hS => ?_)
      obtain ⟨hI, kq23, hw⟩ := hw
      have hKb := hKp
      have hKp := hKp.tr kq23 (wl_sub rfl rfl)
      have f24 := hw
      have z0 := ln_0
      have z1 := ln_1
      have z2 := ln_2
      refine lv_aload_n hx hb dX0_numberOf_51 rfl (lv_at hl 3 rfl) ?_
      refine th_getL (ci := 1) (C := RX0) (T := TX0) (N := 11) (v := .ref (ad 19)) hx hb hts hinX0 hown hK hP hI 1 (mF 1 rfl) rfl rfl 9 (Nat.le_of_ble_eq_true rfl) (hts _ (vA_in _ _ (in_5 _ (zs16 (zs4 (zs4 (zs0))))))) (fun _ h9 => h9) (hI.fr 1 (mF 1 rfl) rfl (Nat.le_of_ble_eq_true rfl) 19 rfl) dX0_numberOf_52 ?_
      refine lv_iconst (v := 0) hx hb dX0_numberOf_55 (by decide) ?_
      refine lv_aload hx hb dX0_numberOf_56 (lv_at hl 0 rfl) ?_
      have i25 : 0 ≤ (xi (E (64 * (r6.toNatClampNeg + 1) + 0)) 3).toInt ∧ (xi (E (64 * (r6.toNatClampNeg + 1) + 0)) 3).toInt ≤ 400 := hI0.iv (64 * (r6.toNatClampNeg + 1) + 0) (mP 0 r6.toNatClampNeg (by decide) lv20 (kl_le hC 0 (by decide))) (shC_p 0 r6.toNatClampNeg (by decide)) (Nat.le_of_ble_eq_true rfl) (spC_p 0 r6.toNatClampNeg (by decide) 3)
      refine th_getL (ci := 2) (C := RX1) (T := TX1) (N := 6) (v := .int (xi (E (64 * (r6.toNatClampNeg + 1) + 0)) 3)) hx hb hts hinX1 hown hK hP hI (64 * (r6.toNatClampNeg + 1) + 0) (mP 0 r6.toNatClampNeg (by decide) lv20 (kl_le hC 0 (by decide))) (shC_p 0 r6.toNatClampNeg (by decide)) rfl 3 (Nat.le_of_ble_eq_true rfl) (hts _ (vA_in _ _ (in_6 _ (zs16 (zs4 (zs1 (zs1 (zs1 (zs0))))))))) (fun _ h9 => h9) (th_v0L hKp hI0 (64 * (r6.toNatClampNeg + 1) + 0) (mP 0 r6.toNatClampNeg (by decide) lv20 (kl_le hC 0 (by decide))) (shC_p 0 r6.toNatClampNeg (by decide)) (Nat.le_of_ble_eq_true rfl) (spC_p 0 r6.toNatClampNeg (by decide) 3) (wl_p rfl rfl (by omega))) dX0_numberOf_58 ?_
      have n26 : vp_in (0 : Int32) 14 := (iv_in (n := 14) ln_0 (by decide))
      refine th_iastL hx hb hK hP (WL_D hD) hS hI 19 (mF 19 rfl) rfl rfl n26 (okI rfl (iv_w i25 (by decide))) dX0_numberOf_61 (fun H locs E27 pw28 hI hP hS => ?_)
      have hKp := hKp.pw pw28 rfl
      have k29 : cL E27 = lset lz 0 (xi (E (64 * (r6.toNatClampNeg + 1) + 0)) 3) := (cL_set (k := 0) pw28 rfl (by decide)).trans (by rw [f24])
      refine lv_aload_n hx hb dX0_numberOf_62 rfl (lv_at hl 3 rfl) ?_
      refine th_getL (ci := 1) (C := RX0) (T := TX0) (N := 11) (v := .ref (ad 19)) hx hb hts hinX0 hown hK hP hI 1 (mF 1 rfl) rfl rfl 9 (Nat.le_of_ble_eq_true rfl) (hts _ (vA_in _ _ (in_5 _ (zs16 (zs4 (zs4 (zs0))))))) (fun _ h9 => h9) (hI.fr 1 (mF 1 rfl) rfl (Nat.le_of_ble_eq_true rfl) 19 rfl) dX0_numberOf_63 ?_
      refine lv_iconst (v := 1) hx hb dX0_numberOf_66 (by decide) ?_
      refine lv_aload hx hb dX0_numberOf_67 (lv_at hl 0 rfl) ?_
      have i30 : 0 ≤ (xi (E (64 * (r6.toNatClampNeg + 1) + 0)) 4).toInt ∧ (xi (E (64 * (r6.toNatClampNeg + 1) + 0)) 4).toInt ≤ 4000 := hI0.iv (64 * (r6.toNatClampNeg + 1) + 0) (mP 0 r6.toNatClampNeg (by decide) lv20 (kl_le hC 0 (by decide))) (shC_p 0 r6.toNatClampNeg (by decide)) (Nat.le_of_ble_eq_true rfl) (spC_p 0 r6.toNatClampNeg (by decide) 4)
      refine th_getL (ci := 2) (C := RX1) (T := TX1) (N := 6) (v := .int (xi (E (64 * (r6.toNatClampNeg + 1) + 0)) 4)) hx hb hts hinX1 hown hK hP hI (64 * (r6.toNatClampNeg + 1) + 0) (mP 0 r6.toNatClampNeg (by decide) lv20 (kl_le hC 0 (by decide))) (shC_p 0 r6.toNatClampNeg (by decide)) rfl 4 (Nat.le_of_ble_eq_true rfl) (hts _ (vA_in _ _ (in_6 _ (zs16 (zs4 (zs4 (zs0))))))) (fun _ h9 => h9) (th_v0L hKp hI0 (64 * (r6.toNatClampNeg + 1) + 0) (mP 0 r6.toNatClampNeg (by decide) lv20 (kl_le hC 0 (by decide))) (shC_p 0 r6.toNatClampNeg (by decide)) (Nat.le_of_ble_eq_true rfl) (spC_p 0 r6.toNatClampNeg (by decide) 4) (wl_p rfl rfl (by omega))) dX0_numberOf_69 ?_
      have n31 : vp_in (1 : Int32) 14 := (iv_in (n := 14) ln_1 (by decide))
      refine th_iastL hx hb hK hP (WL_D hD) hS hI 19 (mF 19 rfl) rfl rfl n31 (okI rfl (iv_w i30 (by decide))) dX0_numberOf_72 (fun H locs E32 pw33 hI hP hS => ?_)
      have hKp := hKp.pw pw33 rfl
      have k34 : cL E32 = lset (lset lz 0 (xi (E (64 * (r6.toNatClampNeg + 1) + 0)) 3)) 1 (xi (E (64 * (r6.toNatClampNeg + 1) + 0)) 4) := (cL_set (k := 1) pw33 rfl (by decide)).trans (by rw [k29])
      refine lv_aload_n hx hb dX0_numberOf_73 rfl (lv_at hl 3 rfl) ?_
      refine th_getL (ci := 1) (C := RX0) (T := TX0) (N := 11) (v := .ref (ad 19)) hx hb hts hinX0 hown hK hP hI 1 (mF 1 rfl) rfl rfl 9 (Nat.le_of_ble_eq_true rfl) (hts _ (vA_in _ _ (in_5 _ (zs16 (zs4 (zs4 (zs0))))))) (fun _ h9 => h9) (hI.fr 1 (mF 1 rfl) rfl (Nat.le_of_ble_eq_true rfl) 19 rfl) dX0_numberOf_74 ?_
      refine lv_iconst (v := 2) hx hb dX0_numberOf_77 (by decide) ?_
      refine lv_aload hx hb dX0_numberOf_78 (lv_at hl 0 rfl) ?_
      have i35 : 0 ≤ (xi (E (64 * (r6.toNatClampNeg + 1) + 0)) 5).toInt ∧ (xi (E (64 * (r6.toNatClampNeg + 1) + 0)) 5).toInt ≤ 900 := hI0.iv (64 * (r6.toNatClampNeg + 1) + 0) (mP 0 r6.toNatClampNeg (by decide) lv20 (kl_le hC 0 (by decide))) (shC_p 0 r6.toNatClampNeg (by decide)) (Nat.le_of_ble_eq_true rfl) (spC_p 0 r6.toNatClampNeg (by decide) 5)
      refine th_getL (ci := 2) (C := RX1) (T := TX1) (N := 6) (v := .int (xi (E (64 * (r6.toNatClampNeg + 1) + 0)) 5)) hx hb hts hinX1 hown hK hP hI (64 * (r6.toNatClampNeg + 1) + 0) (mP 0 r6.toNatClampNeg (by decide) lv20 (kl_le hC 0 (by decide))) (shC_p 0 r6.toNatClampNeg (by decide)) rfl 5 (Nat.le_of_ble_eq_true rfl) (hts _ (vA_in _ _ (in_6 _ (zs16 (zs4 (zs4 (zs1 (zs0)))))))) (fun _ h9 => h9) (th_v0L hKp hI0 (64 * (r6.toNatClampNeg + 1) + 0) (mP 0 r6.toNatClampNeg (by decide) lv20 (kl_le hC 0 (by decide))) (shC_p 0 r6.toNatClampNeg (by decide)) (Nat.le_of_ble_eq_true rfl) (spC_p 0 r6.toNatClampNeg (by decide) 5) (wl_p rfl rfl (by omega))) dX0_numberOf_80 ?_
      have n36 : vp_in (2 : Int32) 14 := (iv_in (n := 14) ln_2 (by decide))
      refine th_iastL hx hb hK hP (WL_D hD) hS hI 19 (mF 19 rfl) rfl rfl n36 (okI rfl (iv_w i35 (by decide))) dX0_numberOf_83 (fun H locs E37 pw38 hI hP hS => ?_)
      have hKp := hKp.pw pw38 rfl
      have k39 : cL E37 = lset (lset (lset lz 0 (xi (E (64 * (r6.toNatClampNeg + 1) + 0)) 3)) 1 (xi (E (64 * (r6.toNatClampNeg + 1) + 0)) 4)) 2 (xi (E (64 * (r6.toNatClampNeg + 1) + 0)) 5) := (cL_set (k := 2) pw38 rfl (by decide)).trans (by rw [k34])
      refine lv_aload_n hx hb dX0_numberOf_84 rfl (lv_at hl 3 rfl) ?_
      refine th_getL (ci := 1) (C := RX0) (T := TX0) (N := 11) (v := .ref (ad 8)) hx hb hts hinX0 hown hK hP hI 1 (mF 1 rfl) rfl rfl 4 (Nat.le_of_ble_eq_true rfl) (hts _ (vA_in _ _ (in_5 _ (zs16 (zs4 (zs4 (zs4 (zs1 (zs1 (zs1 (zs0))))))))))) (fun _ h9 => h9) (hI.fr 1 (mF 1 rfl) rfl (Nat.le_of_ble_eq_true rfl) 8 rfl) dX0_numberOf_85 ?_
      refine lv_iload hx hb dX0_numberOf_88 (lv_at hl 2 rfl) ?_
      refine th_rrL (va_runV (As := [.int r1]) (rest := []) ⟨hx, hb, hml, hown, hts⟩ (q_get1 l dC dI cT cf hC ad E37 H.size r1 hI (by omega)) (cwV 1 hts (gi_V (in_4 _ (zs16 (zs16 (zs4 (zs1 (zs0)))))) (in_4 _ (zs16 (zs16 (zs4 (zs1 (zs1 (zs0))))))) (in_4 _ (zs16 (zs16 (zs4 (zs1 (zs1 (zs1 (zs0)))))))) (in_3 _ (zs16 (zs1 (zs1 (zs0))))) (in_3 _ (zs16 (zs16 (zs4 (zs1 (zs1 (zs1 (zs0))))))))) rfl rfl rfl ⟨rfl, hz_yJx4a65c_get_915e3_1⟩ ⟨Nat.le_of_ble_eq_true rfl, Nat.le_of_ble_eq_true rfl⟩) ⟨HWL_bl, va_recv hK hP (ci := 0) (q0 := posL 8 (LC cf)) rfl (hI.ob 8 (mF 8 rfl) rfl), (HWL_wi hP hK (WL_D hD) hS hA hEV)⟩ rfl rfl hl.1 rfl (lv_room (Nat.le_of_ble_eq_true rfl)) dX0_numberOf_90 ⟨Nat.le_of_ble_eq_true rfl, Nat.le_of_ble_eq_true rfl⟩) hS hP (fun r40 H locs hw hP hS => ?_)
      obtain rfl := hw
      have lv41 : r1.toNatClampNeg < cf 1 := by rw [tn_]; omega
      refine va_castS (cC := dC 8) hx hb hown (hts _ (vA_in _ _ (in_6 _ (zs16 (zs4 (zs4 (zs1 (zs1 (zs0))))))))) (hK.1 8 _ rfl).2 (va_recv hK hP (ci := 8) (q0 := posL (64 * (r1.toNatClampNeg + 1) + 1) (LC cf)) rfl (hI.ob (64 * (r1.toNatClampNeg + 1) + 1) (mP 1 r1.toNatClampNeg (by decide) lv41 (kl_le hC 1 (by decide))) (shC_p 1 r1.toNatClampNeg (by decide)))) dX0_numberOf_93 ?_
      refine lv_bipush (v := 110) hx hb dX0_numberOf_96 (by decide) ?_
      refine lv_aload_n hx hb dX0_numberOf_98 rfl (lv_at hl 3 rfl) ?_
      refine th_getL (ci := 1) (C := RX0) (T := TX0) (N := 11) (v := .ref (ad 19)) hx hb hts hinX0 hown hK hP hI 1 (mF 1 rfl) rfl rfl 9 (Nat.le_of_ble_eq_true rfl) (hts _ (vA_in _ _ (in_5 _ (zs16 (zs4 (zs4 (zs0))))))) (fun _ h9 => h9) (hI.fr 1 (mF 1 rfl) rfl (Nat.le_of_ble_eq_true rfl) 19 rfl) dX0_numberOf_99 ?_
      refine lv_aload_n hx hb dX0_numberOf_102 rfl (lv_at hl 3 rfl) ?_
      refine th_getL (ci := 1) (C := RX0) (T := TX0) (N := 11) (v := .ref (ad 20)) hx hb hts hinX0 hown hK hP hI 1 (mF 1 rfl) rfl rfl 10 (Nat.le_of_ble_eq_true rfl) (hts _ (vA_in _ _ (in_5 _ (zs16 (zs16 (zs1 (zs1 (zs0)))))))) (fun _ h9 => h9) (hI.fr 1 (mF 1 rfl) rfl (Nat.le_of_ble_eq_true rfl) 20 rfl) dX0_numberOf_103 ?_
      have z110 := ln_110
      refine th_iL (va_runV (As := [.int 110, .ref (ad 19), .ref (ad 20)]) (rest := []) ⟨hx, hb, hml, hown, hts⟩ (q_worthOfX l dC dI cT cf hC ad E37 H.size (110 : Int32) r1.toNatClampNeg hI (by omega) (by exact (hh0 _ (by rw [tn_]; omega)).cg (kp_rul hKp (fun o9 ho9 j9 => wl_p rfl rfl ho9) _)) (by rw [k39]; exact ls_b (ls_b (ls_b lz_b ⟨by omega, by omega⟩) ⟨by omega, by omega⟩) ⟨by omega, by omega⟩) (iv_w ln_110 (by decide))) (cwV 3 hts (gi_V (in_6 _ (zs16 (zs16 (zs4 (zs1 (zs1 (zs1 (zs0)))))))) (in_7 _ zs0) (in_7 _ (zs1 (zs0))) (in_7 _ (zs1 (zs1 (zs0)))) (in_7 _ (zs1 (zs1 (zs1 (zs0)))))) rfl rfl rfl ⟨rfl, hz_yX7_worthOf_3⟩ ⟨Nat.le_of_ble_eq_true rfl, Nat.le_of_ble_eq_true rfl⟩) ⟨HWL_bl, va_recv hK hP (ci := 8) (q0 := posL (64 * (r1.toNatClampNeg + 1) + 1) (LC cf)) rfl (hI.ob (64 * (r1.toNatClampNeg + 1) + 1) (mP 1 r1.toNatClampNeg (by decide) lv41 (kl_le hC 1 (by decide))) (shC_p 1 r1.toNatClampNeg (by decide))), (HWL_wi hP hK (WL_D hD) hS hA hEV)⟩ rfl rfl hl.1 rfl (lv_room (Nat.le_of_ble_eq_true rfl)) dX0_numberOf_106 ⟨Nat.le_of_ble_eq_true rfl, Nat.le_of_ble_eq_true rfl⟩) (WL_D hD) hS hA (fun r42 E43 H locs hw hP hS => ?_)
      obtain ⟨hI, kq44, hw⟩ := hw
      have hKb := hKp
      have hKp := hKp.tr kq44 (wl_sub rfl rfl)
      have f45 := hw
      refine lv_sipush (v := 500) hx hb dX0_numberOf_109 (by decide) ?_
      refine lv_sipush (v := 2000) hx hb dX0_numberOf_112 (by decide) ?_
      have z500 := ln_500
      have z2000 := ln_2000
      refine th_pi (va_runSN (As := [.int r42, .int 500, .int 2000]) (rest := []) ⟨hx, hb, hml, hown, hts⟩ (q_cheldX l r42 (500 : Int32) (2000 : Int32) (by omega)) ⟨va_cnB 3 hts (gi_0 (in_7 _ (zs16 (zs4 (zs4 (zs1 (zs1 (zs0)))))))) rfl rfl rfl (hEV.1.1 _ (List.mem_of_getElem? (i := 2) rfl)) (hts _ (vA_in _ _ (in_4 _ (zs16 (zs4 (zs1 (zs1 (zs1 (zs0))))))))) hz_yX12_held_3 ⟨Nat.le_of_ble_eq_true rfl, Nat.le_of_ble_eq_true rfl⟩, (hts _ (vA_in _ _ (in_7 _ (zs16 (zs4 (zs4 (zs1 (zs0)))))))), trivial⟩ ⟨fun _ _ _ _ q => q, fun _ _ _ => ⟨rfl, trivial⟩⟩ rfl rfl hl.1 rfl (lv_room (Nat.le_of_ble_eq_true rfl)) dX0_numberOf_115 ⟨Nat.le_of_ble_eq_true rfl, Nat.le_of_ble_eq_true rfl⟩) hS (fun r46 H1 locs1 hw hk1 hS => ?_)
      have hP := ub_keep hP hk1
      generalize H1 = H at hP hS ⊢
      generalize locs1 = locs at hS ⊢
      have f47 := hw
      rw [hQ]
      exact W.iret (v := r46) hx hb hr (fun t ht hW => ⟨⟨r46, E43, rfl, ⟨hI, hKp, (by unfold numC; rw [← k5, ← k10]; exact nuA_1 (w := r42) (by omega) (by omega) (f45.trans (by rw [k39, clE_cg (kp_rul hKb (fun o9 ho9 j9 => wl_p rfl rfl ho9) _)]; rfl)) f47)⟩, by show va_P (dC, dI) vwCl (WL (LC cf) ad E43) t.heap; rw [ht]; exact hP⟩, hS.F ht⟩) hS.2.2 dX0_numberOf_118
    · --26 not
      have t48 : r6.toInt = -1 := ti_eq c16
      have i49 : -1 ≤ r6.toInt ∧ r6.toInt ≤ -1 := iv_eqi t48 f7 (il_ (-1)) (by decide)
      refine lv_sipush (v := 1000) hx hb dX0_numberOf_29 (by decide) ?_
      rw [hQ]
      exact W.iret (v := 1000) hx hb hr (fun t ht hW => ⟨⟨1000, E, rfl, ⟨hI, hKp, nuA_0 (Or.inr (by rw [← k10]; omega))⟩, by show va_P (dC, dI) vwCl (WL (LC cf) ad E) t.heap; rw [ht]; exact hP⟩, hS.F ht⟩) hS.2.2 dX0_numberOf_32
def v_u_numberX : List Cond := .code yX12_number cX12_number 4 (some .int) :: vA
abbrev rm_u_numberX : Room := { frames := 5, cells := 0, slots := 0, locals := 200 }
def w_u_numberX : Nat → Nat → Bool := wl [19, 20] []
set_option maxHeartbeats 4000000 in
set_option maxRecDepth 100000 in
theorem q_u_numberX (l : Launch) (dC : Nat → ClassId) (dI : Nat → Nat → Nat) (cT : Nat → ClassId) (cf : Nat → Nat) (hC : CF cf) (ad : Nat → Nat) (E : Nat → va_E) (sz : Nat) (a0 : Int32) (a1 : Int32) (a2 : Int32) (hI0 : IXL cT (shC cf) (spC cf) (LC cf) ad E) (hh0 : RulAll cf E) : Met l yX12_number v_u_numberX rm_u_numberX (va_Pc [.ref (ad 0), .int a0, .int a1, .int a2] (HWL dC dI (TYC cT) cf ad E sz)) (va_Qi (S := Nat → va_E) (fun r u => IXL cT (shC cf) (spC cf) (LC cf) ad u ∧ Kp w_u_numberX E u ∧ ((((((0 ≤ a0.toInt ∧ a0.toInt < (xi (E 1) 1).toInt) ∧ (0 ≤ a1.toInt ∧ a1.toInt ≤ 400) ∧ (0 ≤ a2.toInt ∧ a2.toInt ≤ (xi (E 1) 0).toInt)) → (r.toInt = numC cf E a0 a1 a2)) ∧ (¬ ((0 ≤ a0.toInt ∧ a0.toInt < (xi (E 1) 1).toInt) ∧ (0 ≤ a1.toInt ∧ a1.toInt ≤ 400) ∧ (0 ≤ a2.toInt ∧ a2.toInt ≤ (xi (E 1) 0).toInt)) → (r.toInt = -1)))))) (HBL dC dI (LC cf) ad) (va_A (WL (LC cf) ad E) sz)) 0 0 (va_A (WL (LC cf) ad E) sz) := by
  obtain ⟨⟨hc0, hc1, hc2, hc3, hc4, hc5⟩, hcr⟩ := id hC
  refine Met.ofW (cc := cX12_number) (maxL := 4) (ret := (some .int)) (by decide) rfl ?_
  intro p e s m args below meth c s₁ B hml hv
  obtain ⟨hargs, hsz, hP, hK, hD0, hEV⟩ := hv
  subst hsz
  have hx := B.exec
  have hb := B.bytes
  have hr := B.returns
  have hts := atoms_spec (ws := v_u_numberX) B.pre
  have hown : s.vm.findClass RX12 = some m.cls := findClass_of_methodNamed B.named
  have hlocks := B.notSynchronized
  have hinX12 : ∀ w ∈ u_ws RX12 TX12 6, w ∈ v_u_numberX := fun w h => vA_in _ w (in_X12 w h)
  generalize hAe : va_A (WL (LC cf) ad E) s.heap.size = A at hEV ⊢
  have hA : ∀ q : Nat, s.heap.size ≤ q → A q := fun q h => by rw [← hAe]; exact Or.inr h
  have hD : va_D A (WL (LC cf) ad E) := by rw [← hAe]; exact hD0.self
  have hS : va_S A s.heap s.heap [] := va_S.rf
  have hI := hI0
  have hKp : Kp w_u_numberX E E := Kp.rf
  have hl := lv_entry ([.ref (ad 0), .int a0, .int a1, .int a2]) (n := 4) (Nat.le_of_ble_eq_true rfl)
  obtain ⟨Q, hQ⟩ : ∃ Q, Q = MQ below (va_Qi (S := Nat → va_E) (fun r u => IXL cT (shC cf) (spC cf) (LC cf) ad u ∧ Kp w_u_numberX E u ∧ ((((((0 ≤ a0.toInt ∧ a0.toInt < (xi (E 1) 1).toInt) ∧ (0 ≤ a1.toInt ∧ a1.toInt ≤ 400) ∧ (0 ≤ a2.toInt ∧ a2.toInt ≤ (xi (E 1) 0).toInt)) → (r.toInt = numC cf E a0 a1 a2)) ∧ (¬ ((0 ≤ a0.toInt ∧ a0.toInt < (xi (E 1) 1).toInt) ∧ (0 ≤ a1.toInt ∧ a1.toInt ≤ 400) ∧ (0 ≤ a2.toInt ∧ a2.toInt ≤ (xi (E 1) 0).toInt)) → (r.toInt = -1)))))) (HBL dC dI (LC cf) ad) (A)) args s 0 0 (A) := ⟨_, rfl⟩
  rw [← hQ, show entryFrame m args 4 = _ from (congrArg (fun z => entryFrame m z 4) hargs).trans (lg_entry_eq _ _ _)]
  generalize (lg_sl ([.ref (ad 0), .int a0, .int a1, .int a2]) ++ List.replicate (4 - (lg_sl ([.ref (ad 0), .int a0, .int a1, .int a2])).length) Slot.unset).toArray = ls at hl ⊢
  have hl : lv_has ls 4 [(0, .ref (ad 0)), (1, .int a0), (2, .int a1), (3, .int a2)] := hl
  refine lv_aload_n hx hb dX12_number_0 rfl (lv_at hl 0 rfl) ?_
  refine th_getL (ci := 13) (C := RX12) (T := TX12) (N := 6) (v := .ref (ad 1)) hx hb hts hinX12 hown hK hP hI 0 (mF 0 rfl) rfl rfl 0 (Nat.le_of_ble_eq_true rfl) (hts _ (vA_in _ _ (in_10 _ (zs16 (zs1 (zs0)))))) (fun _ h9 => h9) (hI.fr 0 (mF 0 rfl) rfl (Nat.le_of_ble_eq_true rfl) 1 rfl) dX12_number_1 ?_
  refine lv_iload_n hx hb dX12_number_4 rfl (lv_at hl 1 rfl) ?_
  refine th_riL (va_runV (As := [.int a0]) (rest := []) ⟨hx, hb, hml, hown, hts⟩ (q_isBoatC l dC dI cT cf hC ad E s.heap.size a0 hI) (cwV 1 hts (gi_V (in_10 _ (zs16 (zs4 (zs4 (zs1 (zs1 (zs1 (zs0)))))))) (in_6 _ (zs4 (zs4 (zs4 (zs0))))) (in_6 _ (zs4 (zs4 (zs4 (zs1 (zs0)))))) (in_5 _ (zs4 (zs1 (zs1 (zs0))))) (in_5 _ (zs16 (zs16 (zs4 (zs1 (zs1 (zs0)))))))) rfl rfl rfl ⟨rfl, hz_yX0_isBoat_1⟩ ⟨Nat.le_of_ble_eq_true rfl, Nat.le_of_ble_eq_true rfl⟩) ⟨HWL_bl, va_recv hK hP (ci := 1) (q0 := posL 1 (LC cf)) rfl (hI.ob 1 (mF 1 rfl) rfl), (HWL_wi hP hK (WL_D hD) hS hA hEV)⟩ rfl rfl hl.1 rfl (lv_room (Nat.le_of_ble_eq_true rfl)) dX12_number_5 ⟨Nat.le_of_ble_eq_true rfl, Nat.le_of_ble_eq_true rfl⟩) hS hP (fun r1 H locs hw hP hS => ?_)
  rcases hw with hw | hw
  · -- isBoatC, case 0
    obtain ⟨rfl, f2, f3⟩ := hw
    have i4 : 0 ≤ (xi (E 1) 1).toInt ∧ (xi (E 1) 1).toInt ≤ 16 := hI0.iv 1 (mF 1 rfl) rfl (Nat.le_of_ble_eq_true rfl) rfl
    refine lv_if_eq (tgt := 29) hx hb dX12_number_8 (by decide) (fun c5 => ?_) (fun c5 => ?_)
    · --8 taken
      exact absurd c5 (by decide)
    · --8 not
      refine lv_iload_n hx hb dX12_number_11 rfl (lv_at hl 2 rfl) ?_
      refine th_pi (va_runS (As := [.int a1]) (rest := []) ⟨hx, hb, hml, hown, hts⟩ (q_cisDay l a1) (va_cwS 1 hts (gi_S (in_10 _ (zs16 (zs4 (zs4 (zs4 (zs0)))))) (in_10 _ (zs16 (zs4 (zs4 (zs4 (zs1 (zs0))))))) (in_4 _ (zs16 (zs4 (zs1 (zs1 (zs1 (zs0))))))) (in_10 _ (zs16 (zs4 (zs4 (zs4 (zs1 (zs1 (zs0))))))))) rfl rfl rfl hz_yX12_isDay_1 ⟨Nat.le_of_ble_eq_true rfl, Nat.le_of_ble_eq_true rfl⟩) ⟨fun _ _ _ _ q => q, fun _ _ _ => ⟨rfl, trivial⟩⟩ rfl rfl hl.1 rfl (lv_room (Nat.le_of_ble_eq_true rfl)) dX12_number_12 ⟨Nat.le_of_ble_eq_true rfl, Nat.le_of_ble_eq_true rfl⟩) hS (fun r6 H1 locs1 hw hk1 hS => ?_)
      have hP := ub_keep hP hk1
      generalize H1 = H at hP hS ⊢
      generalize locs1 = locs at hS ⊢
      rcases hw with hw | hw
      · -- cisDay, case 0
        obtain ⟨rfl, f7⟩ := hw
        have t8 : (0 : Int) ≤ a1.toInt := f7.1
        have t9 : a1.toInt ≤ 400 := f7.2
        have i10 : 0 ≤ a1.toInt ∧ a1.toInt ≤ 2147483647 := iv_le_r t8 (il_ 0) (iv_all _) (by decide)
        have i11 : 0 ≤ a1.toInt ∧ a1.toInt ≤ 400 := iv_le_l t9 i10 (il_ 400) (by decide)
        refine lv_if_eq (tgt := 29) hx hb dX12_number_15 (by decide) (fun c12 => ?_) (fun c12 => ?_)
        · --15 taken
          exact absurd c12 (by decide)
        · --15 not
          refine lv_aload_n hx hb dX12_number_18 rfl (lv_at hl 0 rfl) ?_
          refine th_getL (ci := 13) (C := RX12) (T := TX12) (N := 6) (v := .ref (ad 1)) hx hb hts hinX12 hown hK hP hI 0 (mF 0 rfl) rfl rfl 0 (Nat.le_of_ble_eq_true rfl) (hts _ (vA_in _ _ (in_10 _ (zs16 (zs1 (zs0)))))) (fun _ h9 => h9) (hI.fr 0 (mF 0 rfl) rfl (Nat.le_of_ble_eq_true rfl) 1 rfl) dX12_number_19 ?_
          refine lv_iload_n hx hb dX12_number_22 rfl (lv_at hl 3 rfl) ?_
          refine th_riL (va_runV (As := [.int a2]) (rest := []) ⟨hx, hb, hml, hown, hts⟩ (q_isKnownC l dC dI cT cf hC ad E H.size a2 hI) (cwV 1 hts (gi_V (in_18 _ (zs16 (zs4 (zs0)))) (in_6 _ (zs1 (zs1 (zs1 (zs0))))) (in_6 _ (zs4 (zs0))) (in_5 _ (zs4 (zs1 (zs1 (zs0))))) (in_6 _ (zs4 (zs1 (zs0))))) rfl rfl rfl ⟨rfl, hz_yX0_isKnown_1⟩ ⟨Nat.le_of_ble_eq_true rfl, Nat.le_of_ble_eq_true rfl⟩) ⟨HWL_bl, va_recv hK hP (ci := 1) (q0 := posL 1 (LC cf)) rfl (hI.ob 1 (mF 1 rfl) rfl), (HWL_wi hP hK (WL_D hD) hS hA hEV)⟩ rfl rfl hl.1 rfl (lv_room (Nat.le_of_ble_eq_true rfl)) dX12_number_23 ⟨Nat.le_of_ble_eq_true rfl, Nat.le_of_ble_eq_true rfl⟩) hS hP (fun r13 H locs hw hP hS => ?_)
          rcases hw with hw | hw
          · -- isKnownC, case 0
            obtain ⟨rfl, f14, f15⟩ := hw
            have i16 : 0 ≤ (xi (E 1) 0).toInt ∧ (xi (E 1) 0).toInt ≤ 400 := hI0.iv 1 (mF 1 rfl) rfl (Nat.le_of_ble_eq_true rfl) rfl
            refine lv_if_ne (tgt := 31) hx hb dX12_number_26 (by decide) (fun c17 => ?_) (fun c17 => ?_)
            · --26 taken
              refine lv_aload_n hx hb dX12_number_31 rfl (lv_at hl 0 rfl) ?_
              refine th_getL (ci := 13) (C := RX12) (T := TX12) (N := 6) (v := .ref (ad 1)) hx hb hts hinX12 hown hK hP hI 0 (mF 0 rfl) rfl rfl 0 (Nat.le_of_ble_eq_true rfl) (hts _ (vA_in _ _ (in_10 _ (zs16 (zs1 (zs0)))))) (fun _ h9 => h9) (hI.fr 0 (mF 0 rfl) rfl (Nat.le_of_ble_eq_true rfl) 1 rfl) dX12_number_32 ?_
              refine lv_iload_n hx hb dX12_number_35 rfl (lv_at hl 1 rfl) ?_
              refine lv_iload_n hx hb dX12_number_36 rfl (lv_at hl 2 rfl) ?_
              refine lv_iload_n hx hb dX12_number_37 rfl (lv_at hl 3 rfl) ?_
              refine th_iL (va_runV (As := [.int a0, .int a1, .int a2]) (rest := []) ⟨hx, hb, hml, hown, hts⟩ (q_numberOfX l dC dI cT cf hC ad E H.size a0 a1 a2 hI (by exact hh0)) (cwV 3 hts (gi_V (in_20 _ (zs1 (zs1 (zs0)))) (in_12 _ (zs16 (zs16 (zs1 (zs1 (zs1 (zs0))))))) (in_12 _ (zs16 (zs16 (zs4 (zs0))))) (in_5 _ (zs4 (zs1 (zs1 (zs0))))) (in_6 _ (zs16 (zs4 (zs1 (zs1 (zs0))))))) rfl rfl rfl ⟨rfl, hz_yX0_numberOf_3⟩ ⟨Nat.le_of_ble_eq_true rfl, Nat.le_of_ble_eq_true rfl⟩) ⟨HWL_bl, va_recv hK hP (ci := 1) (q0 := posL 1 (LC cf)) rfl (hI.ob 1 (mF 1 rfl) rfl), (HWL_wi hP hK (WL_D hD) hS hA hEV)⟩ rfl rfl hl.1 rfl (lv_room (Nat.le_of_ble_eq_true rfl)) dX12_number_38 ⟨Nat.le_of_ble_eq_true rfl, Nat.le_of_ble_eq_true rfl⟩) (WL_D hD) hS hA (fun r18 E19 H locs hw hP hS => ?_)
              obtain ⟨hI, kq20, hw⟩ := hw
              have hKb := hKp
              have hKp := hKp.tr kq20 (wl_sub rfl rfl)
              have f21 := hw
              rw [hQ]
              exact W.iret (v := r18) hx hb hr (fun t ht hW => ⟨⟨r18, E19, rfl, ⟨hI, hKp, (by all_goals omega)⟩, by show va_P (dC, dI) vwCl (WL (LC cf) ad E19) t.heap; rw [ht]; exact hP⟩, hS.F ht⟩) hS.2.2 dX12_number_41
            · --26 not
              exact absurd c17 (by decide)
          · -- isKnownC, case 1
            obtain ⟨rfl, f22⟩ := hw
            have i23 : 0 ≤ (xi (E 1) 0).toInt ∧ (xi (E 1) 0).toInt ≤ 400 := hI0.iv 1 (mF 1 rfl) rfl (Nat.le_of_ble_eq_true rfl) rfl
            refine lv_if_ne (tgt := 31) hx hb dX12_number_26 (by decide) (fun c24 => ?_) (fun c24 => ?_)
            · --26 taken
              exact absurd c24 (by decide)
            · --26 not
              refine lv_iconst (v := -1) hx hb dX12_number_29 (by decide) ?_
              rw [hQ]
              exact W.iret (v := (-1)) hx hb hr (fun t ht hW => ⟨⟨(-1), E, rfl, ⟨hI, hKp, (by have h8 := ln_m1; all_goals omega)⟩, by show va_P (dC, dI) vwCl (WL (LC cf) ad E) t.heap; rw [ht]; exact hP⟩, hS.F ht⟩) hS.2.2 dX12_number_30
      · -- cisDay, case 1
        obtain ⟨rfl, f25⟩ := hw
        have t26 : ¬ ((0 : Int) ≤ a1.toInt ∧ a1.toInt ≤ 400) := f25
        refine lv_if_eq (tgt := 29) hx hb dX12_number_15 (by decide) (fun c27 => ?_) (fun c27 => ?_)
        · --15 taken
          refine lv_iconst (v := -1) hx hb dX12_number_29 (by decide) ?_
          rw [hQ]
          exact W.iret (v := (-1)) hx hb hr (fun t ht hW => ⟨⟨(-1), E, rfl, ⟨hI, hKp, (by have h8 := ln_m1; all_goals omega)⟩, by show va_P (dC, dI) vwCl (WL (LC cf) ad E) t.heap; rw [ht]; exact hP⟩, hS.F ht⟩) hS.2.2 dX12_number_30
        · --15 not
          exact absurd c27 (by decide)
  · -- isBoatC, case 1
    obtain ⟨rfl, f28⟩ := hw
    have i29 : 0 ≤ (xi (E 1) 1).toInt ∧ (xi (E 1) 1).toInt ≤ 16 := hI0.iv 1 (mF 1 rfl) rfl (Nat.le_of_ble_eq_true rfl) rfl
    refine lv_if_eq (tgt := 29) hx hb dX12_number_8 (by decide) (fun c30 => ?_) (fun c30 => ?_)
    · --8 taken
      refine lv_iconst (v := -1) hx hb dX12_number_29 (by decide) ?_
      rw [hQ]
      exact W.iret (v := (-1)) hx hb hr (fun t ht hW => ⟨⟨(-1), E, rfl, ⟨hI, hKp, (by have h8 := ln_m1; all_goals omega)⟩, by show va_P (dC, dI) vwCl (WL (LC cf) ad E) t.heap; rw [ht]; exact hP⟩, hS.F ht⟩) hS.2.2 dX12_number_30
    · --8 not
      exact absurd c30 (by decide)
end

