set_option maxRecDepth 100000 in
theorem zh_dX13_look_0_0 : zc cX13_look 0 [42, 180, 1, 14, 42, 180, 1, 17, 162, 0, 35, 42, 180, 0, 47, 42] = true := by decide +kernel
set_option maxRecDepth 100000 in
theorem zh_dX13_look_16_16 : zc cX13_look 16 [180, 1, 20, 42, 180, 1, 14, 96, 51, 16, 32, 160, 0, 16, 42, 89] = true := by decide +kernel
set_option maxRecDepth 100000 in
theorem zh_dX13_look_32_32 : zc cX13_look 32 [180, 1, 14, 4, 96, 181, 1, 14, 167, 255, 216, 42, 180, 1, 14, 42] = true := by decide +kernel
set_option maxRecDepth 100000 in
theorem zh_dX13_look_48_48 : zc cX13_look 48 [180, 1, 17, 162, 0, 24, 42, 180, 0, 47, 42, 180, 1, 20, 42, 180] = true := by decide +kernel
set_option maxRecDepth 100000 in
theorem zh_dX13_look_63_64 : zc cX13_look 64 [1, 14, 96, 51, 17, 0, 255, 126, 167, 0, 4, 2, 172] = true := by decide +kernel
set_option maxRecDepth 100000 in
theorem zh_dX13_stop_0_0 : zc cX13_stop 0 [42, 180, 1, 23, 2, 160, 0, 11, 42, 42, 180, 1, 14, 181, 1, 23] = true := by decide +kernel
set_option maxRecDepth 100000 in
theorem zh_dX13_stop_16_16 : zc cX13_stop 16 [3, 172] = true := by decide +kernel
set_option maxRecDepth 100000 in
theorem zh_dX13_goesIn_0_0 : zc cX13_goesIn 0 [42, 180, 1, 26, 16, 8, 160, 0, 8, 42, 182, 1, 29, 172, 42, 89] = true := by decide +kernel
set_option maxRecDepth 100000 in
theorem zh_dX13_goesIn_16_16 : zc cX13_goesIn 16 [180, 1, 26, 4, 96, 181, 1, 26, 42, 89, 180, 1, 14, 4, 96, 181] = true := by decide +kernel
set_option maxRecDepth 100000 in
theorem zh_dX13_goesIn_31_32 : zc cX13_goesIn 32 [1, 14, 4, 172] = true := by decide +kernel
set_option maxRecDepth 100000 in
theorem zh_dX13_takes_0_0 : zc cX13_takes 0 [42, 180, 1, 23, 2, 160, 0, 11, 42, 182, 1, 33, 27, 159, 0, 8] = true := by decide +kernel
set_option maxRecDepth 100000 in
theorem zh_dX13_takes_16_16 : zc cX13_takes 16 [42, 182, 1, 29, 172, 42, 89, 180, 1, 14, 4, 96, 181, 1, 14, 4] = true := by decide +kernel
set_option maxRecDepth 100000 in
theorem zh_dX13_takes_32_32 : zc cX13_takes 32 [172] = true := by decide +kernel
set_option maxRecDepth 100000 in
theorem zh_dX13_isDigit_0_0 : zc cX13_isDigit 0 [42, 180, 1, 14, 42, 180, 1, 17, 162, 0, 45, 42, 180, 0, 47, 42] = true := by decide +kernel
set_option maxRecDepth 100000 in
theorem zh_dX13_isDigit_16_16 : zc cX13_isDigit 16 [180, 1, 20, 42, 180, 1, 14, 96, 51, 16, 48, 161, 0, 26, 42, 180] = true := by decide +kernel
set_option maxRecDepth 100000 in
theorem zh_dX13_isDigit_31_32 : zc cX13_isDigit 32 [0, 47, 42, 180, 1, 20, 42, 180, 1, 14, 96, 51, 16, 57, 163, 0] = true := by decide +kernel
set_option maxRecDepth 100000 in
theorem zh_dX13_isDigit_46_48 : zc cX13_isDigit 48 [7, 4, 167, 0, 4, 3, 172] = true := by decide +kernel
set_option maxRecDepth 100000 in
theorem zh_dX13_bound_0_0 : zc cX13_bound 0 [20, 1, 37, 20, 1, 39, 30, 184, 1, 41, 184, 1, 47, 136, 172] = true := by decide +kernel
set_option maxRecDepth 100000 in
theorem zh_dX13_atom_0_0 : zc cX13_atom 0 [42, 182, 1, 33, 60, 27, 2, 159, 0, 30, 19, 1, 50, 27, 182, 1] = true := by decide +kernel
set_option maxRecDepth 100000 in
theorem zh_dX13_atom_14_16 : zc cX13_atom 16 [52, 155, 0, 20, 42, 89, 180, 1, 14, 4, 96, 181, 1, 14, 42, 180] = true := by decide +kernel
set_option maxRecDepth 100000 in
theorem zh_dX13_atom_31_32 : zc cX13_atom 32 [0, 44, 27, 46, 172, 27, 16, 91, 160, 0, 40, 42, 182, 1, 57, 154] = true := by decide +kernel
set_option maxRecDepth 100000 in
theorem zh_dX13_atom_47_48 : zc cX13_atom 48 [0, 5, 3, 172, 42, 182, 1, 60, 61, 42, 16, 93, 182, 1, 63, 154] = true := by decide +kernel
set_option maxRecDepth 100000 in
theorem zh_dX13_atom_63_64 : zc cX13_atom 64 [0, 5, 3, 172, 42, 89, 180, 1, 26, 4, 100, 181, 1, 26, 28, 172] = true := by decide +kernel
set_option maxRecDepth 100000 in
theorem zh_dX13_atom_80_80 : zc cX13_atom 80 [42, 182, 1, 66, 154, 0, 8, 42, 182, 1, 29, 87, 3, 61, 3, 62] = true := by decide +kernel
set_option maxRecDepth 100000 in
theorem zh_dX13_atom_96_96 : zc cX13_atom 96 [42, 182, 1, 66, 153, 0, 62, 42, 180, 1, 23, 2, 160, 0, 54, 29] = true := by decide +kernel
set_option maxRecDepth 100000 in
theorem zh_dX13_atom_112_112 : zc cX13_atom 112 [8, 160, 0, 10, 42, 182, 1, 29, 87, 3, 172, 16, 10, 28, 104, 42] = true := by decide +kernel
set_option maxRecDepth 100000 in
theorem zh_dX13_atom_128_128 : zc cX13_atom 128 [180, 0, 47, 42, 180, 1, 20, 42, 180, 1, 14, 96, 51, 96, 16, 48] = true := by decide +kernel
set_option maxRecDepth 100000 in
theorem zh_dX13_atom_144_144 : zc cX13_atom 144 [100, 61, 42, 89, 180, 1, 14, 4, 96, 181, 1, 14, 132, 3, 1, 167] = true := by decide +kernel
set_option maxRecDepth 100000 in
theorem zh_dX13_atom_159_160 : zc cX13_atom 160 [255, 193, 28, 172] = true := by decide +kernel
set_option maxRecDepth 100000 in
theorem zh_dX13_term_0_0 : zc cX13_term 0 [42, 182, 1, 69, 60, 42, 180, 1, 23, 2, 160, 0, 84, 42, 182, 1] = true := by decide +kernel
set_option maxRecDepth 100000 in
theorem zh_dX13_term_14_16 : zc cX13_term 16 [33, 16, 42, 159, 0, 12, 42, 182, 1, 33, 16, 47, 160, 0, 66, 42] = true := by decide +kernel
set_option maxRecDepth 100000 in
theorem zh_dX13_term_32_32 : zc cX13_term 32 [182, 1, 33, 16, 42, 160, 0, 7, 4, 167, 0, 4, 3, 61, 42, 89] = true := by decide +kernel
set_option maxRecDepth 100000 in
theorem zh_dX13_term_48_48 : zc cX13_term 48 [180, 1, 14, 4, 96, 181, 1, 14, 42, 182, 1, 69, 133, 66, 28, 153] = true := by decide +kernel
set_option maxRecDepth 100000 in
theorem zh_dX13_term_63_64 : zc cX13_term 64 [0, 10, 27, 133, 33, 105, 167, 0, 17, 33, 9, 148, 154, 0, 7, 9] = true := by decide +kernel
set_option maxRecDepth 100000 in
theorem zh_dX13_term_80_80 : zc cX13_term 80 [167, 0, 7, 27, 133, 33, 109, 184, 1, 72, 60, 167, 255, 170, 27, 172] = true := by decide +kernel
set_option maxRecDepth 100000 in
theorem zh_dX13_sum_0_0 : zc cX13_sum 0 [42, 182, 1, 76, 60, 42, 180, 1, 23, 2, 160, 0, 74, 42, 182, 1] = true := by decide +kernel
set_option maxRecDepth 100000 in
theorem zh_dX13_sum_14_16 : zc cX13_sum 16 [33, 16, 43, 159, 0, 12, 42, 182, 1, 33, 16, 45, 160, 0, 56, 42] = true := by decide +kernel
set_option maxRecDepth 100000 in
theorem zh_dX13_sum_32_32 : zc cX13_sum 32 [182, 1, 33, 16, 43, 160, 0, 7, 4, 167, 0, 4, 3, 61, 42, 89] = true := by decide +kernel
set_option maxRecDepth 100000 in
theorem zh_dX13_sum_48_48 : zc cX13_sum 48 [180, 1, 14, 4, 96, 181, 1, 14, 42, 182, 1, 76, 133, 66, 28, 153] = true := by decide +kernel
set_option maxRecDepth 100000 in
theorem zh_dX13_sum_63_64 : zc cX13_sum 64 [0, 10, 27, 133, 33, 97, 167, 0, 7, 27, 133, 33, 101, 184, 1, 72] = true := by decide +kernel
set_option maxRecDepth 100000 in
theorem zh_dX13_sum_80_80 : zc cX13_sum 80 [60, 167, 255, 180, 27, 172] = true := by decide +kernel
set_option maxRecDepth 100000 in
theorem zh_dX13_isSign_0_0 : zc cX13_isSign 0 [26, 16, 61, 159, 0, 15, 26, 16, 60, 159, 0, 9, 26, 16, 62, 160] = true := by decide +kernel
set_option maxRecDepth 100000 in
theorem zh_dX13_isSign_15_16 : zc cX13_isSign 16 [0, 7, 4, 167, 0, 4, 3, 172] = true := by decide +kernel
set_option maxRecDepth 100000 in
theorem zh_dX13_compares_0_0 : zc cX13_compares 0 [27, 153, 0, 7, 28, 167, 0, 7, 42, 182, 1, 60, 62, 42, 180, 1] = true := by decide +kernel
set_option maxRecDepth 100000 in
theorem zh_dX13_compares_14_16 : zc cX13_compares 16 [23, 2, 159, 0, 5, 3, 172, 42, 182, 1, 33, 54, 4, 21, 4, 184] = true := by decide +kernel
set_option maxRecDepth 100000 in
theorem zh_dX13_compares_31_32 : zc cX13_compares 32 [1, 79, 154, 0, 8, 42, 182, 1, 29, 172, 42, 89, 180, 1, 14, 4] = true := by decide +kernel
set_option maxRecDepth 100000 in
theorem zh_dX13_compares_48_48 : zc cX13_compares 48 [96, 181, 1, 14, 42, 182, 1, 60, 54, 5, 21, 4, 16, 61, 160, 0] = true := by decide +kernel
set_option maxRecDepth 100000 in
theorem zh_dX13_compares_62_64 : zc cX13_compares 64 [17, 29, 21, 5, 160, 0, 7, 4, 167, 0, 39, 3, 167, 0, 35, 21] = true := by decide +kernel
set_option maxRecDepth 100000 in
theorem zh_dX13_compares_79_80 : zc cX13_compares 80 [4, 16, 60, 160, 0, 17, 29, 21, 5, 162, 0, 7, 4, 167, 0, 18] = true := by decide +kernel
set_option maxRecDepth 100000 in
theorem zh_dX13_compares_96_96 : zc cX13_compares 96 [3, 167, 0, 14, 29, 21, 5, 164, 0, 7, 4, 167, 0, 4, 3, 172] = true := by decide +kernel
set_option maxRecDepth 100000 in
theorem zh_dX13_unit_0_0 : zc cX13_unit 0 [42, 182, 1, 33, 60, 27, 16, 33, 160, 0, 37, 42, 182, 1, 57, 154] = true := by decide +kernel
set_option maxRecDepth 100000 in
theorem zh_dX13_unit_15_16 : zc cX13_unit 16 [0, 5, 3, 172, 42, 182, 1, 82, 61, 42, 89, 180, 1, 26, 4, 100] = true := by decide +kernel
set_option maxRecDepth 100000 in
theorem zh_dX13_unit_32_32 : zc cX13_unit 32 [181, 1, 26, 28, 154, 0, 7, 4, 167, 0, 4, 3, 172, 27, 16, 40] = true := by decide +kernel
set_option maxRecDepth 100000 in
theorem zh_dX13_unit_48_48 : zc cX13_unit 48 [160, 0, 42, 42, 182, 1, 57, 154, 0, 5, 3, 172, 42, 3, 3, 182] = true := by decide +kernel
set_option maxRecDepth 100000 in
theorem zh_dX13_unit_63_64 : zc cX13_unit 64 [1, 85, 61, 42, 16, 41, 182, 1, 63, 154, 0, 5, 3, 172, 42, 89] = true := by decide +kernel
set_option maxRecDepth 100000 in
theorem zh_dX13_unit_80_80 : zc cX13_unit 80 [180, 1, 26, 4, 100, 181, 1, 26, 28, 172, 42, 3, 3, 182, 1, 89] = true := by decide +kernel
set_option maxRecDepth 100000 in
theorem zh_dX13_unit_96_96 : zc cX13_unit 96 [172] = true := by decide +kernel
set_option maxRecDepth 100000 in
theorem zh_dX13_part_0_0 : zc cX13_part 0 [27, 153, 0, 12, 42, 4, 28, 182, 1, 89, 167, 0, 7, 42, 182, 1] = true := by decide +kernel
set_option maxRecDepth 100000 in
theorem zh_dX13_part_14_16 : zc cX13_part 16 [82, 62, 42, 180, 1, 23, 2, 160, 0, 46, 42, 182, 1, 33, 16, 38] = true := by decide +kernel
set_option maxRecDepth 100000 in
theorem zh_dX13_part_32_32 : zc cX13_part 32 [160, 0, 37, 42, 89, 180, 1, 14, 4, 96, 181, 1, 14, 42, 182, 1] = true := by decide +kernel
set_option maxRecDepth 100000 in
theorem zh_dX13_part_46_48 : zc cX13_part 48 [82, 54, 4, 29, 153, 0, 12, 21, 4, 153, 0, 7, 4, 167, 0, 4] = true := by decide +kernel
set_option maxRecDepth 100000 in
theorem zh_dX13_part_64_64 : zc cX13_part 64 [3, 62, 167, 255, 208, 29, 172] = true := by decide +kernel
set_option maxRecDepth 100000 in
theorem zh_dX13_condition_0_0 : zc cX13_condition 0 [42, 27, 28, 182, 1, 92, 62, 42, 180, 1, 23, 2, 160, 0, 48, 42] = true := by decide +kernel
set_option maxRecDepth 100000 in
theorem zh_dX13_condition_16_16 : zc cX13_condition 16 [182, 1, 33, 16, 124, 160, 0, 39, 42, 89, 180, 1, 14, 4, 96, 181] = true := by decide +kernel
set_option maxRecDepth 100000 in
theorem zh_dX13_condition_31_32 : zc cX13_condition 32 [1, 14, 42, 3, 3, 182, 1, 92, 54, 4, 29, 154, 0, 8, 21, 4] = true := by decide +kernel
set_option maxRecDepth 100000 in
theorem zh_dX13_condition_48_48 : zc cX13_condition 48 [153, 0, 7, 4, 167, 0, 4, 3, 62, 167, 255, 206, 29, 172] = true := by decide +kernel
theorem dX13_look_0 : decode cX13_look 0 = .ok (.aload_n 0, 1) := zo_42 (zi_at zh_dX13_look_0_0 0 rfl)
theorem dX13_look_1 : decode cX13_look 1 = .ok (.getfield 270, 3) := zo_180 (zi_at zh_dX13_look_0_0 1 rfl) (zi_at zh_dX13_look_0_0 2 rfl) (zi_at zh_dX13_look_0_0 3 rfl) rfl
theorem dX13_look_4 : decode cX13_look 4 = .ok (.aload_n 0, 1) := zo_42 (zi_at zh_dX13_look_0_0 4 rfl)
theorem dX13_look_5 : decode cX13_look 5 = .ok (.getfield 273, 3) := zo_180 (zi_at zh_dX13_look_0_0 5 rfl) (zi_at zh_dX13_look_0_0 6 rfl) (zi_at zh_dX13_look_0_0 7 rfl) rfl
theorem dX13_look_8 : decode cX13_look 8 = .ok (.if_icmp .ge 35, 3) := zo_162 (zi_at zh_dX13_look_0_0 8 rfl) (zi_at zh_dX13_look_0_0 9 rfl) (zi_at zh_dX13_look_0_0 10 rfl) rfl
theorem dX13_look_11 : decode cX13_look 11 = .ok (.aload_n 0, 1) := zo_42 (zi_at zh_dX13_look_0_0 11 rfl)
theorem dX13_look_12 : decode cX13_look 12 = .ok (.getfield 47, 3) := zo_180 (zi_at zh_dX13_look_0_0 12 rfl) (zi_at zh_dX13_look_0_0 13 rfl) (zi_at zh_dX13_look_0_0 14 rfl) rfl
theorem dX13_look_15 : decode cX13_look 15 = .ok (.aload_n 0, 1) := zo_42 (zi_at zh_dX13_look_0_0 15 rfl)
theorem dX13_look_16 : decode cX13_look 16 = .ok (.getfield 276, 3) := zo_180 (zi_at zh_dX13_look_16_16 0 rfl) (zi_at zh_dX13_look_16_16 1 rfl) (zi_at zh_dX13_look_16_16 2 rfl) rfl
theorem dX13_look_19 : decode cX13_look 19 = .ok (.aload_n 0, 1) := zo_42 (zi_at zh_dX13_look_16_16 3 rfl)
theorem dX13_look_20 : decode cX13_look 20 = .ok (.getfield 270, 3) := zo_180 (zi_at zh_dX13_look_16_16 4 rfl) (zi_at zh_dX13_look_16_16 5 rfl) (zi_at zh_dX13_look_16_16 6 rfl) rfl
theorem dX13_look_23 : decode cX13_look 23 = .ok (.iadd, 1) := zo_96 (zi_at zh_dX13_look_16_16 7 rfl)
theorem dX13_look_24 : decode cX13_look 24 = .ok (.baload, 1) := zo_51 (zi_at zh_dX13_look_16_16 8 rfl)
theorem dX13_look_25 : decode cX13_look 25 = .ok (.bipush 32, 2) := zo_16 (zi_at zh_dX13_look_16_16 9 rfl) (zi_at zh_dX13_look_16_16 10 rfl) rfl
theorem dX13_look_27 : decode cX13_look 27 = .ok (.if_icmp .ne 16, 3) := zo_160 (zi_at zh_dX13_look_16_16 11 rfl) (zi_at zh_dX13_look_16_16 12 rfl) (zi_at zh_dX13_look_16_16 13 rfl) rfl
theorem dX13_look_30 : decode cX13_look 30 = .ok (.aload_n 0, 1) := zo_42 (zi_at zh_dX13_look_16_16 14 rfl)
theorem dX13_look_31 : decode cX13_look 31 = .ok (.dup, 1) := zo_89 (zi_at zh_dX13_look_16_16 15 rfl)
theorem dX13_look_32 : decode cX13_look 32 = .ok (.getfield 270, 3) := zo_180 (zi_at zh_dX13_look_32_32 0 rfl) (zi_at zh_dX13_look_32_32 1 rfl) (zi_at zh_dX13_look_32_32 2 rfl) rfl
theorem dX13_look_35 : decode cX13_look 35 = .ok (.iconst 1, 1) := zo_4 (zi_at zh_dX13_look_32_32 3 rfl)
theorem dX13_look_36 : decode cX13_look 36 = .ok (.iadd, 1) := zo_96 (zi_at zh_dX13_look_32_32 4 rfl)
theorem dX13_look_37 : decode cX13_look 37 = .ok (.putfield 270, 3) := zo_181 (zi_at zh_dX13_look_32_32 5 rfl) (zi_at zh_dX13_look_32_32 6 rfl) (zi_at zh_dX13_look_32_32 7 rfl) rfl
theorem dX13_look_40 : decode cX13_look 40 = .ok (.goto (-40), 3) := zo_167 (zi_at zh_dX13_look_32_32 8 rfl) (zi_at zh_dX13_look_32_32 9 rfl) (zi_at zh_dX13_look_32_32 10 rfl) rfl
theorem dX13_look_43 : decode cX13_look 43 = .ok (.aload_n 0, 1) := zo_42 (zi_at zh_dX13_look_32_32 11 rfl)
theorem dX13_look_44 : decode cX13_look 44 = .ok (.getfield 270, 3) := zo_180 (zi_at zh_dX13_look_32_32 12 rfl) (zi_at zh_dX13_look_32_32 13 rfl) (zi_at zh_dX13_look_32_32 14 rfl) rfl
theorem dX13_look_47 : decode cX13_look 47 = .ok (.aload_n 0, 1) := zo_42 (zi_at zh_dX13_look_32_32 15 rfl)
theorem dX13_look_48 : decode cX13_look 48 = .ok (.getfield 273, 3) := zo_180 (zi_at zh_dX13_look_48_48 0 rfl) (zi_at zh_dX13_look_48_48 1 rfl) (zi_at zh_dX13_look_48_48 2 rfl) rfl
theorem dX13_look_51 : decode cX13_look 51 = .ok (.if_icmp .ge 24, 3) := zo_162 (zi_at zh_dX13_look_48_48 3 rfl) (zi_at zh_dX13_look_48_48 4 rfl) (zi_at zh_dX13_look_48_48 5 rfl) rfl
theorem dX13_look_54 : decode cX13_look 54 = .ok (.aload_n 0, 1) := zo_42 (zi_at zh_dX13_look_48_48 6 rfl)
theorem dX13_look_55 : decode cX13_look 55 = .ok (.getfield 47, 3) := zo_180 (zi_at zh_dX13_look_48_48 7 rfl) (zi_at zh_dX13_look_48_48 8 rfl) (zi_at zh_dX13_look_48_48 9 rfl) rfl
theorem dX13_look_58 : decode cX13_look 58 = .ok (.aload_n 0, 1) := zo_42 (zi_at zh_dX13_look_48_48 10 rfl)
theorem dX13_look_59 : decode cX13_look 59 = .ok (.getfield 276, 3) := zo_180 (zi_at zh_dX13_look_48_48 11 rfl) (zi_at zh_dX13_look_48_48 12 rfl) (zi_at zh_dX13_look_48_48 13 rfl) rfl
theorem dX13_look_62 : decode cX13_look 62 = .ok (.aload_n 0, 1) := zo_42 (zi_at zh_dX13_look_48_48 14 rfl)
theorem dX13_look_63 : decode cX13_look 63 = .ok (.getfield 270, 3) := zo_180 (zi_at zh_dX13_look_48_48 15 rfl) (zi_at zh_dX13_look_63_64 0 rfl) (zi_at zh_dX13_look_63_64 1 rfl) rfl
theorem dX13_look_66 : decode cX13_look 66 = .ok (.iadd, 1) := zo_96 (zi_at zh_dX13_look_63_64 2 rfl)
theorem dX13_look_67 : decode cX13_look 67 = .ok (.baload, 1) := zo_51 (zi_at zh_dX13_look_63_64 3 rfl)
theorem dX13_look_68 : decode cX13_look 68 = .ok (.sipush 255, 3) := zo_17 (zi_at zh_dX13_look_63_64 4 rfl) (zi_at zh_dX13_look_63_64 5 rfl) (zi_at zh_dX13_look_63_64 6 rfl) rfl
theorem dX13_look_71 : decode cX13_look 71 = .ok (.iand, 1) := zo_126 (zi_at zh_dX13_look_63_64 7 rfl)
theorem dX13_look_72 : decode cX13_look 72 = .ok (.goto 4, 3) := zo_167 (zi_at zh_dX13_look_63_64 8 rfl) (zi_at zh_dX13_look_63_64 9 rfl) (zi_at zh_dX13_look_63_64 10 rfl) rfl
theorem dX13_look_75 : decode cX13_look 75 = .ok (.iconst (-1), 1) := zo_2 (zi_at zh_dX13_look_63_64 11 rfl)
theorem dX13_look_76 : decode cX13_look 76 = .ok (.ireturn, 1) := zo_172 (zi_at zh_dX13_look_63_64 12 rfl)
theorem dX13_stop_0 : decode cX13_stop 0 = .ok (.aload_n 0, 1) := zo_42 (zi_at zh_dX13_stop_0_0 0 rfl)
theorem dX13_stop_1 : decode cX13_stop 1 = .ok (.getfield 279, 3) := zo_180 (zi_at zh_dX13_stop_0_0 1 rfl) (zi_at zh_dX13_stop_0_0 2 rfl) (zi_at zh_dX13_stop_0_0 3 rfl) rfl
theorem dX13_stop_4 : decode cX13_stop 4 = .ok (.iconst (-1), 1) := zo_2 (zi_at zh_dX13_stop_0_0 4 rfl)
theorem dX13_stop_5 : decode cX13_stop 5 = .ok (.if_icmp .ne 11, 3) := zo_160 (zi_at zh_dX13_stop_0_0 5 rfl) (zi_at zh_dX13_stop_0_0 6 rfl) (zi_at zh_dX13_stop_0_0 7 rfl) rfl
theorem dX13_stop_8 : decode cX13_stop 8 = .ok (.aload_n 0, 1) := zo_42 (zi_at zh_dX13_stop_0_0 8 rfl)
theorem dX13_stop_9 : decode cX13_stop 9 = .ok (.aload_n 0, 1) := zo_42 (zi_at zh_dX13_stop_0_0 9 rfl)
theorem dX13_stop_10 : decode cX13_stop 10 = .ok (.getfield 270, 3) := zo_180 (zi_at zh_dX13_stop_0_0 10 rfl) (zi_at zh_dX13_stop_0_0 11 rfl) (zi_at zh_dX13_stop_0_0 12 rfl) rfl
theorem dX13_stop_13 : decode cX13_stop 13 = .ok (.putfield 279, 3) := zo_181 (zi_at zh_dX13_stop_0_0 13 rfl) (zi_at zh_dX13_stop_0_0 14 rfl) (zi_at zh_dX13_stop_0_0 15 rfl) rfl
theorem dX13_stop_16 : decode cX13_stop 16 = .ok (.iconst 0, 1) := zo_3 (zi_at zh_dX13_stop_16_16 0 rfl)
theorem dX13_stop_17 : decode cX13_stop 17 = .ok (.ireturn, 1) := zo_172 (zi_at zh_dX13_stop_16_16 1 rfl)
theorem dX13_goesIn_0 : decode cX13_goesIn 0 = .ok (.aload_n 0, 1) := zo_42 (zi_at zh_dX13_goesIn_0_0 0 rfl)
theorem dX13_goesIn_1 : decode cX13_goesIn 1 = .ok (.getfield 282, 3) := zo_180 (zi_at zh_dX13_goesIn_0_0 1 rfl) (zi_at zh_dX13_goesIn_0_0 2 rfl) (zi_at zh_dX13_goesIn_0_0 3 rfl) rfl
theorem dX13_goesIn_4 : decode cX13_goesIn 4 = .ok (.bipush 8, 2) := zo_16 (zi_at zh_dX13_goesIn_0_0 4 rfl) (zi_at zh_dX13_goesIn_0_0 5 rfl) rfl
theorem dX13_goesIn_6 : decode cX13_goesIn 6 = .ok (.if_icmp .ne 8, 3) := zo_160 (zi_at zh_dX13_goesIn_0_0 6 rfl) (zi_at zh_dX13_goesIn_0_0 7 rfl) (zi_at zh_dX13_goesIn_0_0 8 rfl) rfl
theorem dX13_goesIn_9 : decode cX13_goesIn 9 = .ok (.aload_n 0, 1) := zo_42 (zi_at zh_dX13_goesIn_0_0 9 rfl)
theorem dX13_goesIn_10 : decode cX13_goesIn 10 = .ok (.invokevirtual 285, 3) := zo_182 (zi_at zh_dX13_goesIn_0_0 10 rfl) (zi_at zh_dX13_goesIn_0_0 11 rfl) (zi_at zh_dX13_goesIn_0_0 12 rfl) rfl
theorem dX13_goesIn_13 : decode cX13_goesIn 13 = .ok (.ireturn, 1) := zo_172 (zi_at zh_dX13_goesIn_0_0 13 rfl)
theorem dX13_goesIn_14 : decode cX13_goesIn 14 = .ok (.aload_n 0, 1) := zo_42 (zi_at zh_dX13_goesIn_0_0 14 rfl)
theorem dX13_goesIn_15 : decode cX13_goesIn 15 = .ok (.dup, 1) := zo_89 (zi_at zh_dX13_goesIn_0_0 15 rfl)
theorem dX13_goesIn_16 : decode cX13_goesIn 16 = .ok (.getfield 282, 3) := zo_180 (zi_at zh_dX13_goesIn_16_16 0 rfl) (zi_at zh_dX13_goesIn_16_16 1 rfl) (zi_at zh_dX13_goesIn_16_16 2 rfl) rfl
theorem dX13_goesIn_19 : decode cX13_goesIn 19 = .ok (.iconst 1, 1) := zo_4 (zi_at zh_dX13_goesIn_16_16 3 rfl)
theorem dX13_goesIn_20 : decode cX13_goesIn 20 = .ok (.iadd, 1) := zo_96 (zi_at zh_dX13_goesIn_16_16 4 rfl)
theorem dX13_goesIn_21 : decode cX13_goesIn 21 = .ok (.putfield 282, 3) := zo_181 (zi_at zh_dX13_goesIn_16_16 5 rfl) (zi_at zh_dX13_goesIn_16_16 6 rfl) (zi_at zh_dX13_goesIn_16_16 7 rfl) rfl
theorem dX13_goesIn_24 : decode cX13_goesIn 24 = .ok (.aload_n 0, 1) := zo_42 (zi_at zh_dX13_goesIn_16_16 8 rfl)
theorem dX13_goesIn_25 : decode cX13_goesIn 25 = .ok (.dup, 1) := zo_89 (zi_at zh_dX13_goesIn_16_16 9 rfl)
theorem dX13_goesIn_26 : decode cX13_goesIn 26 = .ok (.getfield 270, 3) := zo_180 (zi_at zh_dX13_goesIn_16_16 10 rfl) (zi_at zh_dX13_goesIn_16_16 11 rfl) (zi_at zh_dX13_goesIn_16_16 12 rfl) rfl
theorem dX13_goesIn_29 : decode cX13_goesIn 29 = .ok (.iconst 1, 1) := zo_4 (zi_at zh_dX13_goesIn_16_16 13 rfl)
theorem dX13_goesIn_30 : decode cX13_goesIn 30 = .ok (.iadd, 1) := zo_96 (zi_at zh_dX13_goesIn_16_16 14 rfl)
theorem dX13_goesIn_31 : decode cX13_goesIn 31 = .ok (.putfield 270, 3) := zo_181 (zi_at zh_dX13_goesIn_16_16 15 rfl) (zi_at zh_dX13_goesIn_31_32 0 rfl) (zi_at zh_dX13_goesIn_31_32 1 rfl) rfl
theorem dX13_goesIn_34 : decode cX13_goesIn 34 = .ok (.iconst 1, 1) := zo_4 (zi_at zh_dX13_goesIn_31_32 2 rfl)
theorem dX13_goesIn_35 : decode cX13_goesIn 35 = .ok (.ireturn, 1) := zo_172 (zi_at zh_dX13_goesIn_31_32 3 rfl)
theorem dX13_takes_0 : decode cX13_takes 0 = .ok (.aload_n 0, 1) := zo_42 (zi_at zh_dX13_takes_0_0 0 rfl)
theorem dX13_takes_1 : decode cX13_takes 1 = .ok (.getfield 279, 3) := zo_180 (zi_at zh_dX13_takes_0_0 1 rfl) (zi_at zh_dX13_takes_0_0 2 rfl) (zi_at zh_dX13_takes_0_0 3 rfl) rfl
theorem dX13_takes_4 : decode cX13_takes 4 = .ok (.iconst (-1), 1) := zo_2 (zi_at zh_dX13_takes_0_0 4 rfl)
theorem dX13_takes_5 : decode cX13_takes 5 = .ok (.if_icmp .ne 11, 3) := zo_160 (zi_at zh_dX13_takes_0_0 5 rfl) (zi_at zh_dX13_takes_0_0 6 rfl) (zi_at zh_dX13_takes_0_0 7 rfl) rfl
theorem dX13_takes_8 : decode cX13_takes 8 = .ok (.aload_n 0, 1) := zo_42 (zi_at zh_dX13_takes_0_0 8 rfl)
theorem dX13_takes_9 : decode cX13_takes 9 = .ok (.invokevirtual 289, 3) := zo_182 (zi_at zh_dX13_takes_0_0 9 rfl) (zi_at zh_dX13_takes_0_0 10 rfl) (zi_at zh_dX13_takes_0_0 11 rfl) rfl
theorem dX13_takes_12 : decode cX13_takes 12 = .ok (.iload_n 1, 1) := zo_27 (zi_at zh_dX13_takes_0_0 12 rfl)
theorem dX13_takes_13 : decode cX13_takes 13 = .ok (.if_icmp .eq 8, 3) := zo_159 (zi_at zh_dX13_takes_0_0 13 rfl) (zi_at zh_dX13_takes_0_0 14 rfl) (zi_at zh_dX13_takes_0_0 15 rfl) rfl
theorem dX13_takes_16 : decode cX13_takes 16 = .ok (.aload_n 0, 1) := zo_42 (zi_at zh_dX13_takes_16_16 0 rfl)
theorem dX13_takes_17 : decode cX13_takes 17 = .ok (.invokevirtual 285, 3) := zo_182 (zi_at zh_dX13_takes_16_16 1 rfl) (zi_at zh_dX13_takes_16_16 2 rfl) (zi_at zh_dX13_takes_16_16 3 rfl) rfl
theorem dX13_takes_20 : decode cX13_takes 20 = .ok (.ireturn, 1) := zo_172 (zi_at zh_dX13_takes_16_16 4 rfl)
theorem dX13_takes_21 : decode cX13_takes 21 = .ok (.aload_n 0, 1) := zo_42 (zi_at zh_dX13_takes_16_16 5 rfl)
theorem dX13_takes_22 : decode cX13_takes 22 = .ok (.dup, 1) := zo_89 (zi_at zh_dX13_takes_16_16 6 rfl)
theorem dX13_takes_23 : decode cX13_takes 23 = .ok (.getfield 270, 3) := zo_180 (zi_at zh_dX13_takes_16_16 7 rfl) (zi_at zh_dX13_takes_16_16 8 rfl) (zi_at zh_dX13_takes_16_16 9 rfl) rfl
theorem dX13_takes_26 : decode cX13_takes 26 = .ok (.iconst 1, 1) := zo_4 (zi_at zh_dX13_takes_16_16 10 rfl)
theorem dX13_takes_27 : decode cX13_takes 27 = .ok (.iadd, 1) := zo_96 (zi_at zh_dX13_takes_16_16 11 rfl)
theorem dX13_takes_28 : decode cX13_takes 28 = .ok (.putfield 270, 3) := zo_181 (zi_at zh_dX13_takes_16_16 12 rfl) (zi_at zh_dX13_takes_16_16 13 rfl) (zi_at zh_dX13_takes_16_16 14 rfl) rfl
theorem dX13_takes_31 : decode cX13_takes 31 = .ok (.iconst 1, 1) := zo_4 (zi_at zh_dX13_takes_16_16 15 rfl)
theorem dX13_takes_32 : decode cX13_takes 32 = .ok (.ireturn, 1) := zo_172 (zi_at zh_dX13_takes_32_32 0 rfl)
theorem dX13_isDigit_0 : decode cX13_isDigit 0 = .ok (.aload_n 0, 1) := zo_42 (zi_at zh_dX13_isDigit_0_0 0 rfl)
theorem dX13_isDigit_1 : decode cX13_isDigit 1 = .ok (.getfield 270, 3) := zo_180 (zi_at zh_dX13_isDigit_0_0 1 rfl) (zi_at zh_dX13_isDigit_0_0 2 rfl) (zi_at zh_dX13_isDigit_0_0 3 rfl) rfl
theorem dX13_isDigit_4 : decode cX13_isDigit 4 = .ok (.aload_n 0, 1) := zo_42 (zi_at zh_dX13_isDigit_0_0 4 rfl)
theorem dX13_isDigit_5 : decode cX13_isDigit 5 = .ok (.getfield 273, 3) := zo_180 (zi_at zh_dX13_isDigit_0_0 5 rfl) (zi_at zh_dX13_isDigit_0_0 6 rfl) (zi_at zh_dX13_isDigit_0_0 7 rfl) rfl
theorem dX13_isDigit_8 : decode cX13_isDigit 8 = .ok (.if_icmp .ge 45, 3) := zo_162 (zi_at zh_dX13_isDigit_0_0 8 rfl) (zi_at zh_dX13_isDigit_0_0 9 rfl) (zi_at zh_dX13_isDigit_0_0 10 rfl) rfl
theorem dX13_isDigit_11 : decode cX13_isDigit 11 = .ok (.aload_n 0, 1) := zo_42 (zi_at zh_dX13_isDigit_0_0 11 rfl)
theorem dX13_isDigit_12 : decode cX13_isDigit 12 = .ok (.getfield 47, 3) := zo_180 (zi_at zh_dX13_isDigit_0_0 12 rfl) (zi_at zh_dX13_isDigit_0_0 13 rfl) (zi_at zh_dX13_isDigit_0_0 14 rfl) rfl
theorem dX13_isDigit_15 : decode cX13_isDigit 15 = .ok (.aload_n 0, 1) := zo_42 (zi_at zh_dX13_isDigit_0_0 15 rfl)
theorem dX13_isDigit_16 : decode cX13_isDigit 16 = .ok (.getfield 276, 3) := zo_180 (zi_at zh_dX13_isDigit_16_16 0 rfl) (zi_at zh_dX13_isDigit_16_16 1 rfl) (zi_at zh_dX13_isDigit_16_16 2 rfl) rfl
theorem dX13_isDigit_19 : decode cX13_isDigit 19 = .ok (.aload_n 0, 1) := zo_42 (zi_at zh_dX13_isDigit_16_16 3 rfl)
theorem dX13_isDigit_20 : decode cX13_isDigit 20 = .ok (.getfield 270, 3) := zo_180 (zi_at zh_dX13_isDigit_16_16 4 rfl) (zi_at zh_dX13_isDigit_16_16 5 rfl) (zi_at zh_dX13_isDigit_16_16 6 rfl) rfl
theorem dX13_isDigit_23 : decode cX13_isDigit 23 = .ok (.iadd, 1) := zo_96 (zi_at zh_dX13_isDigit_16_16 7 rfl)
theorem dX13_isDigit_24 : decode cX13_isDigit 24 = .ok (.baload, 1) := zo_51 (zi_at zh_dX13_isDigit_16_16 8 rfl)
theorem dX13_isDigit_25 : decode cX13_isDigit 25 = .ok (.bipush 48, 2) := zo_16 (zi_at zh_dX13_isDigit_16_16 9 rfl) (zi_at zh_dX13_isDigit_16_16 10 rfl) rfl
theorem dX13_isDigit_27 : decode cX13_isDigit 27 = .ok (.if_icmp .lt 26, 3) := zo_161 (zi_at zh_dX13_isDigit_16_16 11 rfl) (zi_at zh_dX13_isDigit_16_16 12 rfl) (zi_at zh_dX13_isDigit_16_16 13 rfl) rfl
theorem dX13_isDigit_30 : decode cX13_isDigit 30 = .ok (.aload_n 0, 1) := zo_42 (zi_at zh_dX13_isDigit_16_16 14 rfl)
theorem dX13_isDigit_31 : decode cX13_isDigit 31 = .ok (.getfield 47, 3) := zo_180 (zi_at zh_dX13_isDigit_16_16 15 rfl) (zi_at zh_dX13_isDigit_31_32 0 rfl) (zi_at zh_dX13_isDigit_31_32 1 rfl) rfl
theorem dX13_isDigit_34 : decode cX13_isDigit 34 = .ok (.aload_n 0, 1) := zo_42 (zi_at zh_dX13_isDigit_31_32 2 rfl)
theorem dX13_isDigit_35 : decode cX13_isDigit 35 = .ok (.getfield 276, 3) := zo_180 (zi_at zh_dX13_isDigit_31_32 3 rfl) (zi_at zh_dX13_isDigit_31_32 4 rfl) (zi_at zh_dX13_isDigit_31_32 5 rfl) rfl
theorem dX13_isDigit_38 : decode cX13_isDigit 38 = .ok (.aload_n 0, 1) := zo_42 (zi_at zh_dX13_isDigit_31_32 6 rfl)
theorem dX13_isDigit_39 : decode cX13_isDigit 39 = .ok (.getfield 270, 3) := zo_180 (zi_at zh_dX13_isDigit_31_32 7 rfl) (zi_at zh_dX13_isDigit_31_32 8 rfl) (zi_at zh_dX13_isDigit_31_32 9 rfl) rfl
theorem dX13_isDigit_42 : decode cX13_isDigit 42 = .ok (.iadd, 1) := zo_96 (zi_at zh_dX13_isDigit_31_32 10 rfl)
theorem dX13_isDigit_43 : decode cX13_isDigit 43 = .ok (.baload, 1) := zo_51 (zi_at zh_dX13_isDigit_31_32 11 rfl)
theorem dX13_isDigit_44 : decode cX13_isDigit 44 = .ok (.bipush 57, 2) := zo_16 (zi_at zh_dX13_isDigit_31_32 12 rfl) (zi_at zh_dX13_isDigit_31_32 13 rfl) rfl
theorem dX13_isDigit_46 : decode cX13_isDigit 46 = .ok (.if_icmp .gt 7, 3) := zo_163 (zi_at zh_dX13_isDigit_31_32 14 rfl) (zi_at zh_dX13_isDigit_31_32 15 rfl) (zi_at zh_dX13_isDigit_46_48 0 rfl) rfl
theorem dX13_isDigit_49 : decode cX13_isDigit 49 = .ok (.iconst 1, 1) := zo_4 (zi_at zh_dX13_isDigit_46_48 1 rfl)
theorem dX13_isDigit_50 : decode cX13_isDigit 50 = .ok (.goto 4, 3) := zo_167 (zi_at zh_dX13_isDigit_46_48 2 rfl) (zi_at zh_dX13_isDigit_46_48 3 rfl) (zi_at zh_dX13_isDigit_46_48 4 rfl) rfl
theorem dX13_isDigit_53 : decode cX13_isDigit 53 = .ok (.iconst 0, 1) := zo_3 (zi_at zh_dX13_isDigit_46_48 5 rfl)
theorem dX13_isDigit_54 : decode cX13_isDigit 54 = .ok (.ireturn, 1) := zo_172 (zi_at zh_dX13_isDigit_46_48 6 rfl)
theorem dX13_bound_0 : decode cX13_bound 0 = .ok (.ldc2_w 293, 3) := zo_20 (zi_at zh_dX13_bound_0_0 0 rfl) (zi_at zh_dX13_bound_0_0 1 rfl) (zi_at zh_dX13_bound_0_0 2 rfl) rfl
theorem dX13_bound_3 : decode cX13_bound 3 = .ok (.ldc2_w 295, 3) := zo_20 (zi_at zh_dX13_bound_0_0 3 rfl) (zi_at zh_dX13_bound_0_0 4 rfl) (zi_at zh_dX13_bound_0_0 5 rfl) rfl
theorem dX13_bound_6 : decode cX13_bound 6 = .ok (.lload_n 0, 1) := zo_30 (zi_at zh_dX13_bound_0_0 6 rfl)
theorem dX13_bound_7 : decode cX13_bound 7 = .ok (.invokestatic 297, 3) := zo_184 (zi_at zh_dX13_bound_0_0 7 rfl) (zi_at zh_dX13_bound_0_0 8 rfl) (zi_at zh_dX13_bound_0_0 9 rfl) rfl
theorem dX13_bound_10 : decode cX13_bound 10 = .ok (.invokestatic 303, 3) := zo_184 (zi_at zh_dX13_bound_0_0 10 rfl) (zi_at zh_dX13_bound_0_0 11 rfl) (zi_at zh_dX13_bound_0_0 12 rfl) rfl
theorem dX13_bound_13 : decode cX13_bound 13 = .ok (.l2i, 1) := zo_136 (zi_at zh_dX13_bound_0_0 13 rfl)
theorem dX13_bound_14 : decode cX13_bound 14 = .ok (.ireturn, 1) := zo_172 (zi_at zh_dX13_bound_0_0 14 rfl)
theorem dX13_atom_0 : decode cX13_atom 0 = .ok (.aload_n 0, 1) := zo_42 (zi_at zh_dX13_atom_0_0 0 rfl)
theorem dX13_atom_1 : decode cX13_atom 1 = .ok (.invokevirtual 289, 3) := zo_182 (zi_at zh_dX13_atom_0_0 1 rfl) (zi_at zh_dX13_atom_0_0 2 rfl) (zi_at zh_dX13_atom_0_0 3 rfl) rfl
theorem dX13_atom_4 : decode cX13_atom 4 = .ok (.istore_n 1, 1) := zo_60 (zi_at zh_dX13_atom_0_0 4 rfl)
theorem dX13_atom_5 : decode cX13_atom 5 = .ok (.iload_n 1, 1) := zo_27 (zi_at zh_dX13_atom_0_0 5 rfl)
theorem dX13_atom_6 : decode cX13_atom 6 = .ok (.iconst (-1), 1) := zo_2 (zi_at zh_dX13_atom_0_0 6 rfl)
theorem dX13_atom_7 : decode cX13_atom 7 = .ok (.if_icmp .eq 30, 3) := zo_159 (zi_at zh_dX13_atom_0_0 7 rfl) (zi_at zh_dX13_atom_0_0 8 rfl) (zi_at zh_dX13_atom_0_0 9 rfl) rfl
theorem dX13_atom_10 : decode cX13_atom 10 = .ok (.ldc_w 306, 3) := zo_19 (zi_at zh_dX13_atom_0_0 10 rfl) (zi_at zh_dX13_atom_0_0 11 rfl) (zi_at zh_dX13_atom_0_0 12 rfl) rfl
theorem dX13_atom_13 : decode cX13_atom 13 = .ok (.iload_n 1, 1) := zo_27 (zi_at zh_dX13_atom_0_0 13 rfl)
theorem dX13_atom_14 : decode cX13_atom 14 = .ok (.invokevirtual 308, 3) := zo_182 (zi_at zh_dX13_atom_0_0 14 rfl) (zi_at zh_dX13_atom_0_0 15 rfl) (zi_at zh_dX13_atom_14_16 0 rfl) rfl
theorem dX13_atom_17 : decode cX13_atom 17 = .ok (.ifCond .lt 20, 3) := zo_155 (zi_at zh_dX13_atom_14_16 1 rfl) (zi_at zh_dX13_atom_14_16 2 rfl) (zi_at zh_dX13_atom_14_16 3 rfl) rfl
theorem dX13_atom_20 : decode cX13_atom 20 = .ok (.aload_n 0, 1) := zo_42 (zi_at zh_dX13_atom_14_16 4 rfl)
theorem dX13_atom_21 : decode cX13_atom 21 = .ok (.dup, 1) := zo_89 (zi_at zh_dX13_atom_14_16 5 rfl)
theorem dX13_atom_22 : decode cX13_atom 22 = .ok (.getfield 270, 3) := zo_180 (zi_at zh_dX13_atom_14_16 6 rfl) (zi_at zh_dX13_atom_14_16 7 rfl) (zi_at zh_dX13_atom_14_16 8 rfl) rfl
theorem dX13_atom_25 : decode cX13_atom 25 = .ok (.iconst 1, 1) := zo_4 (zi_at zh_dX13_atom_14_16 9 rfl)
theorem dX13_atom_26 : decode cX13_atom 26 = .ok (.iadd, 1) := zo_96 (zi_at zh_dX13_atom_14_16 10 rfl)
theorem dX13_atom_27 : decode cX13_atom 27 = .ok (.putfield 270, 3) := zo_181 (zi_at zh_dX13_atom_14_16 11 rfl) (zi_at zh_dX13_atom_14_16 12 rfl) (zi_at zh_dX13_atom_14_16 13 rfl) rfl
theorem dX13_atom_30 : decode cX13_atom 30 = .ok (.aload_n 0, 1) := zo_42 (zi_at zh_dX13_atom_14_16 14 rfl)
theorem dX13_atom_31 : decode cX13_atom 31 = .ok (.getfield 44, 3) := zo_180 (zi_at zh_dX13_atom_14_16 15 rfl) (zi_at zh_dX13_atom_31_32 0 rfl) (zi_at zh_dX13_atom_31_32 1 rfl) rfl
theorem dX13_atom_34 : decode cX13_atom 34 = .ok (.iload_n 1, 1) := zo_27 (zi_at zh_dX13_atom_31_32 2 rfl)
theorem dX13_atom_35 : decode cX13_atom 35 = .ok (.iaload, 1) := zo_46 (zi_at zh_dX13_atom_31_32 3 rfl)
theorem dX13_atom_36 : decode cX13_atom 36 = .ok (.ireturn, 1) := zo_172 (zi_at zh_dX13_atom_31_32 4 rfl)
theorem dX13_atom_37 : decode cX13_atom 37 = .ok (.iload_n 1, 1) := zo_27 (zi_at zh_dX13_atom_31_32 5 rfl)
theorem dX13_atom_38 : decode cX13_atom 38 = .ok (.bipush 91, 2) := zo_16 (zi_at zh_dX13_atom_31_32 6 rfl) (zi_at zh_dX13_atom_31_32 7 rfl) rfl
theorem dX13_atom_40 : decode cX13_atom 40 = .ok (.if_icmp .ne 40, 3) := zo_160 (zi_at zh_dX13_atom_31_32 8 rfl) (zi_at zh_dX13_atom_31_32 9 rfl) (zi_at zh_dX13_atom_31_32 10 rfl) rfl
theorem dX13_atom_43 : decode cX13_atom 43 = .ok (.aload_n 0, 1) := zo_42 (zi_at zh_dX13_atom_31_32 11 rfl)
theorem dX13_atom_44 : decode cX13_atom 44 = .ok (.invokevirtual 313, 3) := zo_182 (zi_at zh_dX13_atom_31_32 12 rfl) (zi_at zh_dX13_atom_31_32 13 rfl) (zi_at zh_dX13_atom_31_32 14 rfl) rfl
theorem dX13_atom_47 : decode cX13_atom 47 = .ok (.ifCond .ne 5, 3) := zo_154 (zi_at zh_dX13_atom_31_32 15 rfl) (zi_at zh_dX13_atom_47_48 0 rfl) (zi_at zh_dX13_atom_47_48 1 rfl) rfl
theorem dX13_atom_50 : decode cX13_atom 50 = .ok (.iconst 0, 1) := zo_3 (zi_at zh_dX13_atom_47_48 2 rfl)
theorem dX13_atom_51 : decode cX13_atom 51 = .ok (.ireturn, 1) := zo_172 (zi_at zh_dX13_atom_47_48 3 rfl)
theorem dX13_atom_52 : decode cX13_atom 52 = .ok (.aload_n 0, 1) := zo_42 (zi_at zh_dX13_atom_47_48 4 rfl)
theorem dX13_atom_53 : decode cX13_atom 53 = .ok (.invokevirtual 316, 3) := zo_182 (zi_at zh_dX13_atom_47_48 5 rfl) (zi_at zh_dX13_atom_47_48 6 rfl) (zi_at zh_dX13_atom_47_48 7 rfl) rfl
theorem dX13_atom_56 : decode cX13_atom 56 = .ok (.istore_n 2, 1) := zo_61 (zi_at zh_dX13_atom_47_48 8 rfl)
theorem dX13_atom_57 : decode cX13_atom 57 = .ok (.aload_n 0, 1) := zo_42 (zi_at zh_dX13_atom_47_48 9 rfl)
theorem dX13_atom_58 : decode cX13_atom 58 = .ok (.bipush 93, 2) := zo_16 (zi_at zh_dX13_atom_47_48 10 rfl) (zi_at zh_dX13_atom_47_48 11 rfl) rfl
theorem dX13_atom_60 : decode cX13_atom 60 = .ok (.invokevirtual 319, 3) := zo_182 (zi_at zh_dX13_atom_47_48 12 rfl) (zi_at zh_dX13_atom_47_48 13 rfl) (zi_at zh_dX13_atom_47_48 14 rfl) rfl
theorem dX13_atom_63 : decode cX13_atom 63 = .ok (.ifCond .ne 5, 3) := zo_154 (zi_at zh_dX13_atom_47_48 15 rfl) (zi_at zh_dX13_atom_63_64 0 rfl) (zi_at zh_dX13_atom_63_64 1 rfl) rfl
theorem dX13_atom_66 : decode cX13_atom 66 = .ok (.iconst 0, 1) := zo_3 (zi_at zh_dX13_atom_63_64 2 rfl)
theorem dX13_atom_67 : decode cX13_atom 67 = .ok (.ireturn, 1) := zo_172 (zi_at zh_dX13_atom_63_64 3 rfl)
theorem dX13_atom_68 : decode cX13_atom 68 = .ok (.aload_n 0, 1) := zo_42 (zi_at zh_dX13_atom_63_64 4 rfl)
theorem dX13_atom_69 : decode cX13_atom 69 = .ok (.dup, 1) := zo_89 (zi_at zh_dX13_atom_63_64 5 rfl)
theorem dX13_atom_70 : decode cX13_atom 70 = .ok (.getfield 282, 3) := zo_180 (zi_at zh_dX13_atom_63_64 6 rfl) (zi_at zh_dX13_atom_63_64 7 rfl) (zi_at zh_dX13_atom_63_64 8 rfl) rfl
theorem dX13_atom_73 : decode cX13_atom 73 = .ok (.iconst 1, 1) := zo_4 (zi_at zh_dX13_atom_63_64 9 rfl)
theorem dX13_atom_74 : decode cX13_atom 74 = .ok (.isub, 1) := zo_100 (zi_at zh_dX13_atom_63_64 10 rfl)
theorem dX13_atom_75 : decode cX13_atom 75 = .ok (.putfield 282, 3) := zo_181 (zi_at zh_dX13_atom_63_64 11 rfl) (zi_at zh_dX13_atom_63_64 12 rfl) (zi_at zh_dX13_atom_63_64 13 rfl) rfl
theorem dX13_atom_78 : decode cX13_atom 78 = .ok (.iload_n 2, 1) := zo_28 (zi_at zh_dX13_atom_63_64 14 rfl)
theorem dX13_atom_79 : decode cX13_atom 79 = .ok (.ireturn, 1) := zo_172 (zi_at zh_dX13_atom_63_64 15 rfl)
theorem dX13_atom_80 : decode cX13_atom 80 = .ok (.aload_n 0, 1) := zo_42 (zi_at zh_dX13_atom_80_80 0 rfl)
theorem dX13_atom_81 : decode cX13_atom 81 = .ok (.invokevirtual 322, 3) := zo_182 (zi_at zh_dX13_atom_80_80 1 rfl) (zi_at zh_dX13_atom_80_80 2 rfl) (zi_at zh_dX13_atom_80_80 3 rfl) rfl
theorem dX13_atom_84 : decode cX13_atom 84 = .ok (.ifCond .ne 8, 3) := zo_154 (zi_at zh_dX13_atom_80_80 4 rfl) (zi_at zh_dX13_atom_80_80 5 rfl) (zi_at zh_dX13_atom_80_80 6 rfl) rfl
theorem dX13_atom_87 : decode cX13_atom 87 = .ok (.aload_n 0, 1) := zo_42 (zi_at zh_dX13_atom_80_80 7 rfl)
theorem dX13_atom_88 : decode cX13_atom 88 = .ok (.invokevirtual 285, 3) := zo_182 (zi_at zh_dX13_atom_80_80 8 rfl) (zi_at zh_dX13_atom_80_80 9 rfl) (zi_at zh_dX13_atom_80_80 10 rfl) rfl
theorem dX13_atom_91 : decode cX13_atom 91 = .ok (.pop, 1) := zo_87 (zi_at zh_dX13_atom_80_80 11 rfl)
theorem dX13_atom_92 : decode cX13_atom 92 = .ok (.iconst 0, 1) := zo_3 (zi_at zh_dX13_atom_80_80 12 rfl)
theorem dX13_atom_93 : decode cX13_atom 93 = .ok (.istore_n 2, 1) := zo_61 (zi_at zh_dX13_atom_80_80 13 rfl)
theorem dX13_atom_94 : decode cX13_atom 94 = .ok (.iconst 0, 1) := zo_3 (zi_at zh_dX13_atom_80_80 14 rfl)
theorem dX13_atom_95 : decode cX13_atom 95 = .ok (.istore_n 3, 1) := zo_62 (zi_at zh_dX13_atom_80_80 15 rfl)
theorem dX13_atom_96 : decode cX13_atom 96 = .ok (.aload_n 0, 1) := zo_42 (zi_at zh_dX13_atom_96_96 0 rfl)
theorem dX13_atom_97 : decode cX13_atom 97 = .ok (.invokevirtual 322, 3) := zo_182 (zi_at zh_dX13_atom_96_96 1 rfl) (zi_at zh_dX13_atom_96_96 2 rfl) (zi_at zh_dX13_atom_96_96 3 rfl) rfl
theorem dX13_atom_100 : decode cX13_atom 100 = .ok (.ifCond .eq 62, 3) := zo_153 (zi_at zh_dX13_atom_96_96 4 rfl) (zi_at zh_dX13_atom_96_96 5 rfl) (zi_at zh_dX13_atom_96_96 6 rfl) rfl
theorem dX13_atom_103 : decode cX13_atom 103 = .ok (.aload_n 0, 1) := zo_42 (zi_at zh_dX13_atom_96_96 7 rfl)
theorem dX13_atom_104 : decode cX13_atom 104 = .ok (.getfield 279, 3) := zo_180 (zi_at zh_dX13_atom_96_96 8 rfl) (zi_at zh_dX13_atom_96_96 9 rfl) (zi_at zh_dX13_atom_96_96 10 rfl) rfl
theorem dX13_atom_107 : decode cX13_atom 107 = .ok (.iconst (-1), 1) := zo_2 (zi_at zh_dX13_atom_96_96 11 rfl)
theorem dX13_atom_108 : decode cX13_atom 108 = .ok (.if_icmp .ne 54, 3) := zo_160 (zi_at zh_dX13_atom_96_96 12 rfl) (zi_at zh_dX13_atom_96_96 13 rfl) (zi_at zh_dX13_atom_96_96 14 rfl) rfl
theorem dX13_atom_111 : decode cX13_atom 111 = .ok (.iload_n 3, 1) := zo_29 (zi_at zh_dX13_atom_96_96 15 rfl)
theorem dX13_atom_112 : decode cX13_atom 112 = .ok (.iconst 5, 1) := zo_8 (zi_at zh_dX13_atom_112_112 0 rfl)
theorem dX13_atom_113 : decode cX13_atom 113 = .ok (.if_icmp .ne 10, 3) := zo_160 (zi_at zh_dX13_atom_112_112 1 rfl) (zi_at zh_dX13_atom_112_112 2 rfl) (zi_at zh_dX13_atom_112_112 3 rfl) rfl
theorem dX13_atom_116 : decode cX13_atom 116 = .ok (.aload_n 0, 1) := zo_42 (zi_at zh_dX13_atom_112_112 4 rfl)
theorem dX13_atom_117 : decode cX13_atom 117 = .ok (.invokevirtual 285, 3) := zo_182 (zi_at zh_dX13_atom_112_112 5 rfl) (zi_at zh_dX13_atom_112_112 6 rfl) (zi_at zh_dX13_atom_112_112 7 rfl) rfl
theorem dX13_atom_120 : decode cX13_atom 120 = .ok (.pop, 1) := zo_87 (zi_at zh_dX13_atom_112_112 8 rfl)
theorem dX13_atom_121 : decode cX13_atom 121 = .ok (.iconst 0, 1) := zo_3 (zi_at zh_dX13_atom_112_112 9 rfl)
theorem dX13_atom_122 : decode cX13_atom 122 = .ok (.ireturn, 1) := zo_172 (zi_at zh_dX13_atom_112_112 10 rfl)
theorem dX13_atom_123 : decode cX13_atom 123 = .ok (.bipush 10, 2) := zo_16 (zi_at zh_dX13_atom_112_112 11 rfl) (zi_at zh_dX13_atom_112_112 12 rfl) rfl
theorem dX13_atom_125 : decode cX13_atom 125 = .ok (.iload_n 2, 1) := zo_28 (zi_at zh_dX13_atom_112_112 13 rfl)
theorem dX13_atom_126 : decode cX13_atom 126 = .ok (.imul, 1) := zo_104 (zi_at zh_dX13_atom_112_112 14 rfl)
theorem dX13_atom_127 : decode cX13_atom 127 = .ok (.aload_n 0, 1) := zo_42 (zi_at zh_dX13_atom_112_112 15 rfl)
theorem dX13_atom_128 : decode cX13_atom 128 = .ok (.getfield 47, 3) := zo_180 (zi_at zh_dX13_atom_128_128 0 rfl) (zi_at zh_dX13_atom_128_128 1 rfl) (zi_at zh_dX13_atom_128_128 2 rfl) rfl
theorem dX13_atom_131 : decode cX13_atom 131 = .ok (.aload_n 0, 1) := zo_42 (zi_at zh_dX13_atom_128_128 3 rfl)
theorem dX13_atom_132 : decode cX13_atom 132 = .ok (.getfield 276, 3) := zo_180 (zi_at zh_dX13_atom_128_128 4 rfl) (zi_at zh_dX13_atom_128_128 5 rfl) (zi_at zh_dX13_atom_128_128 6 rfl) rfl
theorem dX13_atom_135 : decode cX13_atom 135 = .ok (.aload_n 0, 1) := zo_42 (zi_at zh_dX13_atom_128_128 7 rfl)
theorem dX13_atom_136 : decode cX13_atom 136 = .ok (.getfield 270, 3) := zo_180 (zi_at zh_dX13_atom_128_128 8 rfl) (zi_at zh_dX13_atom_128_128 9 rfl) (zi_at zh_dX13_atom_128_128 10 rfl) rfl
theorem dX13_atom_139 : decode cX13_atom 139 = .ok (.iadd, 1) := zo_96 (zi_at zh_dX13_atom_128_128 11 rfl)
theorem dX13_atom_140 : decode cX13_atom 140 = .ok (.baload, 1) := zo_51 (zi_at zh_dX13_atom_128_128 12 rfl)
theorem dX13_atom_141 : decode cX13_atom 141 = .ok (.iadd, 1) := zo_96 (zi_at zh_dX13_atom_128_128 13 rfl)
theorem dX13_atom_142 : decode cX13_atom 142 = .ok (.bipush 48, 2) := zo_16 (zi_at zh_dX13_atom_128_128 14 rfl) (zi_at zh_dX13_atom_128_128 15 rfl) rfl
theorem dX13_atom_144 : decode cX13_atom 144 = .ok (.isub, 1) := zo_100 (zi_at zh_dX13_atom_144_144 0 rfl)
theorem dX13_atom_145 : decode cX13_atom 145 = .ok (.istore_n 2, 1) := zo_61 (zi_at zh_dX13_atom_144_144 1 rfl)
theorem dX13_atom_146 : decode cX13_atom 146 = .ok (.aload_n 0, 1) := zo_42 (zi_at zh_dX13_atom_144_144 2 rfl)
theorem dX13_atom_147 : decode cX13_atom 147 = .ok (.dup, 1) := zo_89 (zi_at zh_dX13_atom_144_144 3 rfl)
theorem dX13_atom_148 : decode cX13_atom 148 = .ok (.getfield 270, 3) := zo_180 (zi_at zh_dX13_atom_144_144 4 rfl) (zi_at zh_dX13_atom_144_144 5 rfl) (zi_at zh_dX13_atom_144_144 6 rfl) rfl
theorem dX13_atom_151 : decode cX13_atom 151 = .ok (.iconst 1, 1) := zo_4 (zi_at zh_dX13_atom_144_144 7 rfl)
theorem dX13_atom_152 : decode cX13_atom 152 = .ok (.iadd, 1) := zo_96 (zi_at zh_dX13_atom_144_144 8 rfl)
theorem dX13_atom_153 : decode cX13_atom 153 = .ok (.putfield 270, 3) := zo_181 (zi_at zh_dX13_atom_144_144 9 rfl) (zi_at zh_dX13_atom_144_144 10 rfl) (zi_at zh_dX13_atom_144_144 11 rfl) rfl
theorem dX13_atom_156 : decode cX13_atom 156 = .ok (.iinc 3 1, 3) := zo_132 (zi_at zh_dX13_atom_144_144 12 rfl) (zi_at zh_dX13_atom_144_144 13 rfl) (zi_at zh_dX13_atom_144_144 14 rfl) rfl
theorem dX13_atom_159 : decode cX13_atom 159 = .ok (.goto (-63), 3) := zo_167 (zi_at zh_dX13_atom_144_144 15 rfl) (zi_at zh_dX13_atom_159_160 0 rfl) (zi_at zh_dX13_atom_159_160 1 rfl) rfl
theorem dX13_atom_162 : decode cX13_atom 162 = .ok (.iload_n 2, 1) := zo_28 (zi_at zh_dX13_atom_159_160 2 rfl)
theorem dX13_atom_163 : decode cX13_atom 163 = .ok (.ireturn, 1) := zo_172 (zi_at zh_dX13_atom_159_160 3 rfl)
theorem dX13_term_0 : decode cX13_term 0 = .ok (.aload_n 0, 1) := zo_42 (zi_at zh_dX13_term_0_0 0 rfl)
theorem dX13_term_1 : decode cX13_term 1 = .ok (.invokevirtual 325, 3) := zo_182 (zi_at zh_dX13_term_0_0 1 rfl) (zi_at zh_dX13_term_0_0 2 rfl) (zi_at zh_dX13_term_0_0 3 rfl) rfl
theorem dX13_term_4 : decode cX13_term 4 = .ok (.istore_n 1, 1) := zo_60 (zi_at zh_dX13_term_0_0 4 rfl)
theorem dX13_term_5 : decode cX13_term 5 = .ok (.aload_n 0, 1) := zo_42 (zi_at zh_dX13_term_0_0 5 rfl)
theorem dX13_term_6 : decode cX13_term 6 = .ok (.getfield 279, 3) := zo_180 (zi_at zh_dX13_term_0_0 6 rfl) (zi_at zh_dX13_term_0_0 7 rfl) (zi_at zh_dX13_term_0_0 8 rfl) rfl
theorem dX13_term_9 : decode cX13_term 9 = .ok (.iconst (-1), 1) := zo_2 (zi_at zh_dX13_term_0_0 9 rfl)
theorem dX13_term_10 : decode cX13_term 10 = .ok (.if_icmp .ne 84, 3) := zo_160 (zi_at zh_dX13_term_0_0 10 rfl) (zi_at zh_dX13_term_0_0 11 rfl) (zi_at zh_dX13_term_0_0 12 rfl) rfl
theorem dX13_term_13 : decode cX13_term 13 = .ok (.aload_n 0, 1) := zo_42 (zi_at zh_dX13_term_0_0 13 rfl)
theorem dX13_term_14 : decode cX13_term 14 = .ok (.invokevirtual 289, 3) := zo_182 (zi_at zh_dX13_term_0_0 14 rfl) (zi_at zh_dX13_term_0_0 15 rfl) (zi_at zh_dX13_term_14_16 0 rfl) rfl
theorem dX13_term_17 : decode cX13_term 17 = .ok (.bipush 42, 2) := zo_16 (zi_at zh_dX13_term_14_16 1 rfl) (zi_at zh_dX13_term_14_16 2 rfl) rfl
theorem dX13_term_19 : decode cX13_term 19 = .ok (.if_icmp .eq 12, 3) := zo_159 (zi_at zh_dX13_term_14_16 3 rfl) (zi_at zh_dX13_term_14_16 4 rfl) (zi_at zh_dX13_term_14_16 5 rfl) rfl
theorem dX13_term_22 : decode cX13_term 22 = .ok (.aload_n 0, 1) := zo_42 (zi_at zh_dX13_term_14_16 6 rfl)
theorem dX13_term_23 : decode cX13_term 23 = .ok (.invokevirtual 289, 3) := zo_182 (zi_at zh_dX13_term_14_16 7 rfl) (zi_at zh_dX13_term_14_16 8 rfl) (zi_at zh_dX13_term_14_16 9 rfl) rfl
theorem dX13_term_26 : decode cX13_term 26 = .ok (.bipush 47, 2) := zo_16 (zi_at zh_dX13_term_14_16 10 rfl) (zi_at zh_dX13_term_14_16 11 rfl) rfl
theorem dX13_term_28 : decode cX13_term 28 = .ok (.if_icmp .ne 66, 3) := zo_160 (zi_at zh_dX13_term_14_16 12 rfl) (zi_at zh_dX13_term_14_16 13 rfl) (zi_at zh_dX13_term_14_16 14 rfl) rfl
theorem dX13_term_31 : decode cX13_term 31 = .ok (.aload_n 0, 1) := zo_42 (zi_at zh_dX13_term_14_16 15 rfl)
theorem dX13_term_32 : decode cX13_term 32 = .ok (.invokevirtual 289, 3) := zo_182 (zi_at zh_dX13_term_32_32 0 rfl) (zi_at zh_dX13_term_32_32 1 rfl) (zi_at zh_dX13_term_32_32 2 rfl) rfl
theorem dX13_term_35 : decode cX13_term 35 = .ok (.bipush 42, 2) := zo_16 (zi_at zh_dX13_term_32_32 3 rfl) (zi_at zh_dX13_term_32_32 4 rfl) rfl
theorem dX13_term_37 : decode cX13_term 37 = .ok (.if_icmp .ne 7, 3) := zo_160 (zi_at zh_dX13_term_32_32 5 rfl) (zi_at zh_dX13_term_32_32 6 rfl) (zi_at zh_dX13_term_32_32 7 rfl) rfl
theorem dX13_term_40 : decode cX13_term 40 = .ok (.iconst 1, 1) := zo_4 (zi_at zh_dX13_term_32_32 8 rfl)
theorem dX13_term_41 : decode cX13_term 41 = .ok (.goto 4, 3) := zo_167 (zi_at zh_dX13_term_32_32 9 rfl) (zi_at zh_dX13_term_32_32 10 rfl) (zi_at zh_dX13_term_32_32 11 rfl) rfl
theorem dX13_term_44 : decode cX13_term 44 = .ok (.iconst 0, 1) := zo_3 (zi_at zh_dX13_term_32_32 12 rfl)
theorem dX13_term_45 : decode cX13_term 45 = .ok (.istore_n 2, 1) := zo_61 (zi_at zh_dX13_term_32_32 13 rfl)
theorem dX13_term_46 : decode cX13_term 46 = .ok (.aload_n 0, 1) := zo_42 (zi_at zh_dX13_term_32_32 14 rfl)
theorem dX13_term_47 : decode cX13_term 47 = .ok (.dup, 1) := zo_89 (zi_at zh_dX13_term_32_32 15 rfl)
theorem dX13_term_48 : decode cX13_term 48 = .ok (.getfield 270, 3) := zo_180 (zi_at zh_dX13_term_48_48 0 rfl) (zi_at zh_dX13_term_48_48 1 rfl) (zi_at zh_dX13_term_48_48 2 rfl) rfl
theorem dX13_term_51 : decode cX13_term 51 = .ok (.iconst 1, 1) := zo_4 (zi_at zh_dX13_term_48_48 3 rfl)
theorem dX13_term_52 : decode cX13_term 52 = .ok (.iadd, 1) := zo_96 (zi_at zh_dX13_term_48_48 4 rfl)
theorem dX13_term_53 : decode cX13_term 53 = .ok (.putfield 270, 3) := zo_181 (zi_at zh_dX13_term_48_48 5 rfl) (zi_at zh_dX13_term_48_48 6 rfl) (zi_at zh_dX13_term_48_48 7 rfl) rfl
theorem dX13_term_56 : decode cX13_term 56 = .ok (.aload_n 0, 1) := zo_42 (zi_at zh_dX13_term_48_48 8 rfl)
theorem dX13_term_57 : decode cX13_term 57 = .ok (.invokevirtual 325, 3) := zo_182 (zi_at zh_dX13_term_48_48 9 rfl) (zi_at zh_dX13_term_48_48 10 rfl) (zi_at zh_dX13_term_48_48 11 rfl) rfl
theorem dX13_term_60 : decode cX13_term 60 = .ok (.i2l, 1) := zo_133 (zi_at zh_dX13_term_48_48 12 rfl)
theorem dX13_term_61 : decode cX13_term 61 = .ok (.lstore_n 3, 1) := zo_66 (zi_at zh_dX13_term_48_48 13 rfl)
theorem dX13_term_62 : decode cX13_term 62 = .ok (.iload_n 2, 1) := zo_28 (zi_at zh_dX13_term_48_48 14 rfl)
theorem dX13_term_63 : decode cX13_term 63 = .ok (.ifCond .eq 10, 3) := zo_153 (zi_at zh_dX13_term_48_48 15 rfl) (zi_at zh_dX13_term_63_64 0 rfl) (zi_at zh_dX13_term_63_64 1 rfl) rfl
theorem dX13_term_66 : decode cX13_term 66 = .ok (.iload_n 1, 1) := zo_27 (zi_at zh_dX13_term_63_64 2 rfl)
theorem dX13_term_67 : decode cX13_term 67 = .ok (.i2l, 1) := zo_133 (zi_at zh_dX13_term_63_64 3 rfl)
theorem dX13_term_68 : decode cX13_term 68 = .ok (.lload_n 3, 1) := zo_33 (zi_at zh_dX13_term_63_64 4 rfl)
theorem dX13_term_69 : decode cX13_term 69 = .ok (.lmul, 1) := zo_105 (zi_at zh_dX13_term_63_64 5 rfl)
theorem dX13_term_70 : decode cX13_term 70 = .ok (.goto 17, 3) := zo_167 (zi_at zh_dX13_term_63_64 6 rfl) (zi_at zh_dX13_term_63_64 7 rfl) (zi_at zh_dX13_term_63_64 8 rfl) rfl
theorem dX13_term_73 : decode cX13_term 73 = .ok (.lload_n 3, 1) := zo_33 (zi_at zh_dX13_term_63_64 9 rfl)
theorem dX13_term_74 : decode cX13_term 74 = .ok (.lconst 0, 1) := zo_9 (zi_at zh_dX13_term_63_64 10 rfl)
theorem dX13_term_75 : decode cX13_term 75 = .ok (.lcmp, 1) := zo_148 (zi_at zh_dX13_term_63_64 11 rfl)
theorem dX13_term_76 : decode cX13_term 76 = .ok (.ifCond .ne 7, 3) := zo_154 (zi_at zh_dX13_term_63_64 12 rfl) (zi_at zh_dX13_term_63_64 13 rfl) (zi_at zh_dX13_term_63_64 14 rfl) rfl
theorem dX13_term_79 : decode cX13_term 79 = .ok (.lconst 0, 1) := zo_9 (zi_at zh_dX13_term_63_64 15 rfl)
theorem dX13_term_80 : decode cX13_term 80 = .ok (.goto 7, 3) := zo_167 (zi_at zh_dX13_term_80_80 0 rfl) (zi_at zh_dX13_term_80_80 1 rfl) (zi_at zh_dX13_term_80_80 2 rfl) rfl
theorem dX13_term_83 : decode cX13_term 83 = .ok (.iload_n 1, 1) := zo_27 (zi_at zh_dX13_term_80_80 3 rfl)
theorem dX13_term_84 : decode cX13_term 84 = .ok (.i2l, 1) := zo_133 (zi_at zh_dX13_term_80_80 4 rfl)
theorem dX13_term_85 : decode cX13_term 85 = .ok (.lload_n 3, 1) := zo_33 (zi_at zh_dX13_term_80_80 5 rfl)
theorem dX13_term_86 : decode cX13_term 86 = .ok (.ldiv, 1) := zo_109 (zi_at zh_dX13_term_80_80 6 rfl)
theorem dX13_term_87 : decode cX13_term 87 = .ok (.invokestatic 328, 3) := zo_184 (zi_at zh_dX13_term_80_80 7 rfl) (zi_at zh_dX13_term_80_80 8 rfl) (zi_at zh_dX13_term_80_80 9 rfl) rfl
theorem dX13_term_90 : decode cX13_term 90 = .ok (.istore_n 1, 1) := zo_60 (zi_at zh_dX13_term_80_80 10 rfl)
theorem dX13_term_91 : decode cX13_term 91 = .ok (.goto (-86), 3) := zo_167 (zi_at zh_dX13_term_80_80 11 rfl) (zi_at zh_dX13_term_80_80 12 rfl) (zi_at zh_dX13_term_80_80 13 rfl) rfl
theorem dX13_term_94 : decode cX13_term 94 = .ok (.iload_n 1, 1) := zo_27 (zi_at zh_dX13_term_80_80 14 rfl)
theorem dX13_term_95 : decode cX13_term 95 = .ok (.ireturn, 1) := zo_172 (zi_at zh_dX13_term_80_80 15 rfl)
theorem dX13_sum_0 : decode cX13_sum 0 = .ok (.aload_n 0, 1) := zo_42 (zi_at zh_dX13_sum_0_0 0 rfl)
theorem dX13_sum_1 : decode cX13_sum 1 = .ok (.invokevirtual 332, 3) := zo_182 (zi_at zh_dX13_sum_0_0 1 rfl) (zi_at zh_dX13_sum_0_0 2 rfl) (zi_at zh_dX13_sum_0_0 3 rfl) rfl
theorem dX13_sum_4 : decode cX13_sum 4 = .ok (.istore_n 1, 1) := zo_60 (zi_at zh_dX13_sum_0_0 4 rfl)
theorem dX13_sum_5 : decode cX13_sum 5 = .ok (.aload_n 0, 1) := zo_42 (zi_at zh_dX13_sum_0_0 5 rfl)
theorem dX13_sum_6 : decode cX13_sum 6 = .ok (.getfield 279, 3) := zo_180 (zi_at zh_dX13_sum_0_0 6 rfl) (zi_at zh_dX13_sum_0_0 7 rfl) (zi_at zh_dX13_sum_0_0 8 rfl) rfl
theorem dX13_sum_9 : decode cX13_sum 9 = .ok (.iconst (-1), 1) := zo_2 (zi_at zh_dX13_sum_0_0 9 rfl)
theorem dX13_sum_10 : decode cX13_sum 10 = .ok (.if_icmp .ne 74, 3) := zo_160 (zi_at zh_dX13_sum_0_0 10 rfl) (zi_at zh_dX13_sum_0_0 11 rfl) (zi_at zh_dX13_sum_0_0 12 rfl) rfl
theorem dX13_sum_13 : decode cX13_sum 13 = .ok (.aload_n 0, 1) := zo_42 (zi_at zh_dX13_sum_0_0 13 rfl)
theorem dX13_sum_14 : decode cX13_sum 14 = .ok (.invokevirtual 289, 3) := zo_182 (zi_at zh_dX13_sum_0_0 14 rfl) (zi_at zh_dX13_sum_0_0 15 rfl) (zi_at zh_dX13_sum_14_16 0 rfl) rfl
theorem dX13_sum_17 : decode cX13_sum 17 = .ok (.bipush 43, 2) := zo_16 (zi_at zh_dX13_sum_14_16 1 rfl) (zi_at zh_dX13_sum_14_16 2 rfl) rfl
theorem dX13_sum_19 : decode cX13_sum 19 = .ok (.if_icmp .eq 12, 3) := zo_159 (zi_at zh_dX13_sum_14_16 3 rfl) (zi_at zh_dX13_sum_14_16 4 rfl) (zi_at zh_dX13_sum_14_16 5 rfl) rfl
theorem dX13_sum_22 : decode cX13_sum 22 = .ok (.aload_n 0, 1) := zo_42 (zi_at zh_dX13_sum_14_16 6 rfl)
theorem dX13_sum_23 : decode cX13_sum 23 = .ok (.invokevirtual 289, 3) := zo_182 (zi_at zh_dX13_sum_14_16 7 rfl) (zi_at zh_dX13_sum_14_16 8 rfl) (zi_at zh_dX13_sum_14_16 9 rfl) rfl
theorem dX13_sum_26 : decode cX13_sum 26 = .ok (.bipush 45, 2) := zo_16 (zi_at zh_dX13_sum_14_16 10 rfl) (zi_at zh_dX13_sum_14_16 11 rfl) rfl
theorem dX13_sum_28 : decode cX13_sum 28 = .ok (.if_icmp .ne 56, 3) := zo_160 (zi_at zh_dX13_sum_14_16 12 rfl) (zi_at zh_dX13_sum_14_16 13 rfl) (zi_at zh_dX13_sum_14_16 14 rfl) rfl
theorem dX13_sum_31 : decode cX13_sum 31 = .ok (.aload_n 0, 1) := zo_42 (zi_at zh_dX13_sum_14_16 15 rfl)
theorem dX13_sum_32 : decode cX13_sum 32 = .ok (.invokevirtual 289, 3) := zo_182 (zi_at zh_dX13_sum_32_32 0 rfl) (zi_at zh_dX13_sum_32_32 1 rfl) (zi_at zh_dX13_sum_32_32 2 rfl) rfl
theorem dX13_sum_35 : decode cX13_sum 35 = .ok (.bipush 43, 2) := zo_16 (zi_at zh_dX13_sum_32_32 3 rfl) (zi_at zh_dX13_sum_32_32 4 rfl) rfl
theorem dX13_sum_37 : decode cX13_sum 37 = .ok (.if_icmp .ne 7, 3) := zo_160 (zi_at zh_dX13_sum_32_32 5 rfl) (zi_at zh_dX13_sum_32_32 6 rfl) (zi_at zh_dX13_sum_32_32 7 rfl) rfl
theorem dX13_sum_40 : decode cX13_sum 40 = .ok (.iconst 1, 1) := zo_4 (zi_at zh_dX13_sum_32_32 8 rfl)
theorem dX13_sum_41 : decode cX13_sum 41 = .ok (.goto 4, 3) := zo_167 (zi_at zh_dX13_sum_32_32 9 rfl) (zi_at zh_dX13_sum_32_32 10 rfl) (zi_at zh_dX13_sum_32_32 11 rfl) rfl
theorem dX13_sum_44 : decode cX13_sum 44 = .ok (.iconst 0, 1) := zo_3 (zi_at zh_dX13_sum_32_32 12 rfl)
theorem dX13_sum_45 : decode cX13_sum 45 = .ok (.istore_n 2, 1) := zo_61 (zi_at zh_dX13_sum_32_32 13 rfl)
theorem dX13_sum_46 : decode cX13_sum 46 = .ok (.aload_n 0, 1) := zo_42 (zi_at zh_dX13_sum_32_32 14 rfl)
theorem dX13_sum_47 : decode cX13_sum 47 = .ok (.dup, 1) := zo_89 (zi_at zh_dX13_sum_32_32 15 rfl)
theorem dX13_sum_48 : decode cX13_sum 48 = .ok (.getfield 270, 3) := zo_180 (zi_at zh_dX13_sum_48_48 0 rfl) (zi_at zh_dX13_sum_48_48 1 rfl) (zi_at zh_dX13_sum_48_48 2 rfl) rfl
theorem dX13_sum_51 : decode cX13_sum 51 = .ok (.iconst 1, 1) := zo_4 (zi_at zh_dX13_sum_48_48 3 rfl)
theorem dX13_sum_52 : decode cX13_sum 52 = .ok (.iadd, 1) := zo_96 (zi_at zh_dX13_sum_48_48 4 rfl)
theorem dX13_sum_53 : decode cX13_sum 53 = .ok (.putfield 270, 3) := zo_181 (zi_at zh_dX13_sum_48_48 5 rfl) (zi_at zh_dX13_sum_48_48 6 rfl) (zi_at zh_dX13_sum_48_48 7 rfl) rfl
theorem dX13_sum_56 : decode cX13_sum 56 = .ok (.aload_n 0, 1) := zo_42 (zi_at zh_dX13_sum_48_48 8 rfl)
theorem dX13_sum_57 : decode cX13_sum 57 = .ok (.invokevirtual 332, 3) := zo_182 (zi_at zh_dX13_sum_48_48 9 rfl) (zi_at zh_dX13_sum_48_48 10 rfl) (zi_at zh_dX13_sum_48_48 11 rfl) rfl
theorem dX13_sum_60 : decode cX13_sum 60 = .ok (.i2l, 1) := zo_133 (zi_at zh_dX13_sum_48_48 12 rfl)
theorem dX13_sum_61 : decode cX13_sum 61 = .ok (.lstore_n 3, 1) := zo_66 (zi_at zh_dX13_sum_48_48 13 rfl)
theorem dX13_sum_62 : decode cX13_sum 62 = .ok (.iload_n 2, 1) := zo_28 (zi_at zh_dX13_sum_48_48 14 rfl)
theorem dX13_sum_63 : decode cX13_sum 63 = .ok (.ifCond .eq 10, 3) := zo_153 (zi_at zh_dX13_sum_48_48 15 rfl) (zi_at zh_dX13_sum_63_64 0 rfl) (zi_at zh_dX13_sum_63_64 1 rfl) rfl
theorem dX13_sum_66 : decode cX13_sum 66 = .ok (.iload_n 1, 1) := zo_27 (zi_at zh_dX13_sum_63_64 2 rfl)
theorem dX13_sum_67 : decode cX13_sum 67 = .ok (.i2l, 1) := zo_133 (zi_at zh_dX13_sum_63_64 3 rfl)
theorem dX13_sum_68 : decode cX13_sum 68 = .ok (.lload_n 3, 1) := zo_33 (zi_at zh_dX13_sum_63_64 4 rfl)
theorem dX13_sum_69 : decode cX13_sum 69 = .ok (.ladd, 1) := zo_97 (zi_at zh_dX13_sum_63_64 5 rfl)
theorem dX13_sum_70 : decode cX13_sum 70 = .ok (.goto 7, 3) := zo_167 (zi_at zh_dX13_sum_63_64 6 rfl) (zi_at zh_dX13_sum_63_64 7 rfl) (zi_at zh_dX13_sum_63_64 8 rfl) rfl
theorem dX13_sum_73 : decode cX13_sum 73 = .ok (.iload_n 1, 1) := zo_27 (zi_at zh_dX13_sum_63_64 9 rfl)
theorem dX13_sum_74 : decode cX13_sum 74 = .ok (.i2l, 1) := zo_133 (zi_at zh_dX13_sum_63_64 10 rfl)
theorem dX13_sum_75 : decode cX13_sum 75 = .ok (.lload_n 3, 1) := zo_33 (zi_at zh_dX13_sum_63_64 11 rfl)
theorem dX13_sum_76 : decode cX13_sum 76 = .ok (.lsub, 1) := zo_101 (zi_at zh_dX13_sum_63_64 12 rfl)
theorem dX13_sum_77 : decode cX13_sum 77 = .ok (.invokestatic 328, 3) := zo_184 (zi_at zh_dX13_sum_63_64 13 rfl) (zi_at zh_dX13_sum_63_64 14 rfl) (zi_at zh_dX13_sum_63_64 15 rfl) rfl
theorem dX13_sum_80 : decode cX13_sum 80 = .ok (.istore_n 1, 1) := zo_60 (zi_at zh_dX13_sum_80_80 0 rfl)
theorem dX13_sum_81 : decode cX13_sum 81 = .ok (.goto (-76), 3) := zo_167 (zi_at zh_dX13_sum_80_80 1 rfl) (zi_at zh_dX13_sum_80_80 2 rfl) (zi_at zh_dX13_sum_80_80 3 rfl) rfl
theorem dX13_sum_84 : decode cX13_sum 84 = .ok (.iload_n 1, 1) := zo_27 (zi_at zh_dX13_sum_80_80 4 rfl)
theorem dX13_sum_85 : decode cX13_sum 85 = .ok (.ireturn, 1) := zo_172 (zi_at zh_dX13_sum_80_80 5 rfl)
theorem dX13_isSign_0 : decode cX13_isSign 0 = .ok (.iload_n 0, 1) := zo_26 (zi_at zh_dX13_isSign_0_0 0 rfl)
theorem dX13_isSign_1 : decode cX13_isSign 1 = .ok (.bipush 61, 2) := zo_16 (zi_at zh_dX13_isSign_0_0 1 rfl) (zi_at zh_dX13_isSign_0_0 2 rfl) rfl
theorem dX13_isSign_3 : decode cX13_isSign 3 = .ok (.if_icmp .eq 15, 3) := zo_159 (zi_at zh_dX13_isSign_0_0 3 rfl) (zi_at zh_dX13_isSign_0_0 4 rfl) (zi_at zh_dX13_isSign_0_0 5 rfl) rfl
theorem dX13_isSign_6 : decode cX13_isSign 6 = .ok (.iload_n 0, 1) := zo_26 (zi_at zh_dX13_isSign_0_0 6 rfl)
theorem dX13_isSign_7 : decode cX13_isSign 7 = .ok (.bipush 60, 2) := zo_16 (zi_at zh_dX13_isSign_0_0 7 rfl) (zi_at zh_dX13_isSign_0_0 8 rfl) rfl
theorem dX13_isSign_9 : decode cX13_isSign 9 = .ok (.if_icmp .eq 9, 3) := zo_159 (zi_at zh_dX13_isSign_0_0 9 rfl) (zi_at zh_dX13_isSign_0_0 10 rfl) (zi_at zh_dX13_isSign_0_0 11 rfl) rfl
theorem dX13_isSign_12 : decode cX13_isSign 12 = .ok (.iload_n 0, 1) := zo_26 (zi_at zh_dX13_isSign_0_0 12 rfl)
theorem dX13_isSign_13 : decode cX13_isSign 13 = .ok (.bipush 62, 2) := zo_16 (zi_at zh_dX13_isSign_0_0 13 rfl) (zi_at zh_dX13_isSign_0_0 14 rfl) rfl
theorem dX13_isSign_15 : decode cX13_isSign 15 = .ok (.if_icmp .ne 7, 3) := zo_160 (zi_at zh_dX13_isSign_0_0 15 rfl) (zi_at zh_dX13_isSign_15_16 0 rfl) (zi_at zh_dX13_isSign_15_16 1 rfl) rfl
theorem dX13_isSign_18 : decode cX13_isSign 18 = .ok (.iconst 1, 1) := zo_4 (zi_at zh_dX13_isSign_15_16 2 rfl)
theorem dX13_isSign_19 : decode cX13_isSign 19 = .ok (.goto 4, 3) := zo_167 (zi_at zh_dX13_isSign_15_16 3 rfl) (zi_at zh_dX13_isSign_15_16 4 rfl) (zi_at zh_dX13_isSign_15_16 5 rfl) rfl
theorem dX13_isSign_22 : decode cX13_isSign 22 = .ok (.iconst 0, 1) := zo_3 (zi_at zh_dX13_isSign_15_16 6 rfl)
theorem dX13_isSign_23 : decode cX13_isSign 23 = .ok (.ireturn, 1) := zo_172 (zi_at zh_dX13_isSign_15_16 7 rfl)
theorem dX13_compares_0 : decode cX13_compares 0 = .ok (.iload_n 1, 1) := zo_27 (zi_at zh_dX13_compares_0_0 0 rfl)
theorem dX13_compares_1 : decode cX13_compares 1 = .ok (.ifCond .eq 7, 3) := zo_153 (zi_at zh_dX13_compares_0_0 1 rfl) (zi_at zh_dX13_compares_0_0 2 rfl) (zi_at zh_dX13_compares_0_0 3 rfl) rfl
theorem dX13_compares_4 : decode cX13_compares 4 = .ok (.iload_n 2, 1) := zo_28 (zi_at zh_dX13_compares_0_0 4 rfl)
theorem dX13_compares_5 : decode cX13_compares 5 = .ok (.goto 7, 3) := zo_167 (zi_at zh_dX13_compares_0_0 5 rfl) (zi_at zh_dX13_compares_0_0 6 rfl) (zi_at zh_dX13_compares_0_0 7 rfl) rfl
theorem dX13_compares_8 : decode cX13_compares 8 = .ok (.aload_n 0, 1) := zo_42 (zi_at zh_dX13_compares_0_0 8 rfl)
theorem dX13_compares_9 : decode cX13_compares 9 = .ok (.invokevirtual 316, 3) := zo_182 (zi_at zh_dX13_compares_0_0 9 rfl) (zi_at zh_dX13_compares_0_0 10 rfl) (zi_at zh_dX13_compares_0_0 11 rfl) rfl
theorem dX13_compares_12 : decode cX13_compares 12 = .ok (.istore_n 3, 1) := zo_62 (zi_at zh_dX13_compares_0_0 12 rfl)
theorem dX13_compares_13 : decode cX13_compares 13 = .ok (.aload_n 0, 1) := zo_42 (zi_at zh_dX13_compares_0_0 13 rfl)
theorem dX13_compares_14 : decode cX13_compares 14 = .ok (.getfield 279, 3) := zo_180 (zi_at zh_dX13_compares_0_0 14 rfl) (zi_at zh_dX13_compares_0_0 15 rfl) (zi_at zh_dX13_compares_14_16 0 rfl) rfl
theorem dX13_compares_17 : decode cX13_compares 17 = .ok (.iconst (-1), 1) := zo_2 (zi_at zh_dX13_compares_14_16 1 rfl)
theorem dX13_compares_18 : decode cX13_compares 18 = .ok (.if_icmp .eq 5, 3) := zo_159 (zi_at zh_dX13_compares_14_16 2 rfl) (zi_at zh_dX13_compares_14_16 3 rfl) (zi_at zh_dX13_compares_14_16 4 rfl) rfl
theorem dX13_compares_21 : decode cX13_compares 21 = .ok (.iconst 0, 1) := zo_3 (zi_at zh_dX13_compares_14_16 5 rfl)
theorem dX13_compares_22 : decode cX13_compares 22 = .ok (.ireturn, 1) := zo_172 (zi_at zh_dX13_compares_14_16 6 rfl)
theorem dX13_compares_23 : decode cX13_compares 23 = .ok (.aload_n 0, 1) := zo_42 (zi_at zh_dX13_compares_14_16 7 rfl)
theorem dX13_compares_24 : decode cX13_compares 24 = .ok (.invokevirtual 289, 3) := zo_182 (zi_at zh_dX13_compares_14_16 8 rfl) (zi_at zh_dX13_compares_14_16 9 rfl) (zi_at zh_dX13_compares_14_16 10 rfl) rfl
theorem dX13_compares_27 : decode cX13_compares 27 = .ok (.istore 4, 2) := zo_54 (zi_at zh_dX13_compares_14_16 11 rfl) (zi_at zh_dX13_compares_14_16 12 rfl)
theorem dX13_compares_29 : decode cX13_compares 29 = .ok (.iload 4, 2) := zo_21 (zi_at zh_dX13_compares_14_16 13 rfl) (zi_at zh_dX13_compares_14_16 14 rfl)
theorem dX13_compares_31 : decode cX13_compares 31 = .ok (.invokestatic 335, 3) := zo_184 (zi_at zh_dX13_compares_14_16 15 rfl) (zi_at zh_dX13_compares_31_32 0 rfl) (zi_at zh_dX13_compares_31_32 1 rfl) rfl
theorem dX13_compares_34 : decode cX13_compares 34 = .ok (.ifCond .ne 8, 3) := zo_154 (zi_at zh_dX13_compares_31_32 2 rfl) (zi_at zh_dX13_compares_31_32 3 rfl) (zi_at zh_dX13_compares_31_32 4 rfl) rfl
theorem dX13_compares_37 : decode cX13_compares 37 = .ok (.aload_n 0, 1) := zo_42 (zi_at zh_dX13_compares_31_32 5 rfl)
theorem dX13_compares_38 : decode cX13_compares 38 = .ok (.invokevirtual 285, 3) := zo_182 (zi_at zh_dX13_compares_31_32 6 rfl) (zi_at zh_dX13_compares_31_32 7 rfl) (zi_at zh_dX13_compares_31_32 8 rfl) rfl
theorem dX13_compares_41 : decode cX13_compares 41 = .ok (.ireturn, 1) := zo_172 (zi_at zh_dX13_compares_31_32 9 rfl)
theorem dX13_compares_42 : decode cX13_compares 42 = .ok (.aload_n 0, 1) := zo_42 (zi_at zh_dX13_compares_31_32 10 rfl)
theorem dX13_compares_43 : decode cX13_compares 43 = .ok (.dup, 1) := zo_89 (zi_at zh_dX13_compares_31_32 11 rfl)
theorem dX13_compares_44 : decode cX13_compares 44 = .ok (.getfield 270, 3) := zo_180 (zi_at zh_dX13_compares_31_32 12 rfl) (zi_at zh_dX13_compares_31_32 13 rfl) (zi_at zh_dX13_compares_31_32 14 rfl) rfl
theorem dX13_compares_47 : decode cX13_compares 47 = .ok (.iconst 1, 1) := zo_4 (zi_at zh_dX13_compares_31_32 15 rfl)
theorem dX13_compares_48 : decode cX13_compares 48 = .ok (.iadd, 1) := zo_96 (zi_at zh_dX13_compares_48_48 0 rfl)
theorem dX13_compares_49 : decode cX13_compares 49 = .ok (.putfield 270, 3) := zo_181 (zi_at zh_dX13_compares_48_48 1 rfl) (zi_at zh_dX13_compares_48_48 2 rfl) (zi_at zh_dX13_compares_48_48 3 rfl) rfl
theorem dX13_compares_52 : decode cX13_compares 52 = .ok (.aload_n 0, 1) := zo_42 (zi_at zh_dX13_compares_48_48 4 rfl)
theorem dX13_compares_53 : decode cX13_compares 53 = .ok (.invokevirtual 316, 3) := zo_182 (zi_at zh_dX13_compares_48_48 5 rfl) (zi_at zh_dX13_compares_48_48 6 rfl) (zi_at zh_dX13_compares_48_48 7 rfl) rfl
theorem dX13_compares_56 : decode cX13_compares 56 = .ok (.istore 5, 2) := zo_54 (zi_at zh_dX13_compares_48_48 8 rfl) (zi_at zh_dX13_compares_48_48 9 rfl)
theorem dX13_compares_58 : decode cX13_compares 58 = .ok (.iload 4, 2) := zo_21 (zi_at zh_dX13_compares_48_48 10 rfl) (zi_at zh_dX13_compares_48_48 11 rfl)
theorem dX13_compares_60 : decode cX13_compares 60 = .ok (.bipush 61, 2) := zo_16 (zi_at zh_dX13_compares_48_48 12 rfl) (zi_at zh_dX13_compares_48_48 13 rfl) rfl
theorem dX13_compares_62 : decode cX13_compares 62 = .ok (.if_icmp .ne 17, 3) := zo_160 (zi_at zh_dX13_compares_48_48 14 rfl) (zi_at zh_dX13_compares_48_48 15 rfl) (zi_at zh_dX13_compares_62_64 0 rfl) rfl
theorem dX13_compares_65 : decode cX13_compares 65 = .ok (.iload_n 3, 1) := zo_29 (zi_at zh_dX13_compares_62_64 1 rfl)
theorem dX13_compares_66 : decode cX13_compares 66 = .ok (.iload 5, 2) := zo_21 (zi_at zh_dX13_compares_62_64 2 rfl) (zi_at zh_dX13_compares_62_64 3 rfl)
theorem dX13_compares_68 : decode cX13_compares 68 = .ok (.if_icmp .ne 7, 3) := zo_160 (zi_at zh_dX13_compares_62_64 4 rfl) (zi_at zh_dX13_compares_62_64 5 rfl) (zi_at zh_dX13_compares_62_64 6 rfl) rfl
theorem dX13_compares_71 : decode cX13_compares 71 = .ok (.iconst 1, 1) := zo_4 (zi_at zh_dX13_compares_62_64 7 rfl)
theorem dX13_compares_72 : decode cX13_compares 72 = .ok (.goto 39, 3) := zo_167 (zi_at zh_dX13_compares_62_64 8 rfl) (zi_at zh_dX13_compares_62_64 9 rfl) (zi_at zh_dX13_compares_62_64 10 rfl) rfl
theorem dX13_compares_75 : decode cX13_compares 75 = .ok (.iconst 0, 1) := zo_3 (zi_at zh_dX13_compares_62_64 11 rfl)
theorem dX13_compares_76 : decode cX13_compares 76 = .ok (.goto 35, 3) := zo_167 (zi_at zh_dX13_compares_62_64 12 rfl) (zi_at zh_dX13_compares_62_64 13 rfl) (zi_at zh_dX13_compares_62_64 14 rfl) rfl
theorem dX13_compares_79 : decode cX13_compares 79 = .ok (.iload 4, 2) := zo_21 (zi_at zh_dX13_compares_62_64 15 rfl) (zi_at zh_dX13_compares_79_80 0 rfl)
theorem dX13_compares_81 : decode cX13_compares 81 = .ok (.bipush 60, 2) := zo_16 (zi_at zh_dX13_compares_79_80 1 rfl) (zi_at zh_dX13_compares_79_80 2 rfl) rfl
theorem dX13_compares_83 : decode cX13_compares 83 = .ok (.if_icmp .ne 17, 3) := zo_160 (zi_at zh_dX13_compares_79_80 3 rfl) (zi_at zh_dX13_compares_79_80 4 rfl) (zi_at zh_dX13_compares_79_80 5 rfl) rfl
theorem dX13_compares_86 : decode cX13_compares 86 = .ok (.iload_n 3, 1) := zo_29 (zi_at zh_dX13_compares_79_80 6 rfl)
theorem dX13_compares_87 : decode cX13_compares 87 = .ok (.iload 5, 2) := zo_21 (zi_at zh_dX13_compares_79_80 7 rfl) (zi_at zh_dX13_compares_79_80 8 rfl)
theorem dX13_compares_89 : decode cX13_compares 89 = .ok (.if_icmp .ge 7, 3) := zo_162 (zi_at zh_dX13_compares_79_80 9 rfl) (zi_at zh_dX13_compares_79_80 10 rfl) (zi_at zh_dX13_compares_79_80 11 rfl) rfl
theorem dX13_compares_92 : decode cX13_compares 92 = .ok (.iconst 1, 1) := zo_4 (zi_at zh_dX13_compares_79_80 12 rfl)
theorem dX13_compares_93 : decode cX13_compares 93 = .ok (.goto 18, 3) := zo_167 (zi_at zh_dX13_compares_79_80 13 rfl) (zi_at zh_dX13_compares_79_80 14 rfl) (zi_at zh_dX13_compares_79_80 15 rfl) rfl
theorem dX13_compares_96 : decode cX13_compares 96 = .ok (.iconst 0, 1) := zo_3 (zi_at zh_dX13_compares_96_96 0 rfl)
theorem dX13_compares_97 : decode cX13_compares 97 = .ok (.goto 14, 3) := zo_167 (zi_at zh_dX13_compares_96_96 1 rfl) (zi_at zh_dX13_compares_96_96 2 rfl) (zi_at zh_dX13_compares_96_96 3 rfl) rfl
theorem dX13_compares_100 : decode cX13_compares 100 = .ok (.iload_n 3, 1) := zo_29 (zi_at zh_dX13_compares_96_96 4 rfl)
theorem dX13_compares_101 : decode cX13_compares 101 = .ok (.iload 5, 2) := zo_21 (zi_at zh_dX13_compares_96_96 5 rfl) (zi_at zh_dX13_compares_96_96 6 rfl)
theorem dX13_compares_103 : decode cX13_compares 103 = .ok (.if_icmp .le 7, 3) := zo_164 (zi_at zh_dX13_compares_96_96 7 rfl) (zi_at zh_dX13_compares_96_96 8 rfl) (zi_at zh_dX13_compares_96_96 9 rfl) rfl
theorem dX13_compares_106 : decode cX13_compares 106 = .ok (.iconst 1, 1) := zo_4 (zi_at zh_dX13_compares_96_96 10 rfl)
theorem dX13_compares_107 : decode cX13_compares 107 = .ok (.goto 4, 3) := zo_167 (zi_at zh_dX13_compares_96_96 11 rfl) (zi_at zh_dX13_compares_96_96 12 rfl) (zi_at zh_dX13_compares_96_96 13 rfl) rfl
theorem dX13_compares_110 : decode cX13_compares 110 = .ok (.iconst 0, 1) := zo_3 (zi_at zh_dX13_compares_96_96 14 rfl)
theorem dX13_compares_111 : decode cX13_compares 111 = .ok (.ireturn, 1) := zo_172 (zi_at zh_dX13_compares_96_96 15 rfl)
theorem dX13_unit_0 : decode cX13_unit 0 = .ok (.aload_n 0, 1) := zo_42 (zi_at zh_dX13_unit_0_0 0 rfl)
theorem dX13_unit_1 : decode cX13_unit 1 = .ok (.invokevirtual 289, 3) := zo_182 (zi_at zh_dX13_unit_0_0 1 rfl) (zi_at zh_dX13_unit_0_0 2 rfl) (zi_at zh_dX13_unit_0_0 3 rfl) rfl
theorem dX13_unit_4 : decode cX13_unit 4 = .ok (.istore_n 1, 1) := zo_60 (zi_at zh_dX13_unit_0_0 4 rfl)
theorem dX13_unit_5 : decode cX13_unit 5 = .ok (.iload_n 1, 1) := zo_27 (zi_at zh_dX13_unit_0_0 5 rfl)
theorem dX13_unit_6 : decode cX13_unit 6 = .ok (.bipush 33, 2) := zo_16 (zi_at zh_dX13_unit_0_0 6 rfl) (zi_at zh_dX13_unit_0_0 7 rfl) rfl
theorem dX13_unit_8 : decode cX13_unit 8 = .ok (.if_icmp .ne 37, 3) := zo_160 (zi_at zh_dX13_unit_0_0 8 rfl) (zi_at zh_dX13_unit_0_0 9 rfl) (zi_at zh_dX13_unit_0_0 10 rfl) rfl
theorem dX13_unit_11 : decode cX13_unit 11 = .ok (.aload_n 0, 1) := zo_42 (zi_at zh_dX13_unit_0_0 11 rfl)
theorem dX13_unit_12 : decode cX13_unit 12 = .ok (.invokevirtual 313, 3) := zo_182 (zi_at zh_dX13_unit_0_0 12 rfl) (zi_at zh_dX13_unit_0_0 13 rfl) (zi_at zh_dX13_unit_0_0 14 rfl) rfl
theorem dX13_unit_15 : decode cX13_unit 15 = .ok (.ifCond .ne 5, 3) := zo_154 (zi_at zh_dX13_unit_0_0 15 rfl) (zi_at zh_dX13_unit_15_16 0 rfl) (zi_at zh_dX13_unit_15_16 1 rfl) rfl
theorem dX13_unit_18 : decode cX13_unit 18 = .ok (.iconst 0, 1) := zo_3 (zi_at zh_dX13_unit_15_16 2 rfl)
theorem dX13_unit_19 : decode cX13_unit 19 = .ok (.ireturn, 1) := zo_172 (zi_at zh_dX13_unit_15_16 3 rfl)
theorem dX13_unit_20 : decode cX13_unit 20 = .ok (.aload_n 0, 1) := zo_42 (zi_at zh_dX13_unit_15_16 4 rfl)
theorem dX13_unit_21 : decode cX13_unit 21 = .ok (.invokevirtual 338, 3) := zo_182 (zi_at zh_dX13_unit_15_16 5 rfl) (zi_at zh_dX13_unit_15_16 6 rfl) (zi_at zh_dX13_unit_15_16 7 rfl) rfl
theorem dX13_unit_24 : decode cX13_unit 24 = .ok (.istore_n 2, 1) := zo_61 (zi_at zh_dX13_unit_15_16 8 rfl)
theorem dX13_unit_25 : decode cX13_unit 25 = .ok (.aload_n 0, 1) := zo_42 (zi_at zh_dX13_unit_15_16 9 rfl)
theorem dX13_unit_26 : decode cX13_unit 26 = .ok (.dup, 1) := zo_89 (zi_at zh_dX13_unit_15_16 10 rfl)
theorem dX13_unit_27 : decode cX13_unit 27 = .ok (.getfield 282, 3) := zo_180 (zi_at zh_dX13_unit_15_16 11 rfl) (zi_at zh_dX13_unit_15_16 12 rfl) (zi_at zh_dX13_unit_15_16 13 rfl) rfl
theorem dX13_unit_30 : decode cX13_unit 30 = .ok (.iconst 1, 1) := zo_4 (zi_at zh_dX13_unit_15_16 14 rfl)
theorem dX13_unit_31 : decode cX13_unit 31 = .ok (.isub, 1) := zo_100 (zi_at zh_dX13_unit_15_16 15 rfl)
theorem dX13_unit_32 : decode cX13_unit 32 = .ok (.putfield 282, 3) := zo_181 (zi_at zh_dX13_unit_32_32 0 rfl) (zi_at zh_dX13_unit_32_32 1 rfl) (zi_at zh_dX13_unit_32_32 2 rfl) rfl
theorem dX13_unit_35 : decode cX13_unit 35 = .ok (.iload_n 2, 1) := zo_28 (zi_at zh_dX13_unit_32_32 3 rfl)
theorem dX13_unit_36 : decode cX13_unit 36 = .ok (.ifCond .ne 7, 3) := zo_154 (zi_at zh_dX13_unit_32_32 4 rfl) (zi_at zh_dX13_unit_32_32 5 rfl) (zi_at zh_dX13_unit_32_32 6 rfl) rfl
theorem dX13_unit_39 : decode cX13_unit 39 = .ok (.iconst 1, 1) := zo_4 (zi_at zh_dX13_unit_32_32 7 rfl)
theorem dX13_unit_40 : decode cX13_unit 40 = .ok (.goto 4, 3) := zo_167 (zi_at zh_dX13_unit_32_32 8 rfl) (zi_at zh_dX13_unit_32_32 9 rfl) (zi_at zh_dX13_unit_32_32 10 rfl) rfl
theorem dX13_unit_43 : decode cX13_unit 43 = .ok (.iconst 0, 1) := zo_3 (zi_at zh_dX13_unit_32_32 11 rfl)
theorem dX13_unit_44 : decode cX13_unit 44 = .ok (.ireturn, 1) := zo_172 (zi_at zh_dX13_unit_32_32 12 rfl)
theorem dX13_unit_45 : decode cX13_unit 45 = .ok (.iload_n 1, 1) := zo_27 (zi_at zh_dX13_unit_32_32 13 rfl)
theorem dX13_unit_46 : decode cX13_unit 46 = .ok (.bipush 40, 2) := zo_16 (zi_at zh_dX13_unit_32_32 14 rfl) (zi_at zh_dX13_unit_32_32 15 rfl) rfl
theorem dX13_unit_48 : decode cX13_unit 48 = .ok (.if_icmp .ne 42, 3) := zo_160 (zi_at zh_dX13_unit_48_48 0 rfl) (zi_at zh_dX13_unit_48_48 1 rfl) (zi_at zh_dX13_unit_48_48 2 rfl) rfl
theorem dX13_unit_51 : decode cX13_unit 51 = .ok (.aload_n 0, 1) := zo_42 (zi_at zh_dX13_unit_48_48 3 rfl)
theorem dX13_unit_52 : decode cX13_unit 52 = .ok (.invokevirtual 313, 3) := zo_182 (zi_at zh_dX13_unit_48_48 4 rfl) (zi_at zh_dX13_unit_48_48 5 rfl) (zi_at zh_dX13_unit_48_48 6 rfl) rfl
theorem dX13_unit_55 : decode cX13_unit 55 = .ok (.ifCond .ne 5, 3) := zo_154 (zi_at zh_dX13_unit_48_48 7 rfl) (zi_at zh_dX13_unit_48_48 8 rfl) (zi_at zh_dX13_unit_48_48 9 rfl) rfl
theorem dX13_unit_58 : decode cX13_unit 58 = .ok (.iconst 0, 1) := zo_3 (zi_at zh_dX13_unit_48_48 10 rfl)
theorem dX13_unit_59 : decode cX13_unit 59 = .ok (.ireturn, 1) := zo_172 (zi_at zh_dX13_unit_48_48 11 rfl)
theorem dX13_unit_60 : decode cX13_unit 60 = .ok (.aload_n 0, 1) := zo_42 (zi_at zh_dX13_unit_48_48 12 rfl)
theorem dX13_unit_61 : decode cX13_unit 61 = .ok (.iconst 0, 1) := zo_3 (zi_at zh_dX13_unit_48_48 13 rfl)
theorem dX13_unit_62 : decode cX13_unit 62 = .ok (.iconst 0, 1) := zo_3 (zi_at zh_dX13_unit_48_48 14 rfl)
theorem dX13_unit_63 : decode cX13_unit 63 = .ok (.invokevirtual 341, 3) := zo_182 (zi_at zh_dX13_unit_48_48 15 rfl) (zi_at zh_dX13_unit_63_64 0 rfl) (zi_at zh_dX13_unit_63_64 1 rfl) rfl
theorem dX13_unit_66 : decode cX13_unit 66 = .ok (.istore_n 2, 1) := zo_61 (zi_at zh_dX13_unit_63_64 2 rfl)
theorem dX13_unit_67 : decode cX13_unit 67 = .ok (.aload_n 0, 1) := zo_42 (zi_at zh_dX13_unit_63_64 3 rfl)
theorem dX13_unit_68 : decode cX13_unit 68 = .ok (.bipush 41, 2) := zo_16 (zi_at zh_dX13_unit_63_64 4 rfl) (zi_at zh_dX13_unit_63_64 5 rfl) rfl
theorem dX13_unit_70 : decode cX13_unit 70 = .ok (.invokevirtual 319, 3) := zo_182 (zi_at zh_dX13_unit_63_64 6 rfl) (zi_at zh_dX13_unit_63_64 7 rfl) (zi_at zh_dX13_unit_63_64 8 rfl) rfl
theorem dX13_unit_73 : decode cX13_unit 73 = .ok (.ifCond .ne 5, 3) := zo_154 (zi_at zh_dX13_unit_63_64 9 rfl) (zi_at zh_dX13_unit_63_64 10 rfl) (zi_at zh_dX13_unit_63_64 11 rfl) rfl
theorem dX13_unit_76 : decode cX13_unit 76 = .ok (.iconst 0, 1) := zo_3 (zi_at zh_dX13_unit_63_64 12 rfl)
theorem dX13_unit_77 : decode cX13_unit 77 = .ok (.ireturn, 1) := zo_172 (zi_at zh_dX13_unit_63_64 13 rfl)
theorem dX13_unit_78 : decode cX13_unit 78 = .ok (.aload_n 0, 1) := zo_42 (zi_at zh_dX13_unit_63_64 14 rfl)
theorem dX13_unit_79 : decode cX13_unit 79 = .ok (.dup, 1) := zo_89 (zi_at zh_dX13_unit_63_64 15 rfl)
theorem dX13_unit_80 : decode cX13_unit 80 = .ok (.getfield 282, 3) := zo_180 (zi_at zh_dX13_unit_80_80 0 rfl) (zi_at zh_dX13_unit_80_80 1 rfl) (zi_at zh_dX13_unit_80_80 2 rfl) rfl
theorem dX13_unit_83 : decode cX13_unit 83 = .ok (.iconst 1, 1) := zo_4 (zi_at zh_dX13_unit_80_80 3 rfl)
theorem dX13_unit_84 : decode cX13_unit 84 = .ok (.isub, 1) := zo_100 (zi_at zh_dX13_unit_80_80 4 rfl)
theorem dX13_unit_85 : decode cX13_unit 85 = .ok (.putfield 282, 3) := zo_181 (zi_at zh_dX13_unit_80_80 5 rfl) (zi_at zh_dX13_unit_80_80 6 rfl) (zi_at zh_dX13_unit_80_80 7 rfl) rfl
theorem dX13_unit_88 : decode cX13_unit 88 = .ok (.iload_n 2, 1) := zo_28 (zi_at zh_dX13_unit_80_80 8 rfl)
theorem dX13_unit_89 : decode cX13_unit 89 = .ok (.ireturn, 1) := zo_172 (zi_at zh_dX13_unit_80_80 9 rfl)
theorem dX13_unit_90 : decode cX13_unit 90 = .ok (.aload_n 0, 1) := zo_42 (zi_at zh_dX13_unit_80_80 10 rfl)
theorem dX13_unit_91 : decode cX13_unit 91 = .ok (.iconst 0, 1) := zo_3 (zi_at zh_dX13_unit_80_80 11 rfl)
theorem dX13_unit_92 : decode cX13_unit 92 = .ok (.iconst 0, 1) := zo_3 (zi_at zh_dX13_unit_80_80 12 rfl)
theorem dX13_unit_93 : decode cX13_unit 93 = .ok (.invokevirtual 345, 3) := zo_182 (zi_at zh_dX13_unit_80_80 13 rfl) (zi_at zh_dX13_unit_80_80 14 rfl) (zi_at zh_dX13_unit_80_80 15 rfl) rfl
theorem dX13_unit_96 : decode cX13_unit 96 = .ok (.ireturn, 1) := zo_172 (zi_at zh_dX13_unit_96_96 0 rfl)
theorem dX13_part_0 : decode cX13_part 0 = .ok (.iload_n 1, 1) := zo_27 (zi_at zh_dX13_part_0_0 0 rfl)
theorem dX13_part_1 : decode cX13_part 1 = .ok (.ifCond .eq 12, 3) := zo_153 (zi_at zh_dX13_part_0_0 1 rfl) (zi_at zh_dX13_part_0_0 2 rfl) (zi_at zh_dX13_part_0_0 3 rfl) rfl
theorem dX13_part_4 : decode cX13_part 4 = .ok (.aload_n 0, 1) := zo_42 (zi_at zh_dX13_part_0_0 4 rfl)
theorem dX13_part_5 : decode cX13_part 5 = .ok (.iconst 1, 1) := zo_4 (zi_at zh_dX13_part_0_0 5 rfl)
theorem dX13_part_6 : decode cX13_part 6 = .ok (.iload_n 2, 1) := zo_28 (zi_at zh_dX13_part_0_0 6 rfl)
theorem dX13_part_7 : decode cX13_part 7 = .ok (.invokevirtual 345, 3) := zo_182 (zi_at zh_dX13_part_0_0 7 rfl) (zi_at zh_dX13_part_0_0 8 rfl) (zi_at zh_dX13_part_0_0 9 rfl) rfl
theorem dX13_part_10 : decode cX13_part 10 = .ok (.goto 7, 3) := zo_167 (zi_at zh_dX13_part_0_0 10 rfl) (zi_at zh_dX13_part_0_0 11 rfl) (zi_at zh_dX13_part_0_0 12 rfl) rfl
theorem dX13_part_13 : decode cX13_part 13 = .ok (.aload_n 0, 1) := zo_42 (zi_at zh_dX13_part_0_0 13 rfl)
theorem dX13_part_14 : decode cX13_part 14 = .ok (.invokevirtual 338, 3) := zo_182 (zi_at zh_dX13_part_0_0 14 rfl) (zi_at zh_dX13_part_0_0 15 rfl) (zi_at zh_dX13_part_14_16 0 rfl) rfl
theorem dX13_part_17 : decode cX13_part 17 = .ok (.istore_n 3, 1) := zo_62 (zi_at zh_dX13_part_14_16 1 rfl)
theorem dX13_part_18 : decode cX13_part 18 = .ok (.aload_n 0, 1) := zo_42 (zi_at zh_dX13_part_14_16 2 rfl)
theorem dX13_part_19 : decode cX13_part 19 = .ok (.getfield 279, 3) := zo_180 (zi_at zh_dX13_part_14_16 3 rfl) (zi_at zh_dX13_part_14_16 4 rfl) (zi_at zh_dX13_part_14_16 5 rfl) rfl
theorem dX13_part_22 : decode cX13_part 22 = .ok (.iconst (-1), 1) := zo_2 (zi_at zh_dX13_part_14_16 6 rfl)
theorem dX13_part_23 : decode cX13_part 23 = .ok (.if_icmp .ne 46, 3) := zo_160 (zi_at zh_dX13_part_14_16 7 rfl) (zi_at zh_dX13_part_14_16 8 rfl) (zi_at zh_dX13_part_14_16 9 rfl) rfl
theorem dX13_part_26 : decode cX13_part 26 = .ok (.aload_n 0, 1) := zo_42 (zi_at zh_dX13_part_14_16 10 rfl)
theorem dX13_part_27 : decode cX13_part 27 = .ok (.invokevirtual 289, 3) := zo_182 (zi_at zh_dX13_part_14_16 11 rfl) (zi_at zh_dX13_part_14_16 12 rfl) (zi_at zh_dX13_part_14_16 13 rfl) rfl
theorem dX13_part_30 : decode cX13_part 30 = .ok (.bipush 38, 2) := zo_16 (zi_at zh_dX13_part_14_16 14 rfl) (zi_at zh_dX13_part_14_16 15 rfl) rfl
theorem dX13_part_32 : decode cX13_part 32 = .ok (.if_icmp .ne 37, 3) := zo_160 (zi_at zh_dX13_part_32_32 0 rfl) (zi_at zh_dX13_part_32_32 1 rfl) (zi_at zh_dX13_part_32_32 2 rfl) rfl
theorem dX13_part_35 : decode cX13_part 35 = .ok (.aload_n 0, 1) := zo_42 (zi_at zh_dX13_part_32_32 3 rfl)
theorem dX13_part_36 : decode cX13_part 36 = .ok (.dup, 1) := zo_89 (zi_at zh_dX13_part_32_32 4 rfl)
theorem dX13_part_37 : decode cX13_part 37 = .ok (.getfield 270, 3) := zo_180 (zi_at zh_dX13_part_32_32 5 rfl) (zi_at zh_dX13_part_32_32 6 rfl) (zi_at zh_dX13_part_32_32 7 rfl) rfl
theorem dX13_part_40 : decode cX13_part 40 = .ok (.iconst 1, 1) := zo_4 (zi_at zh_dX13_part_32_32 8 rfl)
theorem dX13_part_41 : decode cX13_part 41 = .ok (.iadd, 1) := zo_96 (zi_at zh_dX13_part_32_32 9 rfl)
theorem dX13_part_42 : decode cX13_part 42 = .ok (.putfield 270, 3) := zo_181 (zi_at zh_dX13_part_32_32 10 rfl) (zi_at zh_dX13_part_32_32 11 rfl) (zi_at zh_dX13_part_32_32 12 rfl) rfl
theorem dX13_part_45 : decode cX13_part 45 = .ok (.aload_n 0, 1) := zo_42 (zi_at zh_dX13_part_32_32 13 rfl)
theorem dX13_part_46 : decode cX13_part 46 = .ok (.invokevirtual 338, 3) := zo_182 (zi_at zh_dX13_part_32_32 14 rfl) (zi_at zh_dX13_part_32_32 15 rfl) (zi_at zh_dX13_part_46_48 0 rfl) rfl
theorem dX13_part_49 : decode cX13_part 49 = .ok (.istore 4, 2) := zo_54 (zi_at zh_dX13_part_46_48 1 rfl) (zi_at zh_dX13_part_46_48 2 rfl)
theorem dX13_part_51 : decode cX13_part 51 = .ok (.iload_n 3, 1) := zo_29 (zi_at zh_dX13_part_46_48 3 rfl)
theorem dX13_part_52 : decode cX13_part 52 = .ok (.ifCond .eq 12, 3) := zo_153 (zi_at zh_dX13_part_46_48 4 rfl) (zi_at zh_dX13_part_46_48 5 rfl) (zi_at zh_dX13_part_46_48 6 rfl) rfl
theorem dX13_part_55 : decode cX13_part 55 = .ok (.iload 4, 2) := zo_21 (zi_at zh_dX13_part_46_48 7 rfl) (zi_at zh_dX13_part_46_48 8 rfl)
theorem dX13_part_57 : decode cX13_part 57 = .ok (.ifCond .eq 7, 3) := zo_153 (zi_at zh_dX13_part_46_48 9 rfl) (zi_at zh_dX13_part_46_48 10 rfl) (zi_at zh_dX13_part_46_48 11 rfl) rfl
theorem dX13_part_60 : decode cX13_part 60 = .ok (.iconst 1, 1) := zo_4 (zi_at zh_dX13_part_46_48 12 rfl)
theorem dX13_part_61 : decode cX13_part 61 = .ok (.goto 4, 3) := zo_167 (zi_at zh_dX13_part_46_48 13 rfl) (zi_at zh_dX13_part_46_48 14 rfl) (zi_at zh_dX13_part_46_48 15 rfl) rfl
theorem dX13_part_64 : decode cX13_part 64 = .ok (.iconst 0, 1) := zo_3 (zi_at zh_dX13_part_64_64 0 rfl)
theorem dX13_part_65 : decode cX13_part 65 = .ok (.istore_n 3, 1) := zo_62 (zi_at zh_dX13_part_64_64 1 rfl)
theorem dX13_part_66 : decode cX13_part 66 = .ok (.goto (-48), 3) := zo_167 (zi_at zh_dX13_part_64_64 2 rfl) (zi_at zh_dX13_part_64_64 3 rfl) (zi_at zh_dX13_part_64_64 4 rfl) rfl
theorem dX13_part_69 : decode cX13_part 69 = .ok (.iload_n 3, 1) := zo_29 (zi_at zh_dX13_part_64_64 5 rfl)
theorem dX13_part_70 : decode cX13_part 70 = .ok (.ireturn, 1) := zo_172 (zi_at zh_dX13_part_64_64 6 rfl)
theorem dX13_condition_0 : decode cX13_condition 0 = .ok (.aload_n 0, 1) := zo_42 (zi_at zh_dX13_condition_0_0 0 rfl)
theorem dX13_condition_1 : decode cX13_condition 1 = .ok (.iload_n 1, 1) := zo_27 (zi_at zh_dX13_condition_0_0 1 rfl)
theorem dX13_condition_2 : decode cX13_condition 2 = .ok (.iload_n 2, 1) := zo_28 (zi_at zh_dX13_condition_0_0 2 rfl)
theorem dX13_condition_3 : decode cX13_condition 3 = .ok (.invokevirtual 348, 3) := zo_182 (zi_at zh_dX13_condition_0_0 3 rfl) (zi_at zh_dX13_condition_0_0 4 rfl) (zi_at zh_dX13_condition_0_0 5 rfl) rfl
theorem dX13_condition_6 : decode cX13_condition 6 = .ok (.istore_n 3, 1) := zo_62 (zi_at zh_dX13_condition_0_0 6 rfl)
theorem dX13_condition_7 : decode cX13_condition 7 = .ok (.aload_n 0, 1) := zo_42 (zi_at zh_dX13_condition_0_0 7 rfl)
theorem dX13_condition_8 : decode cX13_condition 8 = .ok (.getfield 279, 3) := zo_180 (zi_at zh_dX13_condition_0_0 8 rfl) (zi_at zh_dX13_condition_0_0 9 rfl) (zi_at zh_dX13_condition_0_0 10 rfl) rfl
theorem dX13_condition_11 : decode cX13_condition 11 = .ok (.iconst (-1), 1) := zo_2 (zi_at zh_dX13_condition_0_0 11 rfl)
theorem dX13_condition_12 : decode cX13_condition 12 = .ok (.if_icmp .ne 48, 3) := zo_160 (zi_at zh_dX13_condition_0_0 12 rfl) (zi_at zh_dX13_condition_0_0 13 rfl) (zi_at zh_dX13_condition_0_0 14 rfl) rfl
theorem dX13_condition_15 : decode cX13_condition 15 = .ok (.aload_n 0, 1) := zo_42 (zi_at zh_dX13_condition_0_0 15 rfl)
theorem dX13_condition_16 : decode cX13_condition 16 = .ok (.invokevirtual 289, 3) := zo_182 (zi_at zh_dX13_condition_16_16 0 rfl) (zi_at zh_dX13_condition_16_16 1 rfl) (zi_at zh_dX13_condition_16_16 2 rfl) rfl
theorem dX13_condition_19 : decode cX13_condition 19 = .ok (.bipush 124, 2) := zo_16 (zi_at zh_dX13_condition_16_16 3 rfl) (zi_at zh_dX13_condition_16_16 4 rfl) rfl
theorem dX13_condition_21 : decode cX13_condition 21 = .ok (.if_icmp .ne 39, 3) := zo_160 (zi_at zh_dX13_condition_16_16 5 rfl) (zi_at zh_dX13_condition_16_16 6 rfl) (zi_at zh_dX13_condition_16_16 7 rfl) rfl
theorem dX13_condition_24 : decode cX13_condition 24 = .ok (.aload_n 0, 1) := zo_42 (zi_at zh_dX13_condition_16_16 8 rfl)
theorem dX13_condition_25 : decode cX13_condition 25 = .ok (.dup, 1) := zo_89 (zi_at zh_dX13_condition_16_16 9 rfl)
theorem dX13_condition_26 : decode cX13_condition 26 = .ok (.getfield 270, 3) := zo_180 (zi_at zh_dX13_condition_16_16 10 rfl) (zi_at zh_dX13_condition_16_16 11 rfl) (zi_at zh_dX13_condition_16_16 12 rfl) rfl
theorem dX13_condition_29 : decode cX13_condition 29 = .ok (.iconst 1, 1) := zo_4 (zi_at zh_dX13_condition_16_16 13 rfl)
theorem dX13_condition_30 : decode cX13_condition 30 = .ok (.iadd, 1) := zo_96 (zi_at zh_dX13_condition_16_16 14 rfl)
theorem dX13_condition_31 : decode cX13_condition 31 = .ok (.putfield 270, 3) := zo_181 (zi_at zh_dX13_condition_16_16 15 rfl) (zi_at zh_dX13_condition_31_32 0 rfl) (zi_at zh_dX13_condition_31_32 1 rfl) rfl
theorem dX13_condition_34 : decode cX13_condition 34 = .ok (.aload_n 0, 1) := zo_42 (zi_at zh_dX13_condition_31_32 2 rfl)
theorem dX13_condition_35 : decode cX13_condition 35 = .ok (.iconst 0, 1) := zo_3 (zi_at zh_dX13_condition_31_32 3 rfl)
theorem dX13_condition_36 : decode cX13_condition 36 = .ok (.iconst 0, 1) := zo_3 (zi_at zh_dX13_condition_31_32 4 rfl)
theorem dX13_condition_37 : decode cX13_condition 37 = .ok (.invokevirtual 348, 3) := zo_182 (zi_at zh_dX13_condition_31_32 5 rfl) (zi_at zh_dX13_condition_31_32 6 rfl) (zi_at zh_dX13_condition_31_32 7 rfl) rfl
theorem dX13_condition_40 : decode cX13_condition 40 = .ok (.istore 4, 2) := zo_54 (zi_at zh_dX13_condition_31_32 8 rfl) (zi_at zh_dX13_condition_31_32 9 rfl)
theorem dX13_condition_42 : decode cX13_condition 42 = .ok (.iload_n 3, 1) := zo_29 (zi_at zh_dX13_condition_31_32 10 rfl)
theorem dX13_condition_43 : decode cX13_condition 43 = .ok (.ifCond .ne 8, 3) := zo_154 (zi_at zh_dX13_condition_31_32 11 rfl) (zi_at zh_dX13_condition_31_32 12 rfl) (zi_at zh_dX13_condition_31_32 13 rfl) rfl
theorem dX13_condition_46 : decode cX13_condition 46 = .ok (.iload 4, 2) := zo_21 (zi_at zh_dX13_condition_31_32 14 rfl) (zi_at zh_dX13_condition_31_32 15 rfl)
theorem dX13_condition_48 : decode cX13_condition 48 = .ok (.ifCond .eq 7, 3) := zo_153 (zi_at zh_dX13_condition_48_48 0 rfl) (zi_at zh_dX13_condition_48_48 1 rfl) (zi_at zh_dX13_condition_48_48 2 rfl) rfl
theorem dX13_condition_51 : decode cX13_condition 51 = .ok (.iconst 1, 1) := zo_4 (zi_at zh_dX13_condition_48_48 3 rfl)
theorem dX13_condition_52 : decode cX13_condition 52 = .ok (.goto 4, 3) := zo_167 (zi_at zh_dX13_condition_48_48 4 rfl) (zi_at zh_dX13_condition_48_48 5 rfl) (zi_at zh_dX13_condition_48_48 6 rfl) rfl
theorem dX13_condition_55 : decode cX13_condition 55 = .ok (.iconst 0, 1) := zo_3 (zi_at zh_dX13_condition_48_48 7 rfl)
theorem dX13_condition_56 : decode cX13_condition 56 = .ok (.istore_n 3, 1) := zo_62 (zi_at zh_dX13_condition_48_48 8 rfl)
theorem dX13_condition_57 : decode cX13_condition 57 = .ok (.goto (-50), 3) := zo_167 (zi_at zh_dX13_condition_48_48 9 rfl) (zi_at zh_dX13_condition_48_48 10 rfl) (zi_at zh_dX13_condition_48_48 11 rfl) rfl
theorem dX13_condition_60 : decode cX13_condition 60 = .ok (.iload_n 3, 1) := zo_29 (zi_at zh_dX13_condition_48_48 12 rfl)
theorem dX13_condition_61 : decode cX13_condition 61 = .ok (.ireturn, 1) := zo_172 (zi_at zh_dX13_condition_48_48 13 rfl)
theorem hz_yX13_stop_0 : yX13_stop.cls ≠ "java/lang/invoke/MethodHandle" ∧ yX13_stop.cls ≠ "java/lang/invoke/VarHandle" ∧ (parseMethodDescriptor yX13_stop.desc).map (fun d => d.parameters.length) = some 0 := by decide +kernel
theorem hz_yX13_look_0 : yX13_look.cls ≠ "java/lang/invoke/MethodHandle" ∧ yX13_look.cls ≠ "java/lang/invoke/VarHandle" ∧ (parseMethodDescriptor yX13_look.desc).map (fun d => d.parameters.length) = some 0 := by decide +kernel
theorem hz_yX13_isDigit_0 : yX13_isDigit.cls ≠ "java/lang/invoke/MethodHandle" ∧ yX13_isDigit.cls ≠ "java/lang/invoke/VarHandle" ∧ (parseMethodDescriptor yX13_isDigit.desc).map (fun d => d.parameters.length) = some 0 := by decide +kernel
theorem hz_yJ0_indexOf_0f7a4_1 : yJ0_indexOf_0f7a4.cls ≠ "java/lang/invoke/MethodHandle" ∧ yJ0_indexOf_0f7a4.cls ≠ "java/lang/invoke/VarHandle" ∧ (parseMethodDescriptor yJ0_indexOf_0f7a4.desc).map (fun d => d.parameters.length) = some 1 := by decide +kernel
theorem hz_yX13_goesIn_0 : yX13_goesIn.cls ≠ "java/lang/invoke/MethodHandle" ∧ yX13_goesIn.cls ≠ "java/lang/invoke/VarHandle" ∧ (parseMethodDescriptor yX13_goesIn.desc).map (fun d => d.parameters.length) = some 0 := by decide +kernel
theorem hz_yX13_takes_1 : yX13_takes.cls ≠ "java/lang/invoke/MethodHandle" ∧ yX13_takes.cls ≠ "java/lang/invoke/VarHandle" ∧ (parseMethodDescriptor yX13_takes.desc).map (fun d => d.parameters.length) = some 1 := by decide +kernel
theorem hz_yX13_bound_1 : yX13_bound.cls ≠ "java/lang/invoke/MethodHandle" ∧ yX13_bound.cls ≠ "java/lang/invoke/VarHandle" ∧ (parseMethodDescriptor yX13_bound.desc).map (fun d => d.parameters.length) = some 1 := by decide +kernel
theorem hz_yX13_isSign_1 : yX13_isSign.cls ≠ "java/lang/invoke/MethodHandle" ∧ yX13_isSign.cls ≠ "java/lang/invoke/VarHandle" ∧ (parseMethodDescriptor yX13_isSign.desc).map (fun d => d.parameters.length) = some 1 := by decide +kernel
def v_isDigit : List Cond := .code yX13_isDigit cX13_isDigit 1 (some .boolean) :: vA
abbrev rm_isDigit : Room := { frames := 0, cells := 0, slots := 0, locals := 0 }
set_option maxHeartbeats 4000000 in
set_option maxRecDepth 100000 in
theorem q_isDigit (l : Launch) (dC : Nat → ClassId) (dI : Nat → Nat → Nat) (cT : Nat → ClassId) (ad : Nat → Nat) (E : Nat → va_E) (sz : Nat) (k : Nat) (nl : Nat) (hI0 : IX cT shM spM 72 ad E) (hh0 : k < 72) (hh1 : shM k = (1, 1, nl)) (hh2 : ∀ j, spM k j = (0, -128, 127)) (hh3 : xv (E 0) 18 = .ref (ad k)) (hh4 : (xi (E 0) 19).toInt + 200 ≤ (nl : Int)) : Met l yX13_isDigit v_isDigit rm_isDigit (va_Pc [.ref (ad 0)] (HW dC dI (TYM cT) 72 ad E sz)) (va_Qi (S := Unit) (fun r _ => (r = 1 ∧ ((xi (E 0) 21).toInt < (xi (E 0) 20).toInt)) ∨ (r = 0)) (fun _ _ => True) (fun _ => False)) 0 0 (fun _ => False) := by
  refine Met.ofW (cc := cX13_isDigit) (maxL := 1) (ret := (some .boolean)) (by decide) rfl ?_
  intro p e s m args below meth c s₁ B hml hv
  obtain ⟨hargs, hsz, hP, hK, hD0, hEV⟩ := hv
  subst hsz
  have hx := B.exec
  have hb := B.bytes
  have hr := B.returns
  have hts := atoms_spec (ws := v_isDigit) B.pre
  have hown : s.vm.findClass RX13 = some m.cls := findClass_of_methodNamed B.named
  have hlocks := B.notSynchronized
  have hinX13 : ∀ w ∈ u_ws RX13 TX13 97, w ∈ v_isDigit := fun w h => vA_in _ w (in_X13 w h)
  have hS : va_S (fun _ : Nat => False) s.heap s.heap [] := va_S.rf
  have hD := hD0
  have hI := hI0
  have hKp : Kp (wl [] []) E E := Kp.rf
  have hl := lv_entry ([.ref (ad 0)]) (n := 1) (Nat.le_of_ble_eq_true rfl)
  obtain ⟨Q, hQ⟩ : ∃ Q, Q = MQ below (va_Qi (S := Unit) (fun r _ => (r = 1 ∧ ((xi (E 0) 21).toInt < (xi (E 0) 20).toInt)) ∨ (r = 0)) (fun _ _ => True) (fun _ => False)) args s 0 0 (fun _ => False) := ⟨_, rfl⟩
  rw [← hQ, show entryFrame m args 1 = _ from (congrArg (fun z => entryFrame m z 1) hargs).trans (lg_entry_eq _ _ _)]
  generalize (lg_sl ([.ref (ad 0)]) ++ List.replicate (1 - (lg_sl ([.ref (ad 0)])).length) Slot.unset).toArray = ls at hl ⊢
  have hl : lv_has ls 1 [(0, .ref (ad 0))] := hl
  refine lv_aload_n hx hb dX13_isDigit_0 rfl (lv_at hl 0 rfl) ?_
  have i1 : 0 ≤ (xi (E 0) 21).toInt ∧ (xi (E 0) 21).toInt ≤ 201 := hI0.iv 0 (Nat.le_of_ble_eq_true rfl) rfl (Nat.le_of_ble_eq_true rfl) rfl
  refine th_get (ci := 14) (C := RX13) (T := TX13) (N := 97) (v := .int (xi (E 0) 21)) hx hb hts hinX13 hown hK hP hI 0 (Nat.le_of_ble_eq_true rfl) rfl rfl 21 (Nat.le_of_ble_eq_true rfl) (hts _ (vA_in _ _ (in_25 _ (zs16 (zs16 (zs4 (zs0))))))) (fun _ h9 => h9) (th_v0 hKp hI0 0 (Nat.le_of_ble_eq_true rfl) rfl (Nat.le_of_ble_eq_true rfl) rfl rfl) dX13_isDigit_1 ?_
  refine lv_aload_n hx hb dX13_isDigit_4 rfl (lv_at hl 0 rfl) ?_
  have i2 : 0 ≤ (xi (E 0) 20).toInt ∧ (xi (E 0) 20).toInt ≤ 200 := hI0.iv 0 (Nat.le_of_ble_eq_true rfl) rfl (Nat.le_of_ble_eq_true rfl) rfl
  refine th_get (ci := 14) (C := RX13) (T := TX13) (N := 97) (v := .int (xi (E 0) 20)) hx hb hts hinX13 hown hK hP hI 0 (Nat.le_of_ble_eq_true rfl) rfl rfl 20 (Nat.le_of_ble_eq_true rfl) (hts _ (vA_in _ _ (in_26 _ (zs4 (zs1 (zs1 (zs0))))))) (fun _ h9 => h9) (th_v0 hKp hI0 0 (Nat.le_of_ble_eq_true rfl) rfl (Nat.le_of_ble_eq_true rfl) rfl rfl) dX13_isDigit_5 ?_
  refine lv_icmp_ge (tgt := 53) hx hb dX13_isDigit_8 (by decide) (fun c3 => ?_) (fun c3 => ?_)
  · --8 taken
    have t4 : (xi (E 0) 20).toInt ≤ (xi (E 0) 21).toInt := ti_le c3
    refine lv_iconst (v := 0) hx hb dX13_isDigit_53 (by decide) ?_
    rw [hQ]
    exact W.zret (v := 0) hx hb hr rfl (fun t ht hW => ⟨⟨0, (), rfl, Or.inr (rfl), trivial⟩, hS.F ht⟩) hS.2.2 dX13_isDigit_54
  · --8 not
    have t5 : (xi (E 0) 21).toInt < (xi (E 0) 20).toInt := ti_nle c3
    have i6 : 0 ≤ (xi (E 0) 21).toInt ∧ (xi (E 0) 21).toInt ≤ 199 := iv_lt_l t5 i1 i2 (by decide)
    have i7 : 1 ≤ (xi (E 0) 20).toInt ∧ (xi (E 0) 20).toInt ≤ 200 := iv_lt_r t5 i1 i2 (by decide)
    refine lv_aload_n hx hb dX13_isDigit_11 rfl (lv_at hl 0 rfl) ?_
    refine th_get (ci := 14) (C := RX13) (T := TX13) (N := 97) (v := .ref (ad k)) hx hb hts hinX13 hown hK hP hI 0 (Nat.le_of_ble_eq_true rfl) rfl rfl 18 (Nat.le_of_ble_eq_true rfl) (hts _ (vA_in _ _ (in_26 _ zs0))) (fun _ h9 => h9) ((hKp 0 18 rfl).trans hh3) dX13_isDigit_12 ?_
    refine lv_aload_n hx hb dX13_isDigit_15 rfl (lv_at hl 0 rfl) ?_
    have i8 : 0 ≤ (xi (E 0) 19).toInt ∧ (xi (E 0) 19).toInt ≤ 3000 := hI0.iv 0 (Nat.le_of_ble_eq_true rfl) rfl (Nat.le_of_ble_eq_true rfl) rfl
    refine th_get (ci := 14) (C := RX13) (T := TX13) (N := 97) (v := .int (xi (E 0) 19)) hx hb hts hinX13 hown hK hP hI 0 (Nat.le_of_ble_eq_true rfl) rfl rfl 19 (Nat.le_of_ble_eq_true rfl) (hts _ (vA_in _ _ (in_26 _ (zs1 (zs0))))) (fun _ h9 => h9) (th_v0 hKp hI0 0 (Nat.le_of_ble_eq_true rfl) rfl (Nat.le_of_ble_eq_true rfl) rfl rfl) dX13_isDigit_16 ?_
    refine lv_aload_n hx hb dX13_isDigit_19 rfl (lv_at hl 0 rfl) ?_
    refine th_get (ci := 14) (C := RX13) (T := TX13) (N := 97) (v := .int (xi (E 0) 21)) hx hb hts hinX13 hown hK hP hI 0 (Nat.le_of_ble_eq_true rfl) rfl rfl 21 (Nat.le_of_ble_eq_true rfl) (hts _ (vA_in _ _ (in_25 _ (zs16 (zs16 (zs4 (zs0))))))) (fun _ h9 => h9) (th_v0 hKp hI0 0 (Nat.le_of_ble_eq_true rfl) rfl (Nat.le_of_ble_eq_true rfl) rfl rfl) dX13_isDigit_20 ?_
    refine lv_iadd hx hb dX13_isDigit_23 ?_
    refine lv_topi (fun y9 ey9 => ?_)
    obtain ⟨ty9, iy9⟩ := ti_add (e := 0) (f := 3199) i8 i6 ey9 (by decide)
    have ty9 : y9.toInt = (xi (E 0) 19).toInt + (xi (E 0) 21).toInt := ty9
    have iy9 : 0 ≤ y9.toInt ∧ y9.toInt ≤ 3199 := iy9
    have n11 : vp_in y9 nl := (vp_in_iff.mpr ⟨by omega, by omega⟩)
    refine th_bald hx hb hK hP hI k hh0 hh1 rfl n11 dX13_isDigit_24 (fun y10 ey10 => ?_)
    have iy10 : -128 ≤ y10.toInt ∧ y10.toInt ≤ 127 := hI.el k hh0 hh1 n11 hh2 ey10
    refine lv_bipush (v := 48) hx hb dX13_isDigit_25 (by decide) ?_
    refine lv_icmp_lt (tgt := 53) hx hb dX13_isDigit_27 (by decide) (fun c12 => ?_) (fun c12 => ?_)
    · --27 taken
      have t13 : y10.toInt < 48 := ti_lt c12
      have i14 : -128 ≤ y10.toInt ∧ y10.toInt ≤ 47 := iv_lt_l t13 iy10 (il_ 48) (by decide)
      refine lv_iconst (v := 0) hx hb dX13_isDigit_53 (by decide) ?_
      rw [hQ]
      exact W.zret (v := 0) hx hb hr rfl (fun t ht hW => ⟨⟨0, (), rfl, Or.inr (rfl), trivial⟩, hS.F ht⟩) hS.2.2 dX13_isDigit_54
    · --27 not
      have t15 : (48 : Int) ≤ y10.toInt := ti_nlt c12
      have i16 : 48 ≤ y10.toInt ∧ y10.toInt ≤ 127 := iv_le_r t15 (il_ 48) iy10 (by decide)
      refine lv_aload_n hx hb dX13_isDigit_30 rfl (lv_at hl 0 rfl) ?_
      refine th_get (ci := 14) (C := RX13) (T := TX13) (N := 97) (v := .ref (ad k)) hx hb hts hinX13 hown hK hP hI 0 (Nat.le_of_ble_eq_true rfl) rfl rfl 18 (Nat.le_of_ble_eq_true rfl) (hts _ (vA_in _ _ (in_26 _ zs0))) (fun _ h9 => h9) ((hKp 0 18 rfl).trans hh3) dX13_isDigit_31 ?_
      refine lv_aload_n hx hb dX13_isDigit_34 rfl (lv_at hl 0 rfl) ?_
      refine th_get (ci := 14) (C := RX13) (T := TX13) (N := 97) (v := .int (xi (E 0) 19)) hx hb hts hinX13 hown hK hP hI 0 (Nat.le_of_ble_eq_true rfl) rfl rfl 19 (Nat.le_of_ble_eq_true rfl) (hts _ (vA_in _ _ (in_26 _ (zs1 (zs0))))) (fun _ h9 => h9) (th_v0 hKp hI0 0 (Nat.le_of_ble_eq_true rfl) rfl (Nat.le_of_ble_eq_true rfl) rfl rfl) dX13_isDigit_35 ?_
      refine lv_aload_n hx hb dX13_isDigit_38 rfl (lv_at hl 0 rfl) ?_
      refine th_get (ci := 14) (C := RX13) (T := TX13) (N := 97) (v := .int (xi (E 0) 21)) hx hb hts hinX13 hown hK hP hI 0 (Nat.le_of_ble_eq_true rfl) rfl rfl 21 (Nat.le_of_ble_eq_true rfl) (hts _ (vA_in _ _ (in_25 _ (zs16 (zs16 (zs4 (zs0))))))) (fun _ h9 => h9) (th_v0 hKp hI0 0 (Nat.le_of_ble_eq_true rfl) rfl (Nat.le_of_ble_eq_true rfl) rfl rfl) dX13_isDigit_39 ?_
      refine lv_iadd hx hb dX13_isDigit_42 ?_
      refine lv_topi (fun y17 ey17 => ?_)
      obtain ⟨ty17, iy17⟩ := ti_add (e := 0) (f := 3199) i8 i6 ey17 (by decide)
      have ty17 : y17.toInt = (xi (E 0) 19).toInt + (xi (E 0) 21).toInt := ty17
      have iy17 : 0 ≤ y17.toInt ∧ y17.toInt ≤ 3199 := iy17
      have n19 : vp_in y17 nl := (vp_in_iff.mpr ⟨by omega, by omega⟩)
      refine th_bald hx hb hK hP hI k hh0 hh1 rfl n19 dX13_isDigit_43 (fun y18 ey18 => ?_)
      have iy18 : -128 ≤ y18.toInt ∧ y18.toInt ≤ 127 := hI.el k hh0 hh1 n19 hh2 ey18
      refine lv_bipush (v := 57) hx hb dX13_isDigit_44 (by decide) ?_
      refine lv_icmp_gt (tgt := 53) hx hb dX13_isDigit_46 (by decide) (fun c20 => ?_) (fun c20 => ?_)
      · --46 taken
        have t21 : (57 : Int) < y18.toInt := ti_lt c20
        have i22 : 58 ≤ y18.toInt ∧ y18.toInt ≤ 127 := iv_lt_r t21 (il_ 57) iy18 (by decide)
        refine lv_iconst (v := 0) hx hb dX13_isDigit_53 (by decide) ?_
        rw [hQ]
        exact W.zret (v := 0) hx hb hr rfl (fun t ht hW => ⟨⟨0, (), rfl, Or.inr (rfl), trivial⟩, hS.F ht⟩) hS.2.2 dX13_isDigit_54
      · --46 not
        have t23 : y18.toInt ≤ 57 := ti_nlt c20
        have i24 : -128 ≤ y18.toInt ∧ y18.toInt ≤ 57 := iv_le_l t23 iy18 (il_ 57) (by decide)
        refine lv_iconst (v := 1) hx hb dX13_isDigit_49 (by decide) ?_
        refine lv_goto (tgt := 54) hx hb dX13_isDigit_50 (by decide) ?_
        rw [hQ]
        exact W.zret (v := 1) hx hb hr rfl (fun t ht hW => ⟨⟨1, (), rfl, Or.inl ⟨rfl, by have h8 := ln_1; all_goals omega⟩, trivial⟩, hS.F ht⟩) hS.2.2 dX13_isDigit_54
def v_look : List Cond := .code yX13_look cX13_look 1 (some .int) :: vA
abbrev rm_look : Room := { frames := 0, cells := 0, slots := 0, locals := 0 }
def w_look : Nat → Nat → Bool := wl [] [(0, 21)]
set_option maxHeartbeats 4000000 in
set_option maxRecDepth 100000 in
theorem q_look (l : Launch) (dC : Nat → ClassId) (dI : Nat → Nat → Nat) (cT : Nat → ClassId) (ad : Nat → Nat) (E : Nat → va_E) (sz : Nat) (k : Nat) (nl : Nat) (hI0 : IX cT shM spM 72 ad E) (hh0 : k < 72) (hh1 : shM k = (1, 1, nl)) (hh2 : ∀ j, spM k j = (0, -128, 127)) (hh3 : xv (E 0) 18 = .ref (ad k)) (hh4 : (xi (E 0) 19).toInt + 200 ≤ (nl : Int)) : Met l yX13_look v_look rm_look (va_Pc [.ref (ad 0)] (HW dC dI (TYM cT) 72 ad E sz)) (va_Qi (S := Nat → va_E) (fun r u => IX cT shM spM 72 ad u ∧ Kp w_look E u ∧ ((-1 ≤ r.toInt ∧ r.toInt ≤ 255) ∧ ((xi (E 0) 21).toInt ≤ (xi (u 0) 21).toInt) ∧ ((xi (u 0) 21).toInt ≤ (xi (E 0) 21).toInt ∨ (xi (u 0) 21).toInt ≤ (xi (E 0) 20).toInt) ∧ (0 ≤ r.toInt → (xi (u 0) 21).toInt < (xi (E 0) 20).toInt))) (HB dC dI 72 ad) (va_A (WX 72 ad E) sz)) 0 0 (va_A (WX 72 ad E) sz) := by
  refine Met.ofW (cc := cX13_look) (maxL := 1) (ret := (some .int)) (by decide) rfl ?_
  intro p e s m args below meth c s₁ B hml hv
  obtain ⟨hargs, hsz, hP, hK, hD0, hEV⟩ := hv
  subst hsz
  have hx := B.exec
  have hb := B.bytes
  have hr := B.returns
  have hts := atoms_spec (ws := v_look) B.pre
  have hown : s.vm.findClass RX13 = some m.cls := findClass_of_methodNamed B.named
  have hlocks := B.notSynchronized
  have hinX13 : ∀ w ∈ u_ws RX13 TX13 97, w ∈ v_look := fun w h => vA_in _ w (in_X13 w h)
  generalize hAe : va_A (WX 72 ad E) s.heap.size = A at hEV ⊢
  have hA : ∀ q : Nat, s.heap.size ≤ q → A q := fun q h => by rw [← hAe]; exact Or.inr h
  have hD : va_D A (WX 72 ad E) := by rw [← hAe]; exact hD0.self
  have hS : va_S A s.heap s.heap [] := va_S.rf
  have hI := hI0
  have hKp : Kp w_look E E := Kp.rf
  have hl := lv_entry ([.ref (ad 0)]) (n := 1) (Nat.le_of_ble_eq_true rfl)
  obtain ⟨Q, hQ⟩ : ∃ Q, Q = MQ below (va_Qi (S := Nat → va_E) (fun r u => IX cT shM spM 72 ad u ∧ Kp w_look E u ∧ ((-1 ≤ r.toInt ∧ r.toInt ≤ 255) ∧ ((xi (E 0) 21).toInt ≤ (xi (u 0) 21).toInt) ∧ ((xi (u 0) 21).toInt ≤ (xi (E 0) 21).toInt ∨ (xi (u 0) 21).toInt ≤ (xi (E 0) 20).toInt) ∧ (0 ≤ r.toInt → (xi (u 0) 21).toInt < (xi (E 0) 20).toInt))) (HB dC dI 72 ad) (A)) args s 0 0 (A) := ⟨_, rfl⟩
  rw [← hQ, show entryFrame m args 1 = _ from (congrArg (fun z => entryFrame m z 1) hargs).trans (lg_entry_eq _ _ _)]
  generalize (lg_sl ([.ref (ad 0)]) ++ List.replicate (1 - (lg_sl ([.ref (ad 0)])).length) Slot.unset).toArray = ls at hl ⊢
  have hl : lv_has ls 1 [(0, .ref (ad 0))] := hl
  obtain ⟨y1, ey1⟩ : ∃ y, xi (E 0) 21 = y := ⟨_, rfl⟩
  have fy1 : xv (E 0) 21 = .int y1 := (hI.fi 0 (Nat.le_of_ble_eq_true rfl) rfl (Nat.le_of_ble_eq_true rfl) rfl).trans (congrArg Value.int ey1)
  have iy1 : 0 ≤ y1.toInt ∧ y1.toInt ≤ 201 := by rw [← ey1]; exact hI.iv 0 (Nat.le_of_ble_eq_true rfl) rfl (Nat.le_of_ble_eq_true rfl) rfl
  have hL0 : ∀ d : Nat, ∀ (w0_0_21 : Int32) (E0_ : Nat → va_E) (H : Heap) (locs : List Loc) (ls : Array Slot), 0 ≤ w0_0_21.toInt ∧ w0_0_21.toInt ≤ 201 → y1.toInt ≤ w0_0_21.toInt → (w0_0_21.toInt ≤ y1.toInt ∨ w0_0_21.toInt ≤ (xi (E 0) 20).toInt) → 201 - w0_0_21.toInt < (d : Int) → IX cT shM spM 72 ad E0_ → Kp w_look E E0_ → xv (E0_ 0) 21 = .int w0_0_21 → va_P (dC, dI) vwCl (WX 72 ad E0_) H → va_S A s.heap H locs → lv_has ls 1 [(0, .ref (ad 0))] → W p l e (headSpec v_look rm_look).room s m args below meth c H locs 0 0 Q (F0 m 0 ls []) := by
    intro d
    induction d with
    | zero =>
      intro w0_0_21 E0_ H locs ls hw0_0_21 hx0_0 hx0_1 hx0_2 hI hKp hs0_0_21 hP hS hl
      exact absurd hx0_2 (by first | exact ms_zu hw0_0_21.2 | omega)
    | succ d ih0 =>
      intro w0_0_21 E0_ H locs ls hw0_0_21 hx0_0 hx0_1 hx0_2 hI hKp hs0_0_21 hP hS hl
      refine lv_aload_n hx hb dX13_look_0 rfl (lv_at hl 0 rfl) ?_
      refine th_get (ci := 14) (C := RX13) (T := TX13) (N := 97) (v := .int w0_0_21) hx hb hts hinX13 hown hK hP hI 0 (Nat.le_of_ble_eq_true rfl) rfl rfl 21 (Nat.le_of_ble_eq_true rfl) (hts _ (vA_in _ _ (in_25 _ (zs16 (zs16 (zs4 (zs0))))))) (fun _ h9 => h9) hs0_0_21 dX13_look_1 ?_
      refine lv_aload_n hx hb dX13_look_4 rfl (lv_at hl 0 rfl) ?_
      have i2 : 0 ≤ (xi (E 0) 20).toInt ∧ (xi (E 0) 20).toInt ≤ 200 := hI0.iv 0 (Nat.le_of_ble_eq_true rfl) rfl (Nat.le_of_ble_eq_true rfl) rfl
      refine th_get (ci := 14) (C := RX13) (T := TX13) (N := 97) (v := .int (xi (E 0) 20)) hx hb hts hinX13 hown hK hP hI 0 (Nat.le_of_ble_eq_true rfl) rfl rfl 20 (Nat.le_of_ble_eq_true rfl) (hts _ (vA_in _ _ (in_26 _ (zs4 (zs1 (zs1 (zs0))))))) (fun _ h9 => h9) (th_v0 hKp hI0 0 (Nat.le_of_ble_eq_true rfl) rfl (Nat.le_of_ble_eq_true rfl) rfl rfl) dX13_look_5 ?_
      have hJ43 : ∀ (H : Heap) (locs : List Loc) (ls : Array Slot), va_P (dC, dI) vwCl (WX 72 ad E0_) H → va_S A s.heap H locs → lv_has ls 1 [(0, .ref (ad 0))] → W p l e (headSpec v_look rm_look).room s m args below meth c H locs 0 0 Q (F0 m 43 ls []) := by
        intro H locs ls hP hS hl
        refine lv_aload_n hx hb dX13_look_43 rfl (lv_at hl 0 rfl) ?_
        refine th_get (ci := 14) (C := RX13) (T := TX13) (N := 97) (v := .int w0_0_21) hx hb hts hinX13 hown hK hP hI 0 (Nat.le_of_ble_eq_true rfl) rfl rfl 21 (Nat.le_of_ble_eq_true rfl) (hts _ (vA_in _ _ (in_25 _ (zs16 (zs16 (zs4 (zs0))))))) (fun _ h9 => h9) hs0_0_21 dX13_look_44 ?_
        refine lv_aload_n hx hb dX13_look_47 rfl (lv_at hl 0 rfl) ?_
        refine th_get (ci := 14) (C := RX13) (T := TX13) (N := 97) (v := .int (xi (E 0) 20)) hx hb hts hinX13 hown hK hP hI 0 (Nat.le_of_ble_eq_true rfl) rfl rfl 20 (Nat.le_of_ble_eq_true rfl) (hts _ (vA_in _ _ (in_26 _ (zs4 (zs1 (zs1 (zs0))))))) (fun _ h9 => h9) (th_v0 hKp hI0 0 (Nat.le_of_ble_eq_true rfl) rfl (Nat.le_of_ble_eq_true rfl) rfl rfl) dX13_look_48 ?_
        refine lv_icmp_ge (tgt := 75) hx hb dX13_look_51 (by decide) (fun c3 => ?_) (fun c3 => ?_)
        · --51 taken
          have t4 : (xi (E 0) 20).toInt ≤ w0_0_21.toInt := ti_le c3
          refine lv_iconst (v := -1) hx hb dX13_look_75 (by decide) ?_
          rw [hQ]
          exact W.iret (v := (-1)) hx hb hr (fun t ht hW => ⟨⟨(-1), E0_, rfl, ⟨hI, hKp, ⟨(iv_w ln_m1 (by decide)), by (try rw [(show xi (E0_ 0) 21 = w0_0_21 from vi_e hs0_0_21)]); (try rw [ey1]); first | done | exact hx0_0 | have h8 := ln_m1; all_goals omega, by have h8 := ln_m1; (try rw [(show xi (E0_ 0) 21 = w0_0_21 from vi_e hs0_0_21)]); (try rw [ey1]); all_goals omega, by have h8 := ln_m1; (try rw [(show xi (E0_ 0) 21 = w0_0_21 from vi_e hs0_0_21)]); (try rw [ey1]); all_goals omega⟩⟩, by show va_P (dC, dI) vwCl (WX 72 ad E0_) t.heap; rw [ht]; exact hP⟩, hS.F ht⟩) hS.2.2 dX13_look_76
        · --51 not
          have t5 : w0_0_21.toInt < (xi (E 0) 20).toInt := ti_nle c3
          have i6 : 0 ≤ w0_0_21.toInt ∧ w0_0_21.toInt ≤ 199 := iv_lt_l t5 hw0_0_21 i2 (by decide)
          have i7 : 1 ≤ (xi (E 0) 20).toInt ∧ (xi (E 0) 20).toInt ≤ 200 := iv_lt_r t5 hw0_0_21 i2 (by decide)
          refine lv_aload_n hx hb dX13_look_54 rfl (lv_at hl 0 rfl) ?_
          refine th_get (ci := 14) (C := RX13) (T := TX13) (N := 97) (v := .ref (ad k)) hx hb hts hinX13 hown hK hP hI 0 (Nat.le_of_ble_eq_true rfl) rfl rfl 18 (Nat.le_of_ble_eq_true rfl) (hts _ (vA_in _ _ (in_26 _ zs0))) (fun _ h9 => h9) ((hKp 0 18 rfl).trans hh3) dX13_look_55 ?_
          refine lv_aload_n hx hb dX13_look_58 rfl (lv_at hl 0 rfl) ?_
          have i8 : 0 ≤ (xi (E 0) 19).toInt ∧ (xi (E 0) 19).toInt ≤ 3000 := hI0.iv 0 (Nat.le_of_ble_eq_true rfl) rfl (Nat.le_of_ble_eq_true rfl) rfl
          refine th_get (ci := 14) (C := RX13) (T := TX13) (N := 97) (v := .int (xi (E 0) 19)) hx hb hts hinX13 hown hK hP hI 0 (Nat.le_of_ble_eq_true rfl) rfl rfl 19 (Nat.le_of_ble_eq_true rfl) (hts _ (vA_in _ _ (in_26 _ (zs1 (zs0))))) (fun _ h9 => h9) (th_v0 hKp hI0 0 (Nat.le_of_ble_eq_true rfl) rfl (Nat.le_of_ble_eq_true rfl) rfl rfl) dX13_look_59 ?_
          refine lv_aload_n hx hb dX13_look_62 rfl (lv_at hl 0 rfl) ?_
          refine th_get (ci := 14) (C := RX13) (T := TX13) (N := 97) (v := .int w0_0_21) hx hb hts hinX13 hown hK hP hI 0 (Nat.le_of_ble_eq_true rfl) rfl rfl 21 (Nat.le_of_ble_eq_true rfl) (hts _ (vA_in _ _ (in_25 _ (zs16 (zs16 (zs4 (zs0))))))) (fun _ h9 => h9) hs0_0_21 dX13_look_63 ?_
          refine lv_iadd hx hb dX13_look_66 ?_
          refine lv_topi (fun y9 ey9 => ?_)
          obtain ⟨ty9, iy9⟩ := ti_add (e := 0) (f := 3199) i8 i6 ey9 (by decide)
          have ty9 : y9.toInt = (xi (E 0) 19).toInt + w0_0_21.toInt := ty9
          have iy9 : 0 ≤ y9.toInt ∧ y9.toInt ≤ 3199 := iy9
          have n11 : vp_in y9 nl := (vp_in_iff.mpr ⟨by omega, by omega⟩)
          refine th_bald hx hb hK hP hI k hh0 hh1 rfl n11 dX13_look_67 (fun y10 ey10 => ?_)
          have iy10 : -128 ≤ y10.toInt ∧ y10.toInt ≤ 127 := hI.el k hh0 hh1 n11 hh2 ey10
          refine lv_sipush (v := 255) hx hb dX13_look_68 (by decide) ?_
          refine lv_iand hx hb dX13_look_71 ?_
          refine lv_topi (fun y12 ey12 => ?_)
          have iy12 : 0 ≤ y12.toInt ∧ y12.toInt ≤ 255 := ti_and (by decide) ey12
          refine lv_goto (tgt := 76) hx hb dX13_look_72 (by decide) ?_
          rw [hQ]
          exact W.iret (v := y12) hx hb hr (fun t ht hW => ⟨⟨y12, E0_, rfl, ⟨hI, hKp, ⟨(iv_w iy12 (by decide)), by (try rw [(show xi (E0_ 0) 21 = w0_0_21 from vi_e hs0_0_21)]); (try rw [ey1]); first | done | exact hx0_0 | all_goals omega, by (try rw [(show xi (E0_ 0) 21 = w0_0_21 from vi_e hs0_0_21)]); (try rw [ey1]); all_goals omega, by (try rw [(show xi (E0_ 0) 21 = w0_0_21 from vi_e hs0_0_21)]); (try rw [ey1]); all_goals omega⟩⟩, by show va_P (dC, dI) vwCl (WX 72 ad E0_) t.heap; rw [ht]; exact hP⟩, hS.F ht⟩) hS.2.2 dX13_look_76
      refine lv_icmp_ge (tgt := 43) hx hb dX13_look_8 (by decide) (fun c13 => ?_) (fun c13 => ?_)
      · --8 taken
        have t14 : (xi (E 0) 20).toInt ≤ w0_0_21.toInt := ti_le c13
        exact hJ43 _ _ _ hP hS (lv_sub hl [0] rfl)
      · --8 not
        have t15 : w0_0_21.toInt < (xi (E 0) 20).toInt := ti_nle c13
        have i16 : 0 ≤ w0_0_21.toInt ∧ w0_0_21.toInt ≤ 199 := iv_lt_l t15 hw0_0_21 i2 (by decide)
        have i17 : 1 ≤ (xi (E 0) 20).toInt ∧ (xi (E 0) 20).toInt ≤ 200 := iv_lt_r t15 hw0_0_21 i2 (by decide)
        refine lv_aload_n hx hb dX13_look_11 rfl (lv_at hl 0 rfl) ?_
        refine th_get (ci := 14) (C := RX13) (T := TX13) (N := 97) (v := .ref (ad k)) hx hb hts hinX13 hown hK hP hI 0 (Nat.le_of_ble_eq_true rfl) rfl rfl 18 (Nat.le_of_ble_eq_true rfl) (hts _ (vA_in _ _ (in_26 _ zs0))) (fun _ h9 => h9) ((hKp 0 18 rfl).trans hh3) dX13_look_12 ?_
        refine lv_aload_n hx hb dX13_look_15 rfl (lv_at hl 0 rfl) ?_
        have i18 : 0 ≤ (xi (E 0) 19).toInt ∧ (xi (E 0) 19).toInt ≤ 3000 := hI0.iv 0 (Nat.le_of_ble_eq_true rfl) rfl (Nat.le_of_ble_eq_true rfl) rfl
        refine th_get (ci := 14) (C := RX13) (T := TX13) (N := 97) (v := .int (xi (E 0) 19)) hx hb hts hinX13 hown hK hP hI 0 (Nat.le_of_ble_eq_true rfl) rfl rfl 19 (Nat.le_of_ble_eq_true rfl) (hts _ (vA_in _ _ (in_26 _ (zs1 (zs0))))) (fun _ h9 => h9) (th_v0 hKp hI0 0 (Nat.le_of_ble_eq_true rfl) rfl (Nat.le_of_ble_eq_true rfl) rfl rfl) dX13_look_16 ?_
        refine lv_aload_n hx hb dX13_look_19 rfl (lv_at hl 0 rfl) ?_
        refine th_get (ci := 14) (C := RX13) (T := TX13) (N := 97) (v := .int w0_0_21) hx hb hts hinX13 hown hK hP hI 0 (Nat.le_of_ble_eq_true rfl) rfl rfl 21 (Nat.le_of_ble_eq_true rfl) (hts _ (vA_in _ _ (in_25 _ (zs16 (zs16 (zs4 (zs0))))))) (fun _ h9 => h9) hs0_0_21 dX13_look_20 ?_
        refine lv_iadd hx hb dX13_look_23 ?_
        refine lv_topi (fun y19 ey19 => ?_)
        obtain ⟨ty19, iy19⟩ := ti_add (e := 0) (f := 3199) i18 i16 ey19 (by decide)
        have ty19 : y19.toInt = (xi (E 0) 19).toInt + w0_0_21.toInt := ty19
        have iy19 : 0 ≤ y19.toInt ∧ y19.toInt ≤ 3199 := iy19
        have n21 : vp_in y19 nl := (vp_in_iff.mpr ⟨by omega, by omega⟩)
        refine th_bald hx hb hK hP hI k hh0 hh1 rfl n21 dX13_look_24 (fun y20 ey20 => ?_)
        have iy20 : -128 ≤ y20.toInt ∧ y20.toInt ≤ 127 := hI.el k hh0 hh1 n21 hh2 ey20
        refine lv_bipush (v := 32) hx hb dX13_look_25 (by decide) ?_
        refine lv_icmp_ne (tgt := 43) hx hb dX13_look_27 (by decide) (fun c22 => ?_) (fun c22 => ?_)
        · --27 taken
          have t23 : ¬ y20.toInt = 32 := ti_ne c22
          exact hJ43 _ _ _ hP hS (lv_sub hl [0] rfl)
        · --27 not
          have t24 : y20.toInt = 32 := ti_eq c22
          have i25 : 32 ≤ y20.toInt ∧ y20.toInt ≤ 32 := iv_eqi t24 iy20 (il_ 32) (by decide)
          refine lv_aload_n hx hb dX13_look_30 rfl (lv_at hl 0 rfl) ?_
          refine lv_dup hx hb dX13_look_31 rfl ?_
          refine th_get (ci := 14) (C := RX13) (T := TX13) (N := 97) (v := .int w0_0_21) hx hb hts hinX13 hown hK hP hI 0 (Nat.le_of_ble_eq_true rfl) rfl rfl 21 (Nat.le_of_ble_eq_true rfl) (hts _ (vA_in _ _ (in_25 _ (zs16 (zs16 (zs4 (zs0))))))) (fun _ h9 => h9) hs0_0_21 dX13_look_32 ?_
          refine lv_iconst (v := 1) hx hb dX13_look_35 (by decide) ?_
          refine lv_iadd hx hb dX13_look_36 ?_
          refine lv_topi (fun y26 ey26 => ?_)
          obtain ⟨ty26, iy26⟩ := ti_add (e := 1) (f := 200) i16 ln_1 ey26 (by decide)
          have ty26 : y26.toInt = w0_0_21.toInt + 1 := ty26
          have iy26 : 1 ≤ y26.toInt ∧ y26.toInt ≤ 200 := iy26
          refine th_put (ci := 14) (C := RX13) (T := TX13) (N := 97) (v := .int y26) (ty := .int) hx hb hts hinX13 tyX13 tyX13_ok nmX13 hown hK hP (WX_D hD) hS hI 0 (Nat.le_of_ble_eq_true rfl) rfl rfl 21 (Nat.le_of_ble_eq_true rfl) (hts _ (vA_in _ _ (in_25 _ (zs16 (zs16 (zs4 (zs0))))))) (fun _ h9 => h9) rfl (by decide +kernel) rfl rfl (okI rfl (iv_w iy26 (by decide))) dX13_look_37 (fun H locs E27 pw28 hI hP hS => ?_)
          have hKp := hKp.pw pw28 rfl
          refine lv_goto (tgt := 0) hx hb dX13_look_40 (by decide) ?_
          exact ih0 y26 E27 _ _ _ (iv_w iy26 (by decide)) (by omega) (by omega) (by omega) hI hKp pw28.1 hP hS (lv_sub hl [0] rfl)
  exact hL0 (202) y1 E _ _ _ iy1 (by omega) (by omega) (by have h9 := iy1; first | exact ms_bu h9.1 (by decide) | omega) hI hKp fy1 hP hS (lv_sub hl [0] rfl)
def v_stop : List Cond := .code yX13_stop cX13_stop 1 (some .boolean) :: vA
abbrev rm_stop : Room := { frames := 0, cells := 0, slots := 0, locals := 0 }
def w_stop : Nat → Nat → Bool := wl [] [(0, 22)]
set_option maxHeartbeats 4000000 in
set_option maxRecDepth 100000 in
theorem q_stop (l : Launch) (dC : Nat → ClassId) (dI : Nat → Nat → Nat) (cT : Nat → ClassId) (ad : Nat → Nat) (E : Nat → va_E) (sz : Nat)  (hI0 : IX cT shM spM 72 ad E)  : Met l yX13_stop v_stop rm_stop (va_Pc [.ref (ad 0)] (HW dC dI (TYM cT) 72 ad E sz)) (va_Qi (S := Nat → va_E) (fun r u => IX cT shM spM 72 ad u ∧ Kp w_stop E u ∧ (r = 0 ∧ (¬ (xi (u 0) 22).toInt = -1))) (HB dC dI 72 ad) (va_A (WX 72 ad E) sz)) 0 0 (va_A (WX 72 ad E) sz) := by
  refine Met.ofW (cc := cX13_stop) (maxL := 1) (ret := (some .boolean)) (by decide) rfl ?_
  intro p e s m args below meth c s₁ B hml hv
  obtain ⟨hargs, hsz, hP, hK, hD0, hEV⟩ := hv
  subst hsz
  have hx := B.exec
  have hb := B.bytes
  have hr := B.returns
  have hts := atoms_spec (ws := v_stop) B.pre
  have hown : s.vm.findClass RX13 = some m.cls := findClass_of_methodNamed B.named
  have hlocks := B.notSynchronized
  have hinX13 : ∀ w ∈ u_ws RX13 TX13 97, w ∈ v_stop := fun w h => vA_in _ w (in_X13 w h)
  generalize hAe : va_A (WX 72 ad E) s.heap.size = A at hEV ⊢
  have hA : ∀ q : Nat, s.heap.size ≤ q → A q := fun q h => by rw [← hAe]; exact Or.inr h
  have hD : va_D A (WX 72 ad E) := by rw [← hAe]; exact hD0.self
  have hS : va_S A s.heap s.heap [] := va_S.rf
  have hI := hI0
  have hKp : Kp w_stop E E := Kp.rf
  have hl := lv_entry ([.ref (ad 0)]) (n := 1) (Nat.le_of_ble_eq_true rfl)
  obtain ⟨Q, hQ⟩ : ∃ Q, Q = MQ below (va_Qi (S := Nat → va_E) (fun r u => IX cT shM spM 72 ad u ∧ Kp w_stop E u ∧ (r = 0 ∧ (¬ (xi (u 0) 22).toInt = -1))) (HB dC dI 72 ad) (A)) args s 0 0 (A) := ⟨_, rfl⟩
  rw [← hQ, show entryFrame m args 1 = _ from (congrArg (fun z => entryFrame m z 1) hargs).trans (lg_entry_eq _ _ _)]
  generalize (lg_sl ([.ref (ad 0)]) ++ List.replicate (1 - (lg_sl ([.ref (ad 0)])).length) Slot.unset).toArray = ls at hl ⊢
  have hl : lv_has ls 1 [(0, .ref (ad 0))] := hl
  have i1 : 0 ≤ (xi (E 0) 21).toInt ∧ (xi (E 0) 21).toInt ≤ 201 := (show 0 ≤ (xi (E 0) 21).toInt ∧ (xi (E 0) 21).toInt ≤ 201 from hI0.iv 0 (Nat.le_of_ble_eq_true rfl) rfl (Nat.le_of_ble_eq_true rfl) rfl)
  obtain ⟨y2, ey2⟩ : ∃ y, xi (E 0) 22 = y := ⟨_, rfl⟩
  have fy2 : xv (E 0) 22 = .int y2 := (hI.fi 0 (Nat.le_of_ble_eq_true rfl) rfl (Nat.le_of_ble_eq_true rfl) rfl).trans (congrArg Value.int ey2)
  have iy2 : -1 ≤ y2.toInt ∧ y2.toInt ≤ 201 := by rw [← ey2]; exact hI.iv 0 (Nat.le_of_ble_eq_true rfl) rfl (Nat.le_of_ble_eq_true rfl) rfl
  refine lv_aload_n hx hb dX13_stop_0 rfl (lv_at hl 0 rfl) ?_
  refine th_get (ci := 14) (C := RX13) (T := TX13) (N := 97) (v := .int y2) hx hb hts hinX13 hown hK hP hI 0 (Nat.le_of_ble_eq_true rfl) rfl rfl 22 (Nat.le_of_ble_eq_true rfl) (hts _ (vA_in _ _ (in_25 _ (zs16 (zs16 (zs4 (zs1 (zs1 (zs1 (zs0)))))))))) (fun _ h9 => h9) fy2 dX13_stop_1 ?_
  refine lv_iconst (v := -1) hx hb dX13_stop_4 (by decide) ?_
  refine lv_icmp_ne (tgt := 16) hx hb dX13_stop_5 (by decide) (fun c3 => ?_) (fun c3 => ?_)
  · --5 taken
    have t4 : ¬ y2.toInt = -1 := ti_ne c3
    have i5 : 0 ≤ y2.toInt ∧ y2.toInt ≤ 201 := iv_ne_l t4 iy2 (il_ (-1))
    refine lv_iconst (v := 0) hx hb dX13_stop_16 (by decide) ?_
    rw [hQ]
    exact W.zret (v := 0) hx hb hr rfl (fun t ht hW => ⟨⟨0, E, rfl, ⟨hI, hKp, ⟨rfl, by have h8 := ln_0; (try rw [(show xi (E 0) 22 = y2 from vi_e fy2)]); (try rw [ey2]); all_goals omega⟩⟩, by show va_P (dC, dI) vwCl (WX 72 ad E) t.heap; rw [ht]; exact hP⟩, hS.F ht⟩) hS.2.2 dX13_stop_17
  · --5 not
    have t6 : y2.toInt = -1 := ti_eq c3
    have i7 : -1 ≤ y2.toInt ∧ y2.toInt ≤ -1 := iv_eqi t6 iy2 (il_ (-1)) (by decide)
    refine lv_aload_n hx hb dX13_stop_8 rfl (lv_at hl 0 rfl) ?_
    refine lv_aload_n hx hb dX13_stop_9 rfl (lv_at hl 0 rfl) ?_
    refine th_get (ci := 14) (C := RX13) (T := TX13) (N := 97) (v := .int (xi (E 0) 21)) hx hb hts hinX13 hown hK hP hI 0 (Nat.le_of_ble_eq_true rfl) rfl rfl 21 (Nat.le_of_ble_eq_true rfl) (hts _ (vA_in _ _ (in_25 _ (zs16 (zs16 (zs4 (zs0))))))) (fun _ h9 => h9) (th_v0 hKp hI0 0 (Nat.le_of_ble_eq_true rfl) rfl (Nat.le_of_ble_eq_true rfl) rfl rfl) dX13_stop_10 ?_
    refine th_put (ci := 14) (C := RX13) (T := TX13) (N := 97) (v := .int (xi (E 0) 21)) (ty := .int) hx hb hts hinX13 tyX13 tyX13_ok nmX13 hown hK hP (WX_D hD) hS hI 0 (Nat.le_of_ble_eq_true rfl) rfl rfl 22 (Nat.le_of_ble_eq_true rfl) (hts _ (vA_in _ _ (in_25 _ (zs16 (zs16 (zs4 (zs1 (zs1 (zs1 (zs0)))))))))) (fun _ h9 => h9) rfl (by decide +kernel) rfl rfl (okI rfl (iv_w i1 (by decide))) dX13_stop_13 (fun H locs E8 pw9 hI hP hS => ?_)
    have hKp := hKp.pw pw9 rfl
    refine lv_iconst (v := 0) hx hb dX13_stop_16 (by decide) ?_
    rw [hQ]
    exact W.zret (v := 0) hx hb hr rfl (fun t ht hW => ⟨⟨0, E8, rfl, ⟨hI, hKp, ⟨rfl, by have h8 := ln_0; (try rw [(show xi (E8 0) 22 = (xi (E 0) 21) from vi_e pw9.1)]); (try rw [ey2]); all_goals omega⟩⟩, by show va_P (dC, dI) vwCl (WX 72 ad E8) t.heap; rw [ht]; exact hP⟩, hS.F ht⟩) hS.2.2 dX13_stop_17
def v_goesIn : List Cond := .code yX13_goesIn cX13_goesIn 1 (some .boolean) :: vA
abbrev rm_goesIn : Room := { frames := 1, cells := 0, slots := 0, locals := 40 }
def w_goesIn : Nat → Nat → Bool := wl [] [(0, 21), (0, 22), (0, 23)]
set_option maxHeartbeats 4000000 in
set_option maxRecDepth 100000 in
theorem q_goesIn (l : Launch) (dC : Nat → ClassId) (dI : Nat → Nat → Nat) (cT : Nat → ClassId) (ad : Nat → Nat) (E : Nat → va_E) (sz : Nat)  (hI0 : IX cT shM spM 72 ad E) (hh0 : (xi (E 0) 21).toInt < 200) : Met l yX13_goesIn v_goesIn rm_goesIn (va_Pc [.ref (ad 0)] (HW dC dI (TYM cT) 72 ad E sz)) (va_Qi (S := Nat → va_E) (fun r u => IX cT shM spM 72 ad u ∧ Kp w_goesIn E u ∧ ((r = 1 ∧ ((xi (u 0) 21).toInt = (xi (E 0) 21).toInt + 1) ∧ ((xi (u 0) 23).toInt = (xi (E 0) 23).toInt + 1) ∧ ((xi (u 0) 22).toInt = (xi (E 0) 22).toInt) ∧ ((xi (E 0) 23).toInt < 8)) ∨ (r = 0 ∧ ((xi (u 0) 21).toInt = (xi (E 0) 21).toInt) ∧ ((xi (u 0) 23).toInt = (xi (E 0) 23).toInt) ∧ (¬ (xi (u 0) 22).toInt = -1)))) (HB dC dI 72 ad) (va_A (WX 72 ad E) sz)) 0 0 (va_A (WX 72 ad E) sz) := by
  refine Met.ofW (cc := cX13_goesIn) (maxL := 1) (ret := (some .boolean)) (by decide) rfl ?_
  intro p e s m args below meth c s₁ B hml hv
  obtain ⟨hargs, hsz, hP, hK, hD0, hEV⟩ := hv
  subst hsz
  have hx := B.exec
  have hb := B.bytes
  have hr := B.returns
  have hts := atoms_spec (ws := v_goesIn) B.pre
  have hown : s.vm.findClass RX13 = some m.cls := findClass_of_methodNamed B.named
  have hlocks := B.notSynchronized
  have hinX13 : ∀ w ∈ u_ws RX13 TX13 97, w ∈ v_goesIn := fun w h => vA_in _ w (in_X13 w h)
  generalize hAe : va_A (WX 72 ad E) s.heap.size = A at hEV ⊢
  have hA : ∀ q : Nat, s.heap.size ≤ q → A q := fun q h => by rw [← hAe]; exact Or.inr h
  have hD : va_D A (WX 72 ad E) := by rw [← hAe]; exact hD0.self
  have hS : va_S A s.heap s.heap [] := va_S.rf
  have hI := hI0
  have hKp : Kp w_goesIn E E := Kp.rf
  have hl := lv_entry ([.ref (ad 0)]) (n := 1) (Nat.le_of_ble_eq_true rfl)
  obtain ⟨Q, hQ⟩ : ∃ Q, Q = MQ below (va_Qi (S := Nat → va_E) (fun r u => IX cT shM spM 72 ad u ∧ Kp w_goesIn E u ∧ ((r = 1 ∧ ((xi (u 0) 21).toInt = (xi (E 0) 21).toInt + 1) ∧ ((xi (u 0) 23).toInt = (xi (E 0) 23).toInt + 1) ∧ ((xi (u 0) 22).toInt = (xi (E 0) 22).toInt) ∧ ((xi (E 0) 23).toInt < 8)) ∨ (r = 0 ∧ ((xi (u 0) 21).toInt = (xi (E 0) 21).toInt) ∧ ((xi (u 0) 23).toInt = (xi (E 0) 23).toInt) ∧ (¬ (xi (u 0) 22).toInt = -1)))) (HB dC dI 72 ad) (A)) args s 0 0 (A) := ⟨_, rfl⟩
  rw [← hQ, show entryFrame m args 1 = _ from (congrArg (fun z => entryFrame m z 1) hargs).trans (lg_entry_eq _ _ _)]
  generalize (lg_sl ([.ref (ad 0)]) ++ List.replicate (1 - (lg_sl ([.ref (ad 0)])).length) Slot.unset).toArray = ls at hl ⊢
  have hl : lv_has ls 1 [(0, .ref (ad 0))] := hl
  obtain ⟨y1, ey1⟩ : ∃ y, xi (E 0) 21 = y := ⟨_, rfl⟩
  have fy1 : xv (E 0) 21 = .int y1 := (hI.fi 0 (Nat.le_of_ble_eq_true rfl) rfl (Nat.le_of_ble_eq_true rfl) rfl).trans (congrArg Value.int ey1)
  have iy1 : 0 ≤ y1.toInt ∧ y1.toInt ≤ 201 := by rw [← ey1]; exact hI.iv 0 (Nat.le_of_ble_eq_true rfl) rfl (Nat.le_of_ble_eq_true rfl) rfl
  rw [ey1] at hh0
  obtain ⟨y2, ey2⟩ : ∃ y, xi (E 0) 22 = y := ⟨_, rfl⟩
  have fy2 : xv (E 0) 22 = .int y2 := (hI.fi 0 (Nat.le_of_ble_eq_true rfl) rfl (Nat.le_of_ble_eq_true rfl) rfl).trans (congrArg Value.int ey2)
  have iy2 : -1 ≤ y2.toInt ∧ y2.toInt ≤ 201 := by rw [← ey2]; exact hI.iv 0 (Nat.le_of_ble_eq_true rfl) rfl (Nat.le_of_ble_eq_true rfl) rfl
  obtain ⟨y3, ey3⟩ : ∃ y, xi (E 0) 23 = y := ⟨_, rfl⟩
  have fy3 : xv (E 0) 23 = .int y3 := (hI.fi 0 (Nat.le_of_ble_eq_true rfl) rfl (Nat.le_of_ble_eq_true rfl) rfl).trans (congrArg Value.int ey3)
  have iy3 : 0 ≤ y3.toInt ∧ y3.toInt ≤ 8 := by rw [← ey3]; exact hI.iv 0 (Nat.le_of_ble_eq_true rfl) rfl (Nat.le_of_ble_eq_true rfl) rfl
  refine lv_aload_n hx hb dX13_goesIn_0 rfl (lv_at hl 0 rfl) ?_
  refine th_get (ci := 14) (C := RX13) (T := TX13) (N := 97) (v := .int y3) hx hb hts hinX13 hown hK hP hI 0 (Nat.le_of_ble_eq_true rfl) rfl rfl 23 (Nat.le_of_ble_eq_true rfl) (hts _ (vA_in _ _ (in_25 _ (zs16 (zs16 (zs4 (zs1 (zs1 (zs0))))))))) (fun _ h9 => h9) fy3 dX13_goesIn_1 ?_
  refine lv_bipush (v := 8) hx hb dX13_goesIn_4 (by decide) ?_
  refine lv_icmp_ne (tgt := 14) hx hb dX13_goesIn_6 (by decide) (fun c4 => ?_) (fun c4 => ?_)
  · --6 taken
    have t5 : ¬ y3.toInt = 8 := ti_ne c4
    have i6 : 0 ≤ y3.toInt ∧ y3.toInt ≤ 7 := iv_ne_r t5 iy3 (il_ 8)
    refine lv_aload_n hx hb dX13_goesIn_14 rfl (lv_at hl 0 rfl) ?_
    refine lv_dup hx hb dX13_goesIn_15 rfl ?_
    refine th_get (ci := 14) (C := RX13) (T := TX13) (N := 97) (v := .int y3) hx hb hts hinX13 hown hK hP hI 0 (Nat.le_of_ble_eq_true rfl) rfl rfl 23 (Nat.le_of_ble_eq_true rfl) (hts _ (vA_in _ _ (in_25 _ (zs16 (zs16 (zs4 (zs1 (zs1 (zs0))))))))) (fun _ h9 => h9) fy3 dX13_goesIn_16 ?_
    refine lv_iconst (v := 1) hx hb dX13_goesIn_19 (by decide) ?_
    refine lv_iadd hx hb dX13_goesIn_20 ?_
    refine lv_topi (fun y7 ey7 => ?_)
    obtain ⟨ty7, iy7⟩ := ti_add (e := 1) (f := 8) i6 ln_1 ey7 (by decide)
    have ty7 : y7.toInt = y3.toInt + 1 := ty7
    have iy7 : 1 ≤ y7.toInt ∧ y7.toInt ≤ 8 := iy7
    refine th_put (ci := 14) (C := RX13) (T := TX13) (N := 97) (v := .int y7) (ty := .int) hx hb hts hinX13 tyX13 tyX13_ok nmX13 hown hK hP (WX_D hD) hS hI 0 (Nat.le_of_ble_eq_true rfl) rfl rfl 23 (Nat.le_of_ble_eq_true rfl) (hts _ (vA_in _ _ (in_25 _ (zs16 (zs16 (zs4 (zs1 (zs1 (zs0))))))))) (fun _ h9 => h9) rfl (by decide +kernel) rfl rfl (okI rfl (iv_w iy7 (by decide))) dX13_goesIn_21 (fun H locs E8 pw9 hI hP hS => ?_)
    have hKp := hKp.pw pw9 rfl
    refine lv_aload_n hx hb dX13_goesIn_24 rfl (lv_at hl 0 rfl) ?_
    refine lv_dup hx hb dX13_goesIn_25 rfl ?_
    refine th_get (ci := 14) (C := RX13) (T := TX13) (N := 97) (v := .int y1) hx hb hts hinX13 hown hK hP hI 0 (Nat.le_of_ble_eq_true rfl) rfl rfl 21 (Nat.le_of_ble_eq_true rfl) (hts _ (vA_in _ _ (in_25 _ (zs16 (zs16 (zs4 (zs0))))))) (fun _ h9 => h9) ((pw9.2 0 21 (fun q9 => absurd q9.2 (Nat.ne_of_beq_eq_false rfl))).trans fy1) dX13_goesIn_26 ?_
    refine lv_iconst (v := 1) hx hb dX13_goesIn_29 (by decide) ?_
    refine lv_iadd hx hb dX13_goesIn_30 ?_
    refine lv_topi (fun y10 ey10 => ?_)
    obtain ⟨ty10, iy10⟩ := ti_add (e := 1) (f := 202) iy1 ln_1 ey10 (by decide)
    have ty10 : y10.toInt = y1.toInt + 1 := ty10
    have iy10 : 1 ≤ y10.toInt ∧ y10.toInt ≤ 202 := iy10
    have i11 : 1 ≤ y10.toInt ∧ y10.toInt ≤ 201 := by omega
    refine th_put (ci := 14) (C := RX13) (T := TX13) (N := 97) (v := .int y10) (ty := .int) hx hb hts hinX13 tyX13 tyX13_ok nmX13 hown hK hP (WX_D hD) hS hI 0 (Nat.le_of_ble_eq_true rfl) rfl rfl 21 (Nat.le_of_ble_eq_true rfl) (hts _ (vA_in _ _ (in_25 _ (zs16 (zs16 (zs4 (zs0))))))) (fun _ h9 => h9) rfl (by decide +kernel) rfl rfl (okI rfl (iv_w i11 (by decide))) dX13_goesIn_31 (fun H locs E12 pw13 hI hP hS => ?_)
    have hKp := hKp.pw pw13 rfl
    refine lv_iconst (v := 1) hx hb dX13_goesIn_34 (by decide) ?_
    rw [hQ]
    exact W.zret (v := 1) hx hb hr rfl (fun t ht hW => ⟨⟨1, E12, rfl, ⟨hI, hKp, Or.inl ⟨rfl, by have h8 := ln_1; (try rw [(show xi (E12 0) 21 = y10 from vi_e pw13.1)]); (try rw [ey1]); (try rw [ey2]); (try rw [ey3]); all_goals omega, by have h8 := ln_1; (try rw [(show xi (E12 0) 23 = y7 from vi_e ((pw13.2 0 23 (fun q9 => absurd q9.2 (Nat.ne_of_beq_eq_false rfl))).trans pw9.1))]); (try rw [ey1]); (try rw [ey2]); (try rw [ey3]); all_goals omega, by have h8 := ln_1; (try rw [(show xi (E12 0) 22 = y2 from vi_e ((pw13.2 0 22 (fun q9 => absurd q9.2 (Nat.ne_of_beq_eq_false rfl))).trans ((pw9.2 0 22 (fun q9 => absurd q9.2 (Nat.ne_of_beq_eq_false rfl))).trans fy2)))]); (try rw [ey1]); (try rw [ey2]); (try rw [ey3]); all_goals omega, by have h8 := ln_1; (try rw [(show xi (E12 0) 23 = y7 from vi_e ((pw13.2 0 23 (fun q9 => absurd q9.2 (Nat.ne_of_beq_eq_false rfl))).trans pw9.1))]); (try rw [ey1]); (try rw [ey2]); (try rw [ey3]); all_goals omega⟩⟩, by show va_P (dC, dI) vwCl (WX 72 ad E12) t.heap; rw [ht]; exact hP⟩, hS.F ht⟩) hS.2.2 dX13_goesIn_35
  · --6 not
    have t14 : y3.toInt = 8 := ti_eq c4
    have i15 : 8 ≤ y3.toInt ∧ y3.toInt ≤ 8 := iv_eqi t14 iy3 (il_ 8) (by decide)
    refine lv_aload_n hx hb dX13_goesIn_9 rfl (lv_at hl 0 rfl) ?_
    refine th_i (va_runV (As := []) (rest := []) ⟨hx, hb, hml, hown, hts⟩ (q_stop l dC dI cT ad E s.heap.size hI) (cwV 0 hts (gi_V (in_26 _ (zs4 (zs4 (zs4 (zs0))))) (in_26 _ (zs4 (zs4 (zs4 (zs1 (zs0)))))) (in_26 _ (zs4 (zs4 (zs4 (zs1 (zs1 (zs0))))))) (in_24 _ (zs4 (zs4 (zs4 (zs1 (zs1 (zs1 (zs0)))))))) (in_26 _ (zs4 (zs4 (zs4 (zs1 (zs1 (zs1 (zs0))))))))) rfl rfl rfl ⟨rfl, hz_yX13_stop_0⟩ ⟨Nat.le_of_ble_eq_true rfl, Nat.le_of_ble_eq_true rfl⟩) ⟨HW_bl, va_recv hK hP (ci := 14) (q0 := 0) rfl (hI.ob 0 (Nat.le_of_ble_eq_true rfl) rfl), (HW_wi hP hK (WX_D hD) hS hA hEV)⟩ rfl rfl hl.1 rfl (lv_room (Nat.le_of_ble_eq_true rfl)) dX13_goesIn_10 ⟨Nat.le_of_ble_eq_true rfl, Nat.le_of_ble_eq_true rfl⟩) (WX_D hD) hS hA (fun r16 E17 H locs hw hP hS => ?_)
    obtain ⟨hI, kq18, hw⟩ := hw
    have hKb := hKp
    have hKp := hKp.tr kq18 (wl_sub rfl rfl)
    obtain ⟨y19, ey19⟩ : ∃ y, xi (E17 0) 22 = y := ⟨_, rfl⟩
    have fy19 : xv (E17 0) 22 = .int y19 := (hI.fi 0 (Nat.le_of_ble_eq_true rfl) rfl (Nat.le_of_ble_eq_true rfl) rfl).trans (congrArg Value.int ey19)
    have iy19 : -1 ≤ y19.toInt ∧ y19.toInt ≤ 201 := by rw [← ey19]; exact hI.iv 0 (Nat.le_of_ble_eq_true rfl) rfl (Nat.le_of_ble_eq_true rfl) rfl
    obtain ⟨rfl, f20⟩ := hw
    try rw [(show xi (E 0) 22 = y2 from vi_e fy2)] at f20
    try rw [(show xi (E17 0) 22 = y19 from vi_e fy19)] at f20
    rw [hQ]
    exact W.zret (v := 0) hx hb hr rfl (fun t ht hW => ⟨⟨0, E17, rfl, ⟨hI, hKp, Or.inr (⟨rfl, by have h8 := ln_0; (try rw [(show xi (E17 0) 21 = y1 from vi_e ((kq18 0 21 rfl).trans fy1))]); (try rw [ey1]); (try rw [ey2]); (try rw [ey3]); all_goals omega, by have h8 := ln_0; (try rw [(show xi (E17 0) 23 = y3 from vi_e ((kq18 0 23 rfl).trans fy3))]); (try rw [ey1]); (try rw [ey2]); (try rw [ey3]); all_goals omega, by have h8 := ln_0; (try rw [(show xi (E17 0) 22 = y19 from vi_e fy19)]); (try rw [ey1]); (try rw [ey2]); (try rw [ey3]); all_goals omega⟩)⟩, by show va_P (dC, dI) vwCl (WX 72 ad E17) t.heap; rw [ht]; exact hP⟩, hS.F ht⟩) hS.2.2 dX13_goesIn_13
def v_takes : List Cond := .code yX13_takes cX13_takes 2 (some .boolean) :: vA
abbrev rm_takes : Room := { frames := 1, cells := 0, slots := 0, locals := 40 }
def w_takes : Nat → Nat → Bool := wl [] [(0, 21), (0, 22)]
set_option maxHeartbeats 4000000 in
set_option maxRecDepth 100000 in
theorem q_takes (l : Launch) (dC : Nat → ClassId) (dI : Nat → Nat → Nat) (cT : Nat → ClassId) (ad : Nat → Nat) (E : Nat → va_E) (sz : Nat) (a0 : Int32) (k : Nat) (nl : Nat) (hI0 : IX cT shM spM 72 ad E) (hh0 : k < 72) (hh1 : shM k = (1, 1, nl)) (hh2 : ∀ j, spM k j = (0, -128, 127)) (hh3 : xv (E 0) 18 = .ref (ad k)) (hh4 : (xi (E 0) 19).toInt + 200 ≤ (nl : Int)) (hh5 : 0 ≤ a0.toInt ∧ a0.toInt ≤ 255) : Met l yX13_takes v_takes rm_takes (va_Pc [.ref (ad 0), .int a0] (HW dC dI (TYM cT) 72 ad E sz)) (va_Qi (S := Nat → va_E) (fun r u => IX cT shM spM 72 ad u ∧ Kp w_takes E u ∧ ((r = 1 ∧ ((xi (E 0) 21).toInt ≤ (xi (u 0) 21).toInt) ∧ ((xi (E 0) 22).toInt = -1) ∧ ((xi (u 0) 22).toInt = -1) ∧ ((xi (E 0) 21).toInt + 1 ≤ (xi (u 0) 21).toInt)) ∨ (r = 0 ∧ ((xi (E 0) 21).toInt ≤ (xi (u 0) 21).toInt) ∧ (¬ (xi (u 0) 22).toInt = -1)))) (HB dC dI 72 ad) (va_A (WX 72 ad E) sz)) 0 0 (va_A (WX 72 ad E) sz) := by
  refine Met.ofW (cc := cX13_takes) (maxL := 2) (ret := (some .boolean)) (by decide) rfl ?_
  intro p e s m args below meth c s₁ B hml hv
  obtain ⟨hargs, hsz, hP, hK, hD0, hEV⟩ := hv
  subst hsz
  have hx := B.exec
  have hb := B.bytes
  have hr := B.returns
  have hts := atoms_spec (ws := v_takes) B.pre
  have hown : s.vm.findClass RX13 = some m.cls := findClass_of_methodNamed B.named
  have hlocks := B.notSynchronized
  have hinX13 : ∀ w ∈ u_ws RX13 TX13 97, w ∈ v_takes := fun w h => vA_in _ w (in_X13 w h)
  generalize hAe : va_A (WX 72 ad E) s.heap.size = A at hEV ⊢
  have hA : ∀ q : Nat, s.heap.size ≤ q → A q := fun q h => by rw [← hAe]; exact Or.inr h
  have hD : va_D A (WX 72 ad E) := by rw [← hAe]; exact hD0.self
  have hS : va_S A s.heap s.heap [] := va_S.rf
  have hI := hI0
  have hKp : Kp w_takes E E := Kp.rf
  have hl := lv_entry ([.ref (ad 0), .int a0]) (n := 2) (Nat.le_of_ble_eq_true rfl)
  obtain ⟨Q, hQ⟩ : ∃ Q, Q = MQ below (va_Qi (S := Nat → va_E) (fun r u => IX cT shM spM 72 ad u ∧ Kp w_takes E u ∧ ((r = 1 ∧ ((xi (E 0) 21).toInt ≤ (xi (u 0) 21).toInt) ∧ ((xi (E 0) 22).toInt = -1) ∧ ((xi (u 0) 22).toInt = -1) ∧ ((xi (E 0) 21).toInt + 1 ≤ (xi (u 0) 21).toInt)) ∨ (r = 0 ∧ ((xi (E 0) 21).toInt ≤ (xi (u 0) 21).toInt) ∧ (¬ (xi (u 0) 22).toInt = -1)))) (HB dC dI 72 ad) (A)) args s 0 0 (A) := ⟨_, rfl⟩
  rw [← hQ, show entryFrame m args 2 = _ from (congrArg (fun z => entryFrame m z 2) hargs).trans (lg_entry_eq _ _ _)]
  generalize (lg_sl ([.ref (ad 0), .int a0]) ++ List.replicate (2 - (lg_sl ([.ref (ad 0), .int a0])).length) Slot.unset).toArray = ls at hl ⊢
  have hl : lv_has ls 2 [(0, .ref (ad 0)), (1, .int a0)] := hl
  obtain ⟨y1, ey1⟩ : ∃ y, xi (E 0) 21 = y := ⟨_, rfl⟩
  have fy1 : xv (E 0) 21 = .int y1 := (hI.fi 0 (Nat.le_of_ble_eq_true rfl) rfl (Nat.le_of_ble_eq_true rfl) rfl).trans (congrArg Value.int ey1)
  have iy1 : 0 ≤ y1.toInt ∧ y1.toInt ≤ 201 := by rw [← ey1]; exact hI.iv 0 (Nat.le_of_ble_eq_true rfl) rfl (Nat.le_of_ble_eq_true rfl) rfl
  obtain ⟨y2, ey2⟩ : ∃ y, xi (E 0) 22 = y := ⟨_, rfl⟩
  have fy2 : xv (E 0) 22 = .int y2 := (hI.fi 0 (Nat.le_of_ble_eq_true rfl) rfl (Nat.le_of_ble_eq_true rfl) rfl).trans (congrArg Value.int ey2)
  have iy2 : -1 ≤ y2.toInt ∧ y2.toInt ≤ 201 := by rw [← ey2]; exact hI.iv 0 (Nat.le_of_ble_eq_true rfl) rfl (Nat.le_of_ble_eq_true rfl) rfl
  refine lv_aload_n hx hb dX13_takes_0 rfl (lv_at hl 0 rfl) ?_
  refine th_get (ci := 14) (C := RX13) (T := TX13) (N := 97) (v := .int y2) hx hb hts hinX13 hown hK hP hI 0 (Nat.le_of_ble_eq_true rfl) rfl rfl 22 (Nat.le_of_ble_eq_true rfl) (hts _ (vA_in _ _ (in_25 _ (zs16 (zs16 (zs4 (zs1 (zs1 (zs1 (zs0)))))))))) (fun _ h9 => h9) fy2 dX13_takes_1 ?_
  refine lv_iconst (v := -1) hx hb dX13_takes_4 (by decide) ?_
  refine lv_icmp_ne (tgt := 16) hx hb dX13_takes_5 (by decide) (fun c3 => ?_) (fun c3 => ?_)
  · --5 taken
    have t4 : ¬ y2.toInt = -1 := ti_ne c3
    have i5 : 0 ≤ y2.toInt ∧ y2.toInt ≤ 201 := iv_ne_l t4 iy2 (il_ (-1))
    refine lv_aload_n hx hb dX13_takes_16 rfl (lv_at hl 0 rfl) ?_
    refine th_i (va_runV (As := []) (rest := []) ⟨hx, hb, hml, hown, hts⟩ (q_stop l dC dI cT ad E s.heap.size hI) (cwV 0 hts (gi_V (in_26 _ (zs4 (zs4 (zs4 (zs0))))) (in_26 _ (zs4 (zs4 (zs4 (zs1 (zs0)))))) (in_26 _ (zs4 (zs4 (zs4 (zs1 (zs1 (zs0))))))) (in_24 _ (zs4 (zs4 (zs4 (zs1 (zs1 (zs1 (zs0)))))))) (in_26 _ (zs4 (zs4 (zs4 (zs1 (zs1 (zs1 (zs0))))))))) rfl rfl rfl ⟨rfl, hz_yX13_stop_0⟩ ⟨Nat.le_of_ble_eq_true rfl, Nat.le_of_ble_eq_true rfl⟩) ⟨HW_bl, va_recv hK hP (ci := 14) (q0 := 0) rfl (hI.ob 0 (Nat.le_of_ble_eq_true rfl) rfl), (HW_wi hP hK (WX_D hD) hS hA hEV)⟩ rfl rfl hl.1 rfl (lv_room (Nat.le_of_ble_eq_true rfl)) dX13_takes_17 ⟨Nat.le_of_ble_eq_true rfl, Nat.le_of_ble_eq_true rfl⟩) (WX_D hD) hS hA (fun r6 E7 H locs hw hP hS => ?_)
    obtain ⟨hI, kq8, hw⟩ := hw
    have hKb := hKp
    have hKp := hKp.tr kq8 (wl_sub rfl rfl)
    obtain ⟨y9, ey9⟩ : ∃ y, xi (E7 0) 22 = y := ⟨_, rfl⟩
    have fy9 : xv (E7 0) 22 = .int y9 := (hI.fi 0 (Nat.le_of_ble_eq_true rfl) rfl (Nat.le_of_ble_eq_true rfl) rfl).trans (congrArg Value.int ey9)
    have iy9 : -1 ≤ y9.toInt ∧ y9.toInt ≤ 201 := by rw [← ey9]; exact hI.iv 0 (Nat.le_of_ble_eq_true rfl) rfl (Nat.le_of_ble_eq_true rfl) rfl
    obtain ⟨rfl, f10⟩ := hw
    try rw [(show xi (E 0) 22 = y2 from vi_e fy2)] at f10
    try rw [(show xi (E7 0) 22 = y9 from vi_e fy9)] at f10
    rw [hQ]
    exact W.zret (v := 0) hx hb hr rfl (fun t ht hW => ⟨⟨0, E7, rfl, ⟨hI, hKp, Or.inr (⟨rfl, by (try rw [(show xi (E7 0) 21 = y1 from vi_e ((kq8 0 21 rfl).trans fy1))]); (try rw [ey1]); first | done | exact Int.le_refl _ | have h8 := ln_0; all_goals omega, by have h8 := ln_0; (try rw [(show xi (E7 0) 22 = y9 from vi_e fy9)]); (try rw [ey1]); (try rw [ey2]); all_goals omega⟩)⟩, by show va_P (dC, dI) vwCl (WX 72 ad E7) t.heap; rw [ht]; exact hP⟩, hS.F ht⟩) hS.2.2 dX13_takes_20
  · --5 not
    have t11 : y2.toInt = -1 := ti_eq c3
    have i12 : -1 ≤ y2.toInt ∧ y2.toInt ≤ -1 := iv_eqi t11 iy2 (il_ (-1)) (by decide)
    refine lv_aload_n hx hb dX13_takes_8 rfl (lv_at hl 0 rfl) ?_
    refine th_i (va_runV (As := []) (rest := []) ⟨hx, hb, hml, hown, hts⟩ (q_look l dC dI cT ad E s.heap.size k nl hI (by exact hh0) (by exact hh1) (by exact hh2) (by exact hh3) (by exact hh4)) (cwV 0 hts (gi_V (in_26 _ (zs1 (zs1 (zs0)))) (in_26 _ (zs1 (zs1 (zs1 (zs0))))) (in_26 _ (zs4 (zs0))) (in_24 _ (zs4 (zs4 (zs4 (zs1 (zs1 (zs1 (zs0)))))))) (in_26 _ (zs4 (zs1 (zs0))))) rfl rfl rfl ⟨rfl, hz_yX13_look_0⟩ ⟨Nat.le_of_ble_eq_true rfl, Nat.le_of_ble_eq_true rfl⟩) ⟨HW_bl, va_recv hK hP (ci := 14) (q0 := 0) rfl (hI.ob 0 (Nat.le_of_ble_eq_true rfl) rfl), (HW_wi hP hK (WX_D hD) hS hA hEV)⟩ rfl rfl hl.1 rfl (lv_room (Nat.le_of_ble_eq_true rfl)) dX13_takes_9 ⟨Nat.le_of_ble_eq_true rfl, Nat.le_of_ble_eq_true rfl⟩) (WX_D hD) hS hA (fun r13 E14 H locs hw hP hS => ?_)
    obtain ⟨hI, kq15, hw⟩ := hw
    have hKb := hKp
    have hKp := hKp.tr kq15 (wl_sub rfl rfl)
    obtain ⟨y16, ey16⟩ : ∃ y, xi (E14 0) 21 = y := ⟨_, rfl⟩
    have fy16 : xv (E14 0) 21 = .int y16 := (hI.fi 0 (Nat.le_of_ble_eq_true rfl) rfl (Nat.le_of_ble_eq_true rfl) rfl).trans (congrArg Value.int ey16)
    have iy16 : 0 ≤ y16.toInt ∧ y16.toInt ≤ 201 := by rw [← ey16]; exact hI.iv 0 (Nat.le_of_ble_eq_true rfl) rfl (Nat.le_of_ble_eq_true rfl) rfl
    obtain ⟨f17, f18, f19, f20⟩ := hw
    have i21 : 0 ≤ (xi (E 0) 19).toInt ∧ (xi (E 0) 19).toInt ≤ 3000 := (show 0 ≤ (xi (E 0) 19).toInt ∧ (xi (E 0) 19).toInt ≤ 3000 from hI0.iv 0 (Nat.le_of_ble_eq_true rfl) rfl (Nat.le_of_ble_eq_true rfl) rfl)
    have i22 : 0 ≤ (xi (E 0) 20).toInt ∧ (xi (E 0) 20).toInt ≤ 200 := (show 0 ≤ (xi (E 0) 20).toInt ∧ (xi (E 0) 20).toInt ≤ 200 from hI0.iv 0 (Nat.le_of_ble_eq_true rfl) rfl (Nat.le_of_ble_eq_true rfl) rfl)
    try rw [(show xi (E 0) 21 = y1 from vi_e fy1)] at f18
    try rw [(show xi (E14 0) 21 = y16 from vi_e fy16)] at f18
    try rw [(show xi (E 0) 21 = y1 from vi_e fy1)] at f19
    try rw [(show xi (E14 0) 21 = y16 from vi_e fy16)] at f19
    try rw [(show xi (E 0) 21 = y1 from vi_e fy1)] at f20
    try rw [(show xi (E14 0) 21 = y16 from vi_e fy16)] at f20
    refine lv_iload_n hx hb dX13_takes_12 rfl (lv_at hl 1 rfl) ?_
    refine lv_icmp_eq (tgt := 21) hx hb dX13_takes_13 (by decide) (fun c23 => ?_) (fun c23 => ?_)
    · --13 taken
      have t24 : r13.toInt = a0.toInt := ti_eq c23
      have i25 : 0 ≤ r13.toInt ∧ r13.toInt ≤ 255 := iv_eqi t24 f17 hh5 (by decide)
      refine lv_aload_n hx hb dX13_takes_21 rfl (lv_at hl 0 rfl) ?_
      refine lv_dup hx hb dX13_takes_22 rfl ?_
      refine th_get (ci := 14) (C := RX13) (T := TX13) (N := 97) (v := .int y16) hx hb hts hinX13 hown hK hP hI 0 (Nat.le_of_ble_eq_true rfl) rfl rfl 21 (Nat.le_of_ble_eq_true rfl) (hts _ (vA_in _ _ (in_25 _ (zs16 (zs16 (zs4 (zs0))))))) (fun _ h9 => h9) fy16 dX13_takes_23 ?_
      refine lv_iconst (v := 1) hx hb dX13_takes_26 (by decide) ?_
      refine lv_iadd hx hb dX13_takes_27 ?_
      refine lv_topi (fun y26 ey26 => ?_)
      obtain ⟨ty26, iy26⟩ := ti_add (e := 1) (f := 202) iy16 ln_1 ey26 (by decide)
      have ty26 : y26.toInt = y16.toInt + 1 := ty26
      have iy26 : 1 ≤ y26.toInt ∧ y26.toInt ≤ 202 := iy26
      have i27 : 1 ≤ y26.toInt ∧ y26.toInt ≤ 201 := by omega
      refine th_put (ci := 14) (C := RX13) (T := TX13) (N := 97) (v := .int y26) (ty := .int) hx hb hts hinX13 tyX13 tyX13_ok nmX13 hown hK hP (WX_D hD) hS hI 0 (Nat.le_of_ble_eq_true rfl) rfl rfl 21 (Nat.le_of_ble_eq_true rfl) (hts _ (vA_in _ _ (in_25 _ (zs16 (zs16 (zs4 (zs0))))))) (fun _ h9 => h9) rfl (by decide +kernel) rfl rfl (okI rfl (iv_w i27 (by decide))) dX13_takes_28 (fun H locs E28 pw29 hI hP hS => ?_)
      have hKp := hKp.pw pw29 rfl
      refine lv_iconst (v := 1) hx hb dX13_takes_31 (by decide) ?_
      rw [hQ]
      exact W.zret (v := 1) hx hb hr rfl (fun t ht hW => ⟨⟨1, E28, rfl, ⟨hI, hKp, Or.inl ⟨rfl, by (try rw [(show xi (E28 0) 21 = y26 from vi_e pw29.1)]); (try rw [ey1]); first | done | exact (Int.le_trans f18 (Int.le_trans (Int.le_add_of_nonneg_right (by decide)) (Int.le_of_eq ty26.symm))) | have h8 := ln_1; all_goals omega, by have h8 := ln_1; (try rw [(show xi (E28 0) 22 = y2 from vi_e ((pw29.2 0 22 (fun q9 => absurd q9.2 (Nat.ne_of_beq_eq_false rfl))).trans ((kq15 0 22 rfl).trans fy2)))]); (try rw [ey1]); (try rw [ey2]); all_goals omega, by have h8 := ln_1; (try rw [(show xi (E28 0) 22 = y2 from vi_e ((pw29.2 0 22 (fun q9 => absurd q9.2 (Nat.ne_of_beq_eq_false rfl))).trans ((kq15 0 22 rfl).trans fy2)))]); (try rw [ey1]); (try rw [ey2]); all_goals omega, by have h8 := ln_1; (try rw [(show xi (E28 0) 21 = y26 from vi_e pw29.1)]); (try rw [ey1]); (try rw [ey2]); all_goals omega⟩⟩, by show va_P (dC, dI) vwCl (WX 72 ad E28) t.heap; rw [ht]; exact hP⟩, hS.F ht⟩) hS.2.2 dX13_takes_32
    · --13 not
      have t30 : ¬ r13.toInt = a0.toInt := ti_ne c23
      refine lv_aload_n hx hb dX13_takes_16 rfl (lv_at hl 0 rfl) ?_
      refine th_i (va_runV (As := []) (rest := []) ⟨hx, hb, hml, hown, hts⟩ (q_stop l dC dI cT ad E14 H.size hI) (cwV 0 hts (gi_V (in_26 _ (zs4 (zs4 (zs4 (zs0))))) (in_26 _ (zs4 (zs4 (zs4 (zs1 (zs0)))))) (in_26 _ (zs4 (zs4 (zs4 (zs1 (zs1 (zs0))))))) (in_24 _ (zs4 (zs4 (zs4 (zs1 (zs1 (zs1 (zs0)))))))) (in_26 _ (zs4 (zs4 (zs4 (zs1 (zs1 (zs1 (zs0))))))))) rfl rfl rfl ⟨rfl, hz_yX13_stop_0⟩ ⟨Nat.le_of_ble_eq_true rfl, Nat.le_of_ble_eq_true rfl⟩) ⟨HW_bl, va_recv hK hP (ci := 14) (q0 := 0) rfl (hI.ob 0 (Nat.le_of_ble_eq_true rfl) rfl), (HW_wi hP hK (WX_D hD) hS hA hEV)⟩ rfl rfl hl.1 rfl (lv_room (Nat.le_of_ble_eq_true rfl)) dX13_takes_17 ⟨Nat.le_of_ble_eq_true rfl, Nat.le_of_ble_eq_true rfl⟩) (WX_D hD) hS hA (fun r31 E32 H locs hw hP hS => ?_)
      obtain ⟨hI, kq33, hw⟩ := hw
      have hKb := hKp
      have hKp := hKp.tr kq33 (wl_sub rfl rfl)
      obtain ⟨y34, ey34⟩ : ∃ y, xi (E32 0) 22 = y := ⟨_, rfl⟩
      have fy34 : xv (E32 0) 22 = .int y34 := (hI.fi 0 (Nat.le_of_ble_eq_true rfl) rfl (Nat.le_of_ble_eq_true rfl) rfl).trans (congrArg Value.int ey34)
      have iy34 : -1 ≤ y34.toInt ∧ y34.toInt ≤ 201 := by rw [← ey34]; exact hI.iv 0 (Nat.le_of_ble_eq_true rfl) rfl (Nat.le_of_ble_eq_true rfl) rfl
      obtain ⟨rfl, f35⟩ := hw
      try rw [(show xi (E14 0) 22 = y2 from vi_e ((kq15 0 22 rfl).trans fy2))] at f35
      try rw [(show xi (E32 0) 22 = y34 from vi_e fy34)] at f35
      rw [hQ]
      exact W.zret (v := 0) hx hb hr rfl (fun t ht hW => ⟨⟨0, E32, rfl, ⟨hI, hKp, Or.inr (⟨rfl, by (try rw [(show xi (E32 0) 21 = y16 from vi_e ((kq33 0 21 rfl).trans fy16))]); (try rw [ey1]); first | done | exact f18 | have h8 := ln_0; all_goals omega, by have h8 := ln_0; (try rw [(show xi (E32 0) 22 = y34 from vi_e fy34)]); (try rw [ey1]); (try rw [ey2]); all_goals omega⟩)⟩, by show va_P (dC, dI) vwCl (WX 72 ad E32) t.heap; rw [ht]; exact hP⟩, hS.F ht⟩) hS.2.2 dX13_takes_20
def v_bound : List Cond := .code yX13_bound cX13_bound 2 (some .int) :: vA
abbrev rm_bound : Room := { frames := 1, cells := 0, slots := 0, locals := 40 }
set_option maxHeartbeats 4000000 in
set_option maxRecDepth 100000 in
theorem q_bound (l : Launch) (b0 : Int64)  : Met l yX13_bound v_bound rm_bound (va_Pc [.long b0] (fun _ => True)) (va_Qi (S := Unit) (fun r _ => True) (fun _ _ => True) (fun _ => False)) 0 0 (fun _ => False) := by
  refine Met.ofW (cc := cX13_bound) (maxL := 2) (ret := (some .int)) (by decide) rfl ?_
  intro p e s m args below meth c s₁ B hml hv
  obtain ⟨hargs, -⟩ := hv
  have hx := B.exec
  have hb := B.bytes
  have hr := B.returns
  have hts := atoms_spec (ws := v_bound) B.pre
  have hown : s.vm.findClass RX13 = some m.cls := findClass_of_methodNamed B.named
  have hlocks := B.notSynchronized
  have hS : va_S (fun _ : Nat => False) s.heap s.heap [] := va_S.rf
  have hl := lv_entry ([.long b0]) (n := 2) (Nat.le_of_ble_eq_true rfl)
  obtain ⟨Q, hQ⟩ : ∃ Q, Q = MQ below (va_Qi (S := Unit) (fun r _ => True) (fun _ _ => True) (fun _ => False)) args s 0 0 (fun _ => False) := ⟨_, rfl⟩
  rw [← hQ, show entryFrame m args 2 = _ from (congrArg (fun z => entryFrame m z 2) hargs).trans (lg_entry_eq _ _ _)]
  generalize (lg_sl ([.long b0]) ++ List.replicate (2 - (lg_sl ([.long b0])).length) Slot.unset).toArray = ls at hl ⊢
  have hl : lv_has ls 2 [(0, .long b0)] := hl
  refine lv_ldc2 hx hb hown (hts _ (vA_in _ _ (in_26 _ (zs16 (zs16 (zs1 (zs1 (zs0)))))))) dX13_bound_0 ?_
  refine lv_topl (fun y1 ey1 => ?_)
  refine lv_ldc2 hx hb hown (hts _ (vA_in _ _ (in_26 _ (zs16 (zs16 (zs1 (zs1 (zs1 (zs0))))))))) dX13_bound_3 ?_
  refine lv_topl (fun y2 ey2 => ?_)
  refine lv_lload_n hx hb dX13_bound_6 rfl (lv_at hl 0 rfl) ?_
  refine va_mmin_long hx hb (by rw [hml]; exact hl.1.symm) hown (hts _ (vA_in _ _ (in_26 _ (zs16 (zs16 (zs4 (zs0))))))) (hts _ (vA_in _ _ (in_26 _ (zs16 (zs16 (zs4 (zs1 (zs0)))))))) (hts _ (vA_in _ _ (in_0 _ (zs16 (zs16 (zs1 (zs0))))))) (hts _ (vA_in _ _ (in_26 _ (zs16 (zs16 (zs4 (zs1 (zs1 (zs0))))))))) (Nat.le_of_ble_eq_true rfl) (Nat.le_of_ble_eq_true rfl) (Nat.le_of_ble_eq_true rfl) (Nat.le_of_ble_eq_true rfl) dX13_bound_7 ?_
  refine lv_topl (fun y3 ey3 => ?_)
  refine va_mmax_long hx hb (by rw [hml]; exact hl.1.symm) hown (hts _ (vA_in _ _ (in_26 _ (zs16 (zs16 (zs4 (zs1 (zs1 (zs1 (zs0)))))))))) (hts _ (vA_in _ _ (in_27 _ zs0))) (hts _ (vA_in _ _ (in_0 _ (zs16 (zs16 (zs1 (zs0))))))) (hts _ (vA_in _ _ (in_27 _ (zs1 (zs0))))) (Nat.le_of_ble_eq_true rfl) (Nat.le_of_ble_eq_true rfl) (Nat.le_of_ble_eq_true rfl) (Nat.le_of_ble_eq_true rfl) dX13_bound_10 ?_
  refine lv_topl (fun y4 ey4 => ?_)
  refine lv_l2i hx hb dX13_bound_13 rfl ?_
  refine lv_topi (fun y5 ey5 => ?_)
  rw [hQ]
  exact W.iret (v := y5) hx hb hr (fun t ht hW => ⟨⟨y5, (), rfl, trivial, trivial⟩, hS.F ht⟩) hS.2.2 dX13_bound_14
def v_isSign_ : List Cond := .code yX13_isSign cX13_isSign 1 (some .boolean) :: vA
abbrev rm_isSign_ : Room := { frames := 0, cells := 0, slots := 0, locals := 0 }
set_option maxHeartbeats 4000000 in
set_option maxRecDepth 100000 in
theorem q_isSign_ (l : Launch) (a0 : Int32)  : Met l yX13_isSign v_isSign_ rm_isSign_ (va_Pc [.int a0] (fun _ => True)) (va_Qi (S := Unit) (fun r _ => (r = 1 ∧ (60 ≤ a0.toInt ∧ a0.toInt ≤ 62)) ∨ (r = 0)) (fun _ _ => True) (fun _ => False)) 0 0 (fun _ => False) := by
  refine Met.ofW (cc := cX13_isSign) (maxL := 1) (ret := (some .boolean)) (by decide) rfl ?_
  intro p e s m args below meth c s₁ B hml hv
  obtain ⟨hargs, -⟩ := hv
  have hx := B.exec
  have hb := B.bytes
  have hr := B.returns
  have hts := atoms_spec (ws := v_isSign_) B.pre
  have hown : s.vm.findClass RX13 = some m.cls := findClass_of_methodNamed B.named
  have hlocks := B.notSynchronized
  have hS : va_S (fun _ : Nat => False) s.heap s.heap [] := va_S.rf
  have hl := lv_entry ([.int a0]) (n := 1) (Nat.le_of_ble_eq_true rfl)
  obtain ⟨Q, hQ⟩ : ∃ Q, Q = MQ below (va_Qi (S := Unit) (fun r _ => (r = 1 ∧ (60 ≤ a0.toInt ∧ a0.toInt ≤ 62)) ∨ (r = 0)) (fun _ _ => True) (fun _ => False)) args s 0 0 (fun _ => False) := ⟨_, rfl⟩
  rw [← hQ, show entryFrame m args 1 = _ from (congrArg (fun z => entryFrame m z 1) hargs).trans (lg_entry_eq _ _ _)]
  generalize (lg_sl ([.int a0]) ++ List.replicate (1 - (lg_sl ([.int a0])).length) Slot.unset).toArray = ls at hl ⊢
  have hl : lv_has ls 1 [(0, .int a0)] := hl
  refine lv_iload_n hx hb dX13_isSign_0 rfl (lv_at hl 0 rfl) ?_
  refine lv_bipush (v := 61) hx hb dX13_isSign_1 (by decide) ?_
  refine lv_icmp_eq (tgt := 18) hx hb dX13_isSign_3 (by decide) (fun c1 => ?_) (fun c1 => ?_)
  · --3 taken
    have t2 : a0.toInt = 61 := ti_eq c1
    have i3 : 61 ≤ a0.toInt ∧ a0.toInt ≤ 61 := iv_eqi t2 (iv_all _) (il_ 61) (by decide)
    refine lv_iconst (v := 1) hx hb dX13_isSign_18 (by decide) ?_
    refine lv_goto (tgt := 23) hx hb dX13_isSign_19 (by decide) ?_
    rw [hQ]
    exact W.zret (v := 1) hx hb hr rfl (fun t ht hW => ⟨⟨1, (), rfl, Or.inl ⟨rfl, (iv_w i3 (by decide))⟩, trivial⟩, hS.F ht⟩) hS.2.2 dX13_isSign_23
  · --3 not
    have t4 : ¬ a0.toInt = 61 := ti_ne c1
    refine lv_iload_n hx hb dX13_isSign_6 rfl (lv_at hl 0 rfl) ?_
    refine lv_bipush (v := 60) hx hb dX13_isSign_7 (by decide) ?_
    refine lv_icmp_eq (tgt := 18) hx hb dX13_isSign_9 (by decide) (fun c5 => ?_) (fun c5 => ?_)
    · --9 taken
      have t6 : a0.toInt = 60 := ti_eq c5
      have i7 : 60 ≤ a0.toInt ∧ a0.toInt ≤ 60 := iv_eqi t6 (iv_all _) (il_ 60) (by decide)
      refine lv_iconst (v := 1) hx hb dX13_isSign_18 (by decide) ?_
      refine lv_goto (tgt := 23) hx hb dX13_isSign_19 (by decide) ?_
      rw [hQ]
      exact W.zret (v := 1) hx hb hr rfl (fun t ht hW => ⟨⟨1, (), rfl, Or.inl ⟨rfl, (iv_w i7 (by decide))⟩, trivial⟩, hS.F ht⟩) hS.2.2 dX13_isSign_23
    · --9 not
      have t8 : ¬ a0.toInt = 60 := ti_ne c5
      refine lv_iload_n hx hb dX13_isSign_12 rfl (lv_at hl 0 rfl) ?_
      refine lv_bipush (v := 62) hx hb dX13_isSign_13 (by decide) ?_
      refine lv_icmp_ne (tgt := 22) hx hb dX13_isSign_15 (by decide) (fun c9 => ?_) (fun c9 => ?_)
      · --15 taken
        have t10 : ¬ a0.toInt = 62 := ti_ne c9
        refine lv_iconst (v := 0) hx hb dX13_isSign_22 (by decide) ?_
        rw [hQ]
        exact W.zret (v := 0) hx hb hr rfl (fun t ht hW => ⟨⟨0, (), rfl, Or.inr (rfl), trivial⟩, hS.F ht⟩) hS.2.2 dX13_isSign_23
      · --15 not
        have t11 : a0.toInt = 62 := ti_eq c9
        have i12 : 62 ≤ a0.toInt ∧ a0.toInt ≤ 62 := iv_eqi t11 (iv_all _) (il_ 62) (by decide)
        refine lv_iconst (v := 1) hx hb dX13_isSign_18 (by decide) ?_
        refine lv_goto (tgt := 23) hx hb dX13_isSign_19 (by decide) ?_
        rw [hQ]
        exact W.zret (v := 1) hx hb hr rfl (fun t ht hW => ⟨⟨1, (), rfl, Or.inl ⟨rfl, (iv_w i12 (by decide))⟩, trivial⟩, hS.F ht⟩) hS.2.2 dX13_isSign_23
def v_atom : List Cond := .code yX13_atom cX13_atom 4 (some .int) :: vA
abbrev rm_atom (n : Nat) : Room := { frames := 7 * n + 5, cells := 0, slots := 0, locals := 40 * (7 * n + 5) }
def w_atom : Nat → Nat → Bool := wl [] [(0, 21), (0, 22), (0, 23)]
def C_atom (l : Launch) (n : Nat) : Prop := ∀ (dC : Nat → ClassId) (dI : Nat → Nat → Nat) (cT : Nat → ClassId) (ad : Nat → Nat) (E : Nat → va_E) (sz : Nat) (k : Nat) (nl : Nat) (hI0 : IX cT shM spM 72 ad E) (hh0 : k < 72) (hh1 : shM k = (1, 1, nl)) (hh2 : ∀ j, spM k j = (0, -128, 127)) (hh3 : xv (E 0) 18 = .ref (ad k)) (hh4 : (xi (E 0) 19).toInt + 200 ≤ (nl : Int)) (hh5 : (xi (E 0) 23).toInt + (n : Int) = 8), Met l yX13_atom v_atom (rm_atom n) (va_Pc [.ref (ad 0)] (HW dC dI (TYM cT) 72 ad E sz)) (va_Qi (S := Nat → va_E) (fun r u => IX cT shM spM 72 ad u ∧ Kp w_atom E u ∧ (((xi (E 0) 21).toInt ≤ (xi (u 0) 21).toInt) ∧ ((xi (E 0) 23).toInt ≤ (xi (u 0) 23).toInt) ∧ ((xi (u 0) 22).toInt = -1 → (xi (u 0) 23).toInt = (xi (E 0) 23).toInt) ∧ ((xi (u 0) 22).toInt = -1 → (xi (E 0) 22).toInt = -1))) (HB dC dI 72 ad) (va_A (WX 72 ad E) sz)) 0 0 (va_A (WX 72 ad E) sz)
def v_term : List Cond := .code yX13_term cX13_term 5 (some .int) :: vA
abbrev rm_term (n : Nat) : Room := { frames := 7 * n + 6, cells := 0, slots := 0, locals := 40 * (7 * n + 6) }
def w_term : Nat → Nat → Bool := wl [] [(0, 21), (0, 22), (0, 23)]
def C_term (l : Launch) (n : Nat) : Prop := ∀ (dC : Nat → ClassId) (dI : Nat → Nat → Nat) (cT : Nat → ClassId) (ad : Nat → Nat) (E : Nat → va_E) (sz : Nat) (k : Nat) (nl : Nat) (hI0 : IX cT shM spM 72 ad E) (hh0 : k < 72) (hh1 : shM k = (1, 1, nl)) (hh2 : ∀ j, spM k j = (0, -128, 127)) (hh3 : xv (E 0) 18 = .ref (ad k)) (hh4 : (xi (E 0) 19).toInt + 200 ≤ (nl : Int)) (hh5 : (xi (E 0) 23).toInt + (n : Int) = 8), Met l yX13_term v_term (rm_term n) (va_Pc [.ref (ad 0)] (HW dC dI (TYM cT) 72 ad E sz)) (va_Qi (S := Nat → va_E) (fun r u => IX cT shM spM 72 ad u ∧ Kp w_term E u ∧ (((xi (E 0) 21).toInt ≤ (xi (u 0) 21).toInt) ∧ ((xi (E 0) 23).toInt ≤ (xi (u 0) 23).toInt) ∧ ((xi (u 0) 22).toInt = -1 → (xi (u 0) 23).toInt = (xi (E 0) 23).toInt) ∧ ((xi (u 0) 22).toInt = -1 → (xi (E 0) 22).toInt = -1))) (HB dC dI 72 ad) (va_A (WX 72 ad E) sz)) 0 0 (va_A (WX 72 ad E) sz)
def v_sum : List Cond := .code yX13_sum cX13_sum 5 (some .int) :: vA
abbrev rm_sum (n : Nat) : Room := { frames := 7 * n + 7, cells := 0, slots := 0, locals := 40 * (7 * n + 7) }
def w_sum : Nat → Nat → Bool := wl [] [(0, 21), (0, 22), (0, 23)]
def C_sum (l : Launch) (n : Nat) : Prop := ∀ (dC : Nat → ClassId) (dI : Nat → Nat → Nat) (cT : Nat → ClassId) (ad : Nat → Nat) (E : Nat → va_E) (sz : Nat) (k : Nat) (nl : Nat) (hI0 : IX cT shM spM 72 ad E) (hh0 : k < 72) (hh1 : shM k = (1, 1, nl)) (hh2 : ∀ j, spM k j = (0, -128, 127)) (hh3 : xv (E 0) 18 = .ref (ad k)) (hh4 : (xi (E 0) 19).toInt + 200 ≤ (nl : Int)) (hh5 : (xi (E 0) 23).toInt + (n : Int) = 8), Met l yX13_sum v_sum (rm_sum n) (va_Pc [.ref (ad 0)] (HW dC dI (TYM cT) 72 ad E sz)) (va_Qi (S := Nat → va_E) (fun r u => IX cT shM spM 72 ad u ∧ Kp w_sum E u ∧ (((xi (E 0) 21).toInt ≤ (xi (u 0) 21).toInt) ∧ ((xi (E 0) 23).toInt ≤ (xi (u 0) 23).toInt) ∧ ((xi (u 0) 22).toInt = -1 → (xi (u 0) 23).toInt = (xi (E 0) 23).toInt) ∧ ((xi (u 0) 22).toInt = -1 → (xi (E 0) 22).toInt = -1))) (HB dC dI 72 ad) (va_A (WX 72 ad E) sz)) 0 0 (va_A (WX 72 ad E) sz)
def v_compares : List Cond := .code yX13_compares cX13_compares 6 (some .boolean) :: vA
abbrev rm_compares (n : Nat) : Room := { frames := 7 * n + 8, cells := 0, slots := 0, locals := 40 * (7 * n + 8) }
def w_compares : Nat → Nat → Bool := wl [] [(0, 21), (0, 22), (0, 23)]
def C_compares (l : Launch) (n : Nat) : Prop := ∀ (dC : Nat → ClassId) (dI : Nat → Nat → Nat) (cT : Nat → ClassId) (ad : Nat → Nat) (E : Nat → va_E) (sz : Nat) (a0 : Int32) (a1 : Int32) (k : Nat) (nl : Nat) (hI0 : IX cT shM spM 72 ad E) (hh0 : k < 72) (hh1 : shM k = (1, 1, nl)) (hh2 : ∀ j, spM k j = (0, -128, 127)) (hh3 : xv (E 0) 18 = .ref (ad k)) (hh4 : (xi (E 0) 19).toInt + 200 ≤ (nl : Int)) (hh5 : (xi (E 0) 23).toInt + (n : Int) = 8) (hh6 : 0 ≤ a0.toInt ∧ a0.toInt ≤ 1), Met l yX13_compares v_compares (rm_compares n) (va_Pc [.ref (ad 0), .int a0, .int a1] (HW dC dI (TYM cT) 72 ad E sz)) (va_Qi (S := Nat → va_E) (fun r u => IX cT shM spM 72 ad u ∧ Kp w_compares E u ∧ ((0 ≤ r.toInt ∧ r.toInt ≤ 1) ∧ ((xi (E 0) 21).toInt ≤ (xi (u 0) 21).toInt) ∧ ((xi (E 0) 23).toInt ≤ (xi (u 0) 23).toInt) ∧ ((xi (u 0) 22).toInt = -1 → (xi (u 0) 23).toInt = (xi (E 0) 23).toInt) ∧ ((xi (u 0) 22).toInt = -1 → (xi (E 0) 22).toInt = -1))) (HB dC dI 72 ad) (va_A (WX 72 ad E) sz)) 0 0 (va_A (WX 72 ad E) sz)
def v_unit : List Cond := .code yX13_unit cX13_unit 3 (some .boolean) :: vA
abbrev rm_unit (n : Nat) : Room := { frames := 7 * n + 9, cells := 0, slots := 0, locals := 40 * (7 * n + 9) }
def w_unit : Nat → Nat → Bool := wl [] [(0, 21), (0, 22), (0, 23)]
def C_unit (l : Launch) (n : Nat) : Prop := ∀ (dC : Nat → ClassId) (dI : Nat → Nat → Nat) (cT : Nat → ClassId) (ad : Nat → Nat) (E : Nat → va_E) (sz : Nat) (k : Nat) (nl : Nat) (hI0 : IX cT shM spM 72 ad E) (hh0 : k < 72) (hh1 : shM k = (1, 1, nl)) (hh2 : ∀ j, spM k j = (0, -128, 127)) (hh3 : xv (E 0) 18 = .ref (ad k)) (hh4 : (xi (E 0) 19).toInt + 200 ≤ (nl : Int)) (hh5 : (xi (E 0) 23).toInt + (n : Int) = 8), Met l yX13_unit v_unit (rm_unit n) (va_Pc [.ref (ad 0)] (HW dC dI (TYM cT) 72 ad E sz)) (va_Qi (S := Nat → va_E) (fun r u => IX cT shM spM 72 ad u ∧ Kp w_unit E u ∧ ((0 ≤ r.toInt ∧ r.toInt ≤ 1) ∧ ((xi (E 0) 21).toInt ≤ (xi (u 0) 21).toInt) ∧ ((xi (E 0) 23).toInt ≤ (xi (u 0) 23).toInt) ∧ ((xi (u 0) 22).toInt = -1 → (xi (u 0) 23).toInt = (xi (E 0) 23).toInt) ∧ ((xi (u 0) 22).toInt = -1 → (xi (E 0) 22).toInt = -1))) (HB dC dI 72 ad) (va_A (WX 72 ad E) sz)) 0 0 (va_A (WX 72 ad E) sz)
def v_part : List Cond := .code yX13_part cX13_part 5 (some .boolean) :: vA
abbrev rm_part (n : Nat) : Room := { frames := 7 * n + 10, cells := 0, slots := 0, locals := 40 * (7 * n + 10) }
def w_part : Nat → Nat → Bool := wl [] [(0, 21), (0, 22), (0, 23)]
def C_part (l : Launch) (n : Nat) : Prop := ∀ (dC : Nat → ClassId) (dI : Nat → Nat → Nat) (cT : Nat → ClassId) (ad : Nat → Nat) (E : Nat → va_E) (sz : Nat) (a0 : Int32) (a1 : Int32) (k : Nat) (nl : Nat) (hI0 : IX cT shM spM 72 ad E) (hh0 : k < 72) (hh1 : shM k = (1, 1, nl)) (hh2 : ∀ j, spM k j = (0, -128, 127)) (hh3 : xv (E 0) 18 = .ref (ad k)) (hh4 : (xi (E 0) 19).toInt + 200 ≤ (nl : Int)) (hh5 : (xi (E 0) 23).toInt + (n : Int) = 8) (hh6 : 0 ≤ a0.toInt ∧ a0.toInt ≤ 1), Met l yX13_part v_part (rm_part n) (va_Pc [.ref (ad 0), .int a0, .int a1] (HW dC dI (TYM cT) 72 ad E sz)) (va_Qi (S := Nat → va_E) (fun r u => IX cT shM spM 72 ad u ∧ Kp w_part E u ∧ ((0 ≤ r.toInt ∧ r.toInt ≤ 1) ∧ ((xi (E 0) 21).toInt ≤ (xi (u 0) 21).toInt) ∧ ((xi (E 0) 23).toInt ≤ (xi (u 0) 23).toInt) ∧ ((xi (u 0) 22).toInt = -1 → (xi (u 0) 23).toInt = (xi (E 0) 23).toInt) ∧ ((xi (u 0) 22).toInt = -1 → (xi (E 0) 22).toInt = -1))) (HB dC dI 72 ad) (va_A (WX 72 ad E) sz)) 0 0 (va_A (WX 72 ad E) sz)
def v_condition : List Cond := .code yX13_condition cX13_condition 5 (some .boolean) :: vA
abbrev rm_condition (n : Nat) : Room := { frames := 7 * n + 11, cells := 0, slots := 0, locals := 40 * (7 * n + 11) }
def w_condition : Nat → Nat → Bool := wl [] [(0, 21), (0, 22), (0, 23)]
def C_condition (l : Launch) (n : Nat) : Prop := ∀ (dC : Nat → ClassId) (dI : Nat → Nat → Nat) (cT : Nat → ClassId) (ad : Nat → Nat) (E : Nat → va_E) (sz : Nat) (a0 : Int32) (a1 : Int32) (k : Nat) (nl : Nat) (hI0 : IX cT shM spM 72 ad E) (hh0 : k < 72) (hh1 : shM k = (1, 1, nl)) (hh2 : ∀ j, spM k j = (0, -128, 127)) (hh3 : xv (E 0) 18 = .ref (ad k)) (hh4 : (xi (E 0) 19).toInt + 200 ≤ (nl : Int)) (hh5 : (xi (E 0) 23).toInt + (n : Int) = 8) (hh6 : 0 ≤ a0.toInt ∧ a0.toInt ≤ 1), Met l yX13_condition v_condition (rm_condition n) (va_Pc [.ref (ad 0), .int a0, .int a1] (HW dC dI (TYM cT) 72 ad E sz)) (va_Qi (S := Nat → va_E) (fun r u => IX cT shM spM 72 ad u ∧ Kp w_condition E u ∧ ((0 ≤ r.toInt ∧ r.toInt ≤ 1) ∧ ((xi (E 0) 21).toInt ≤ (xi (u 0) 21).toInt) ∧ ((xi (E 0) 23).toInt ≤ (xi (u 0) 23).toInt) ∧ ((xi (u 0) 22).toInt = -1 → (xi (u 0) 23).toInt = (xi (E 0) 23).toInt) ∧ ((xi (u 0) 22).toInt = -1 → (xi (E 0) 22).toInt = -1))) (HB dC dI 72 ad) (va_A (WX 72 ad E) sz)) 0 0 (va_A (WX 72 ad E) sz)
set_option maxHeartbeats 4000000 in
set_option maxRecDepth 100000 in
theorem q_atom (l : Launch) (n : Nat) (gSum : ∀ k, k < n → C_sum l k) : C_atom l n := by
  intro dC dI cT ad E sz k nl hI0 hh0 hh1 hh2 hh3 hh4 hh5
  refine Met.ofW (cc := cX13_atom) (maxL := 4) (ret := (some .int)) (by decide) rfl ?_
  intro p e s m args below meth c s₁ B hml hv
  obtain ⟨hargs, hsz, hP, hK, hD0, hEV⟩ := hv
  subst hsz
  have hx := B.exec
  have hb := B.bytes
  have hr := B.returns
  have hts := atoms_spec (ws := v_atom) B.pre
  have hown : s.vm.findClass RX13 = some m.cls := findClass_of_methodNamed B.named
  have hlocks := B.notSynchronized
  have hinX13 : ∀ w ∈ u_ws RX13 TX13 97, w ∈ v_atom := fun w h => vA_in _ w (in_X13 w h)
  generalize hAe : va_A (WX 72 ad E) s.heap.size = A at hEV ⊢
  have hA : ∀ q : Nat, s.heap.size ≤ q → A q := fun q h => by rw [← hAe]; exact Or.inr h
  have hD : va_D A (WX 72 ad E) := by rw [← hAe]; exact hD0.self
  have hS : va_S A s.heap s.heap [] := va_S.rf
  have hI := hI0
  have hKp : Kp w_atom E E := Kp.rf
  have hl := lv_entry ([.ref (ad 0)]) (n := 4) (Nat.le_of_ble_eq_true rfl)
  obtain ⟨Q, hQ⟩ : ∃ Q, Q = MQ below (va_Qi (S := Nat → va_E) (fun r u => IX cT shM spM 72 ad u ∧ Kp w_atom E u ∧ (((xi (E 0) 21).toInt ≤ (xi (u 0) 21).toInt) ∧ ((xi (E 0) 23).toInt ≤ (xi (u 0) 23).toInt) ∧ ((xi (u 0) 22).toInt = -1 → (xi (u 0) 23).toInt = (xi (E 0) 23).toInt) ∧ ((xi (u 0) 22).toInt = -1 → (xi (E 0) 22).toInt = -1))) (HB dC dI 72 ad) (A)) args s 0 0 (A) := ⟨_, rfl⟩
  rw [← hQ, show entryFrame m args 4 = _ from (congrArg (fun z => entryFrame m z 4) hargs).trans (lg_entry_eq _ _ _)]
  generalize (lg_sl ([.ref (ad 0)]) ++ List.replicate (4 - (lg_sl ([.ref (ad 0)])).length) Slot.unset).toArray = ls at hl ⊢
  have hl : lv_has ls 4 [(0, .ref (ad 0))] := hl
  obtain ⟨y1, ey1⟩ : ∃ y, xi (E 0) 21 = y := ⟨_, rfl⟩
  have fy1 : xv (E 0) 21 = .int y1 := (hI.fi 0 (Nat.le_of_ble_eq_true rfl) rfl (Nat.le_of_ble_eq_true rfl) rfl).trans (congrArg Value.int ey1)
  have iy1 : 0 ≤ y1.toInt ∧ y1.toInt ≤ 201 := by rw [← ey1]; exact hI.iv 0 (Nat.le_of_ble_eq_true rfl) rfl (Nat.le_of_ble_eq_true rfl) rfl
  obtain ⟨y2, ey2⟩ : ∃ y, xi (E 0) 22 = y := ⟨_, rfl⟩
  have fy2 : xv (E 0) 22 = .int y2 := (hI.fi 0 (Nat.le_of_ble_eq_true rfl) rfl (Nat.le_of_ble_eq_true rfl) rfl).trans (congrArg Value.int ey2)
  have iy2 : -1 ≤ y2.toInt ∧ y2.toInt ≤ 201 := by rw [← ey2]; exact hI.iv 0 (Nat.le_of_ble_eq_true rfl) rfl (Nat.le_of_ble_eq_true rfl) rfl
  obtain ⟨y3, ey3⟩ : ∃ y, xi (E 0) 23 = y := ⟨_, rfl⟩
  have fy3 : xv (E 0) 23 = .int y3 := (hI.fi 0 (Nat.le_of_ble_eq_true rfl) rfl (Nat.le_of_ble_eq_true rfl) rfl).trans (congrArg Value.int ey3)
  have iy3 : 0 ≤ y3.toInt ∧ y3.toInt ≤ 8 := by rw [← ey3]; exact hI.iv 0 (Nat.le_of_ble_eq_true rfl) rfl (Nat.le_of_ble_eq_true rfl) rfl
  rw [ey3] at hh5
  refine lv_aload_n hx hb dX13_atom_0 rfl (lv_at hl 0 rfl) ?_
  refine th_i (va_runV (As := []) (rest := []) ⟨hx, hb, hml, hown, hts⟩ (q_look l dC dI cT ad E s.heap.size k nl hI (by exact hh0) (by exact hh1) (by exact hh2) (by exact hh3) (by exact hh4)) (cwV 0 hts (gi_V (in_26 _ (zs1 (zs1 (zs0)))) (in_26 _ (zs1 (zs1 (zs1 (zs0))))) (in_26 _ (zs4 (zs0))) (in_24 _ (zs4 (zs4 (zs4 (zs1 (zs1 (zs1 (zs0)))))))) (in_26 _ (zs4 (zs1 (zs0))))) rfl rfl rfl ⟨rfl, hz_yX13_look_0⟩ ⟨(show 0 + 1 ≤ 7 * n + 5 from nl_1 (Nat.le_of_ble_eq_true rfl)), (show 8 + (1 + 11) + 40 * (0) ≤ 40 * (7 * n + 5) from nl_2 (Nat.le_of_ble_eq_true rfl))⟩) ⟨HW_bl, va_recv hK hP (ci := 14) (q0 := 0) rfl (hI.ob 0 (Nat.le_of_ble_eq_true rfl) rfl), (HW_wi hP hK (WX_D hD) hS hA hEV)⟩ rfl rfl hl.1 rfl (lv_room (Nat.le_of_ble_eq_true rfl)) dX13_atom_1 ⟨Nat.le_of_ble_eq_true rfl, Nat.le_of_ble_eq_true rfl⟩) (WX_D hD) hS hA (fun r4 E5 H locs hw hP hS => ?_)
  obtain ⟨hI, kq6, hw⟩ := hw
  have hKb := hKp
  have hKp := hKp.tr kq6 (wl_sub rfl rfl)
  obtain ⟨y7, ey7⟩ : ∃ y, xi (E5 0) 21 = y := ⟨_, rfl⟩
  have fy7 : xv (E5 0) 21 = .int y7 := (hI.fi 0 (Nat.le_of_ble_eq_true rfl) rfl (Nat.le_of_ble_eq_true rfl) rfl).trans (congrArg Value.int ey7)
  have iy7 : 0 ≤ y7.toInt ∧ y7.toInt ≤ 201 := by rw [← ey7]; exact hI.iv 0 (Nat.le_of_ble_eq_true rfl) rfl (Nat.le_of_ble_eq_true rfl) rfl
  obtain ⟨f8, f9, f10, f11⟩ := hw
  have i12 : 0 ≤ (xi (E 0) 19).toInt ∧ (xi (E 0) 19).toInt ≤ 3000 := (show 0 ≤ (xi (E 0) 19).toInt ∧ (xi (E 0) 19).toInt ≤ 3000 from hI0.iv 0 (Nat.le_of_ble_eq_true rfl) rfl (Nat.le_of_ble_eq_true rfl) rfl)
  have i13 : 0 ≤ (xi (E 0) 20).toInt ∧ (xi (E 0) 20).toInt ≤ 200 := (show 0 ≤ (xi (E 0) 20).toInt ∧ (xi (E 0) 20).toInt ≤ 200 from hI0.iv 0 (Nat.le_of_ble_eq_true rfl) rfl (Nat.le_of_ble_eq_true rfl) rfl)
  try rw [(show xi (E 0) 21 = y1 from vi_e fy1)] at f9
  try rw [(show xi (E5 0) 21 = y7 from vi_e fy7)] at f9
  try rw [(show xi (E 0) 21 = y1 from vi_e fy1)] at f10
  try rw [(show xi (E5 0) 21 = y7 from vi_e fy7)] at f10
  try rw [(show xi (E 0) 21 = y1 from vi_e fy1)] at f11
  try rw [(show xi (E5 0) 21 = y7 from vi_e fy7)] at f11
  refine lv_istore_n (lv' := [(1, .int r4), (0, .ref (ad 0))]) hx hb dX13_atom_4 rfl hl (by decide) rfl (fun ls hl => ?_)
  refine lv_iload_n hx hb dX13_atom_5 rfl (lv_at hl 0 rfl) ?_
  refine lv_iconst (v := -1) hx hb dX13_atom_6 (by decide) ?_
  refine lv_icmp_eq (tgt := 37) hx hb dX13_atom_7 (by decide) (fun c14 => ?_) (fun c14 => ?_)
  · --7 taken
    have t15 : r4.toInt = -1 := ti_eq c14
    have i16 : -1 ≤ r4.toInt ∧ r4.toInt ≤ -1 := iv_eqi t15 f8 (il_ (-1)) (by decide)
    refine lv_iload_n hx hb dX13_atom_37 rfl (lv_at hl 0 rfl) ?_
    refine lv_bipush (v := 91) hx hb dX13_atom_38 (by decide) ?_
    refine lv_icmp_ne (tgt := 80) hx hb dX13_atom_40 (by decide) (fun c17 => ?_) (fun c17 => ?_)
    · --40 taken
      have t18 : ¬ r4.toInt = 91 := ti_ne c17
      refine lv_aload_n hx hb dX13_atom_80 rfl (lv_at hl 1 rfl) ?_
      refine th_ri (va_runV (As := []) (rest := []) ⟨hx, hb, hml, hown, hts⟩ (q_isDigit l dC dI cT ad E5 H.size k nl hI (by exact hh0) (by exact hh1) (by exact hh2) (by exact (hKp 0 18 rfl).trans hh3) (by (try rw [hKp.ei 0 19 rfl]); exact hh4)) (cwV 0 hts (gi_V (in_26 _ (zs16 (zs4 (zs1 (zs1 (zs1 (zs0))))))) (in_26 _ (zs16 (zs4 (zs4 (zs0))))) (in_26 _ (zs16 (zs4 (zs4 (zs1 (zs0)))))) (in_24 _ (zs4 (zs4 (zs4 (zs1 (zs1 (zs1 (zs0)))))))) (in_26 _ (zs16 (zs4 (zs4 (zs1 (zs1 (zs0)))))))) rfl rfl rfl ⟨rfl, hz_yX13_isDigit_0⟩ ⟨(show 0 + 1 ≤ 7 * n + 5 from nl_1 (Nat.le_of_ble_eq_true rfl)), (show 8 + (1 + 11) + 40 * (0) ≤ 40 * (7 * n + 5) from nl_2 (Nat.le_of_ble_eq_true rfl))⟩) ⟨HW_bl, va_recv hK hP (ci := 14) (q0 := 0) rfl (hI.ob 0 (Nat.le_of_ble_eq_true rfl) rfl), (HW_wi hP hK (WX_D hD) hS hA hEV)⟩ rfl rfl hl.1 rfl (lv_room (Nat.le_of_ble_eq_true rfl)) dX13_atom_81 ⟨Nat.le_of_ble_eq_true rfl, Nat.le_of_ble_eq_true rfl⟩) hS hP (fun r19 H locs hw hP hS => ?_)
      rcases hw with hw | hw
      · -- isDigit, case 0
        obtain ⟨rfl, f20⟩ := hw
        try rw [(show xi (E5 0) 21 = y7 from vi_e fy7)] at f20
        try rw [hKp.ei 0 20 rfl] at f20
        refine lv_if_ne (tgt := 92) hx hb dX13_atom_84 (by decide) (fun c21 => ?_) (fun c21 => ?_)
        · --84 taken
          refine lv_iconst (v := 0) hx hb dX13_atom_92 (by decide) ?_
          refine lv_istore_n (lv' := [(2, .int 0), (1, .int r4), (0, .ref (ad 0))]) hx hb dX13_atom_93 rfl hl (by decide) rfl (fun ls hl => ?_)
          refine lv_iconst (v := 0) hx hb dX13_atom_94 (by decide) ?_
          refine lv_istore_n (lv' := [(3, .int 0), (2, .int 0), (1, .int r4), (0, .ref (ad 0))]) hx hb dX13_atom_95 rfl hl (by decide) rfl (fun ls hl => ?_)
          have hL96 : ∀ d : Nat, ∀ (w96_0_21 : Int32) (w96_0_22 : Int32) (w96_0_23 : Int32) (v96_3 : Int32) (v96_2 : Int32) (E96_ : Nat → va_E) (H : Heap) (locs : List Loc) (ls : Array Slot), 0 ≤ w96_0_21.toInt ∧ w96_0_21.toInt ≤ 201 → -1 ≤ w96_0_22.toInt ∧ w96_0_22.toInt ≤ 201 → 0 ≤ w96_0_23.toInt ∧ w96_0_23.toInt ≤ 8 → y1.toInt ≤ w96_0_21.toInt → y3.toInt ≤ w96_0_23.toInt → (w96_0_22.toInt = -1 → w96_0_23.toInt = y3.toInt) → (w96_0_22.toInt = -1 → y2.toInt = -1) → 201 - w96_0_21.toInt < (d : Int) → IX cT shM spM 72 ad E96_ → Kp w_atom E E96_ → xv (E96_ 0) 21 = .int w96_0_21 → xv (E96_ 0) 22 = .int w96_0_22 → xv (E96_ 0) 23 = .int w96_0_23 → va_P (dC, dI) vwCl (WX 72 ad E96_) H → va_S A s.heap H locs → lv_has ls 4 [(3, .int v96_3), (2, .int v96_2), (1, .int r4), (0, .ref (ad 0))] → W p l e (headSpec v_atom (rm_atom n)).room s m args below meth c H locs 0 0 Q (F0 m 96 ls []) := by
            intro d
            induction d with
            | zero =>
              intro w96_0_21 w96_0_22 w96_0_23 v96_3 v96_2 E96_ H locs ls hw96_0_21 hw96_0_22 hw96_0_23 hx96_0 hx96_1 hx96_2 hx96_3 hx96_4 hI hKp hs96_0_21 hs96_0_22 hs96_0_23 hP hS hl
              exact absurd hx96_4 (by first | exact ms_zu hw96_0_21.2 | omega)
            | succ d ih96 =>
              intro w96_0_21 w96_0_22 w96_0_23 v96_3 v96_2 E96_ H locs ls hw96_0_21 hw96_0_22 hw96_0_23 hx96_0 hx96_1 hx96_2 hx96_3 hx96_4 hI hKp hs96_0_21 hs96_0_22 hs96_0_23 hP hS hl
              refine lv_aload_n hx hb dX13_atom_96 rfl (lv_at hl 3 rfl) ?_
              refine th_ri (va_runV (As := []) (rest := []) ⟨hx, hb, hml, hown, hts⟩ (q_isDigit l dC dI cT ad E96_ H.size k nl hI (by exact hh0) (by exact hh1) (by exact hh2) (by exact (hKp 0 18 rfl).trans hh3) (by (try rw [hKp.ei 0 19 rfl]); exact hh4)) (cwV 0 hts (gi_V (in_26 _ (zs16 (zs4 (zs1 (zs1 (zs1 (zs0))))))) (in_26 _ (zs16 (zs4 (zs4 (zs0))))) (in_26 _ (zs16 (zs4 (zs4 (zs1 (zs0)))))) (in_24 _ (zs4 (zs4 (zs4 (zs1 (zs1 (zs1 (zs0)))))))) (in_26 _ (zs16 (zs4 (zs4 (zs1 (zs1 (zs0)))))))) rfl rfl rfl ⟨rfl, hz_yX13_isDigit_0⟩ ⟨(show 0 + 1 ≤ 7 * n + 5 from nl_1 (Nat.le_of_ble_eq_true rfl)), (show 8 + (1 + 11) + 40 * (0) ≤ 40 * (7 * n + 5) from nl_2 (Nat.le_of_ble_eq_true rfl))⟩) ⟨HW_bl, va_recv hK hP (ci := 14) (q0 := 0) rfl (hI.ob 0 (Nat.le_of_ble_eq_true rfl) rfl), (HW_wi hP hK (WX_D hD) hS hA hEV)⟩ rfl rfl hl.1 rfl (lv_room (Nat.le_of_ble_eq_true rfl)) dX13_atom_97 ⟨Nat.le_of_ble_eq_true rfl, Nat.le_of_ble_eq_true rfl⟩) hS hP (fun r22 H locs hw hP hS => ?_)
              rcases hw with hw | hw
              · -- isDigit, case 0
                obtain ⟨rfl, f23⟩ := hw
                try rw [(show xi (E96_ 0) 21 = w96_0_21 from vi_e hs96_0_21)] at f23
                try rw [hKp.ei 0 20 rfl] at f23
                refine lv_if_eq (tgt := 162) hx hb dX13_atom_100 (by decide) (fun c24 => ?_) (fun c24 => ?_)
                · --100 taken
                  exact absurd c24 (by decide)
                · --100 not
                  refine lv_aload_n hx hb dX13_atom_103 rfl (lv_at hl 3 rfl) ?_
                  refine th_get (ci := 14) (C := RX13) (T := TX13) (N := 97) (v := .int w96_0_22) hx hb hts hinX13 hown hK hP hI 0 (Nat.le_of_ble_eq_true rfl) rfl rfl 22 (Nat.le_of_ble_eq_true rfl) (hts _ (vA_in _ _ (in_25 _ (zs16 (zs16 (zs4 (zs1 (zs1 (zs1 (zs0)))))))))) (fun _ h9 => h9) hs96_0_22 dX13_atom_104 ?_
                  refine lv_iconst (v := -1) hx hb dX13_atom_107 (by decide) ?_
                  refine lv_icmp_ne (tgt := 162) hx hb dX13_atom_108 (by decide) (fun c25 => ?_) (fun c25 => ?_)
                  · --108 taken
                    have t26 : ¬ w96_0_22.toInt = -1 := ti_ne c25
                    have i27 : 0 ≤ w96_0_22.toInt ∧ w96_0_22.toInt ≤ 201 := iv_ne_l t26 hw96_0_22 (il_ (-1))
                    refine lv_iload_n hx hb dX13_atom_162 rfl (lv_at hl 1 rfl) ?_
                    rw [hQ]
                    exact W.iret (v := v96_2) hx hb hr (fun t ht hW => ⟨⟨v96_2, E96_, rfl, ⟨hI, hKp, ⟨by (try rw [(show xi (E96_ 0) 21 = w96_0_21 from vi_e hs96_0_21)]); (try rw [ey1]); first | done | exact hx96_0 | all_goals omega, by (try rw [(show xi (E96_ 0) 23 = w96_0_23 from vi_e hs96_0_23)]); (try rw [ey3]); first | done | exact hx96_1 | all_goals omega, by (try rw [(show xi (E96_ 0) 22 = w96_0_22 from vi_e hs96_0_22)]); (try rw [(show xi (E96_ 0) 23 = w96_0_23 from vi_e hs96_0_23)]); (try rw [ey2]); (try rw [ey3]); first | done | exact fun q9 => absurd (q9) t26 | all_goals omega, by (try rw [(show xi (E96_ 0) 22 = w96_0_22 from vi_e hs96_0_22)]); (try rw [ey2]); first | done | exact fun q9 => absurd (q9) t26 | all_goals omega⟩⟩, by show va_P (dC, dI) vwCl (WX 72 ad E96_) t.heap; rw [ht]; exact hP⟩, hS.F ht⟩) hS.2.2 dX13_atom_163
                  · --108 not
                    have t28 : w96_0_22.toInt = -1 := ti_eq c25
                    have i29 : -1 ≤ w96_0_22.toInt ∧ w96_0_22.toInt ≤ -1 := iv_eqi t28 hw96_0_22 (il_ (-1)) (by decide)
                    refine lv_iload_n hx hb dX13_atom_111 rfl (lv_at hl 0 rfl) ?_
                    refine lv_iconst (v := 5) hx hb dX13_atom_112 (by decide) ?_
                    refine lv_icmp_ne (tgt := 123) hx hb dX13_atom_113 (by decide) (fun c30 => ?_) (fun c30 => ?_)
                    · --113 taken
                      have t31 : ¬ v96_3.toInt = 5 := ti_ne c30
                      refine lv_bipush (v := 10) hx hb dX13_atom_123 (by decide) ?_
                      refine lv_iload_n hx hb dX13_atom_125 rfl (lv_at hl 1 rfl) ?_
                      refine lv_imul hx hb dX13_atom_126 ?_
                      refine lv_topi (fun y32 ey32 => ?_)
                      refine lv_aload_n hx hb dX13_atom_127 rfl (lv_at hl 3 rfl) ?_
                      refine th_get (ci := 14) (C := RX13) (T := TX13) (N := 97) (v := .ref (ad k)) hx hb hts hinX13 hown hK hP hI 0 (Nat.le_of_ble_eq_true rfl) rfl rfl 18 (Nat.le_of_ble_eq_true rfl) (hts _ (vA_in _ _ (in_26 _ zs0))) (fun _ h9 => h9) ((hKp 0 18 rfl).trans hh3) dX13_atom_128 ?_
                      refine lv_aload_n hx hb dX13_atom_131 rfl (lv_at hl 3 rfl) ?_
                      refine th_get (ci := 14) (C := RX13) (T := TX13) (N := 97) (v := .int (xi (E 0) 19)) hx hb hts hinX13 hown hK hP hI 0 (Nat.le_of_ble_eq_true rfl) rfl rfl 19 (Nat.le_of_ble_eq_true rfl) (hts _ (vA_in _ _ (in_26 _ (zs1 (zs0))))) (fun _ h9 => h9) (th_v0 hKp hI0 0 (Nat.le_of_ble_eq_true rfl) rfl (Nat.le_of_ble_eq_true rfl) rfl rfl) dX13_atom_132 ?_
                      refine lv_aload_n hx hb dX13_atom_135 rfl (lv_at hl 3 rfl) ?_
                      refine th_get (ci := 14) (C := RX13) (T := TX13) (N := 97) (v := .int w96_0_21) hx hb hts hinX13 hown hK hP hI 0 (Nat.le_of_ble_eq_true rfl) rfl rfl 21 (Nat.le_of_ble_eq_true rfl) (hts _ (vA_in _ _ (in_25 _ (zs16 (zs16 (zs4 (zs0))))))) (fun _ h9 => h9) hs96_0_21 dX13_atom_136 ?_
                      refine lv_iadd hx hb dX13_atom_139 ?_
                      refine lv_topi (fun y33 ey33 => ?_)
                      obtain ⟨ty33, iy33⟩ := ti_add (e := 0) (f := 3201) i12 hw96_0_21 ey33 (by decide)
                      have ty33 : y33.toInt = (xi (E 0) 19).toInt + w96_0_21.toInt := ty33
                      have iy33 : 0 ≤ y33.toInt ∧ y33.toInt ≤ 3201 := iy33
                      have n35 : vp_in y33 nl := (vp_in_iff.mpr ⟨by omega, by omega⟩)
                      refine th_bald hx hb hK hP hI k hh0 hh1 rfl n35 dX13_atom_140 (fun y34 ey34 => ?_)
                      have iy34 : -128 ≤ y34.toInt ∧ y34.toInt ≤ 127 := hI.el k hh0 hh1 n35 hh2 ey34
                      refine lv_iadd hx hb dX13_atom_141 ?_
                      refine lv_topi (fun y36 ey36 => ?_)
                      refine lv_bipush (v := 48) hx hb dX13_atom_142 (by decide) ?_
                      refine lv_isub hx hb dX13_atom_144 ?_
                      refine lv_topi (fun y37 ey37 => ?_)
                      refine lv_istore_n (lv' := [(2, .int y37), (3, .int v96_3), (1, .int r4), (0, .ref (ad 0))]) hx hb dX13_atom_145 rfl hl (by decide) rfl (fun ls hl => ?_)
                      refine lv_aload_n hx hb dX13_atom_146 rfl (lv_at hl 3 rfl) ?_
                      refine lv_dup hx hb dX13_atom_147 rfl ?_
                      refine th_get (ci := 14) (C := RX13) (T := TX13) (N := 97) (v := .int w96_0_21) hx hb hts hinX13 hown hK hP hI 0 (Nat.le_of_ble_eq_true rfl) rfl rfl 21 (Nat.le_of_ble_eq_true rfl) (hts _ (vA_in _ _ (in_25 _ (zs16 (zs16 (zs4 (zs0))))))) (fun _ h9 => h9) hs96_0_21 dX13_atom_148 ?_
                      refine lv_iconst (v := 1) hx hb dX13_atom_151 (by decide) ?_
                      refine lv_iadd hx hb dX13_atom_152 ?_
                      refine lv_topi (fun y38 ey38 => ?_)
                      obtain ⟨ty38, iy38⟩ := ti_add (e := 1) (f := 202) hw96_0_21 ln_1 ey38 (by decide)
                      have ty38 : y38.toInt = w96_0_21.toInt + 1 := ty38
                      have iy38 : 1 ≤ y38.toInt ∧ y38.toInt ≤ 202 := iy38
                      have i39 : 1 ≤ y38.toInt ∧ y38.toInt ≤ 201 := by omega
                      refine th_put (ci := 14) (C := RX13) (T := TX13) (N := 97) (v := .int y38) (ty := .int) hx hb hts hinX13 tyX13 tyX13_ok nmX13 hown hK hP (WX_D hD) hS hI 0 (Nat.le_of_ble_eq_true rfl) rfl rfl 21 (Nat.le_of_ble_eq_true rfl) (hts _ (vA_in _ _ (in_25 _ (zs16 (zs16 (zs4 (zs0))))))) (fun _ h9 => h9) rfl (by decide +kernel) rfl rfl (okI rfl (iv_w i39 (by decide))) dX13_atom_153 (fun H locs E40 pw41 hI hP hS => ?_)
                      have hKp := hKp.pw pw41 rfl
                      obtain ⟨y42, ey42⟩ : ∃ y : Int32, y = v96_3 + (1 : Int32) := ⟨_, rfl⟩
                      refine lv_iinc (v := y42) (lv' := [(3, .int y42), (2, .int y37), (1, .int r4), (0, .ref (ad 0))]) hx hb dX13_atom_156 hl (k := 1) rfl (by rw [ey42]; rfl) (by decide) rfl (fun ls hl => ?_)
                      refine lv_goto (tgt := 96) hx hb dX13_atom_159 (by decide) ?_
                      exact ih96 y38 w96_0_22 w96_0_23 y42 y37 E40 _ _ _ (iv_w i39 (by decide)) (iv_w i29 (by decide)) hw96_0_23 (by  first | exact (Int.le_trans hx96_0 (Int.le_trans (Int.le_add_of_nonneg_right (by decide)) (Int.le_of_eq ty38.symm))) | omega) (by  first | exact hx96_1 | omega) (by  first | exact fun q9 => (hx96_2 (q9)) | omega) (by  first | exact fun q9 => hx96_3 (q9) | omega) (by omega) hI hKp pw41.1 ((pw41.2 0 22 (fun q9 => absurd q9.2 (Nat.ne_of_beq_eq_false rfl))).trans hs96_0_22) ((pw41.2 0 23 (fun q9 => absurd q9.2 (Nat.ne_of_beq_eq_false rfl))).trans hs96_0_23) hP hS (lv_sub hl [0, 1, 2, 3] rfl)
                    · --113 not
                      have t43 : v96_3.toInt = 5 := ti_eq c30
                      have i44 : 5 ≤ v96_3.toInt ∧ v96_3.toInt ≤ 5 := iv_eqi t43 (iv_all _) (il_ 5) (by decide)
                      refine lv_aload_n hx hb dX13_atom_116 rfl (lv_at hl 3 rfl) ?_
                      refine th_i (va_runV (As := []) (rest := []) ⟨hx, hb, hml, hown, hts⟩ (q_stop l dC dI cT ad E96_ H.size hI) (cwV 0 hts (gi_V (in_26 _ (zs4 (zs4 (zs4 (zs0))))) (in_26 _ (zs4 (zs4 (zs4 (zs1 (zs0)))))) (in_26 _ (zs4 (zs4 (zs4 (zs1 (zs1 (zs0))))))) (in_24 _ (zs4 (zs4 (zs4 (zs1 (zs1 (zs1 (zs0)))))))) (in_26 _ (zs4 (zs4 (zs4 (zs1 (zs1 (zs1 (zs0))))))))) rfl rfl rfl ⟨rfl, hz_yX13_stop_0⟩ ⟨(show 0 + 1 ≤ 7 * n + 5 from nl_1 (Nat.le_of_ble_eq_true rfl)), (show 8 + (1 + 11) + 40 * (0) ≤ 40 * (7 * n + 5) from nl_2 (Nat.le_of_ble_eq_true rfl))⟩) ⟨HW_bl, va_recv hK hP (ci := 14) (q0 := 0) rfl (hI.ob 0 (Nat.le_of_ble_eq_true rfl) rfl), (HW_wi hP hK (WX_D hD) hS hA hEV)⟩ rfl rfl hl.1 rfl (lv_room (Nat.le_of_ble_eq_true rfl)) dX13_atom_117 ⟨Nat.le_of_ble_eq_true rfl, Nat.le_of_ble_eq_true rfl⟩) (WX_D hD) hS hA (fun r45 E46 H locs hw hP hS => ?_)
                      obtain ⟨hI, kq47, hw⟩ := hw
                      have hKb := hKp
                      have hKp := hKp.tr kq47 (wl_sub rfl rfl)
                      obtain ⟨y48, ey48⟩ : ∃ y, xi (E46 0) 22 = y := ⟨_, rfl⟩
                      have fy48 : xv (E46 0) 22 = .int y48 := (hI.fi 0 (Nat.le_of_ble_eq_true rfl) rfl (Nat.le_of_ble_eq_true rfl) rfl).trans (congrArg Value.int ey48)
                      have iy48 : -1 ≤ y48.toInt ∧ y48.toInt ≤ 201 := by rw [← ey48]; exact hI.iv 0 (Nat.le_of_ble_eq_true rfl) rfl (Nat.le_of_ble_eq_true rfl) rfl
                      obtain ⟨rfl, f49⟩ := hw
                      try rw [(show xi (E96_ 0) 22 = w96_0_22 from vi_e hs96_0_22)] at f49
                      try rw [(show xi (E46 0) 22 = y48 from vi_e fy48)] at f49
                      refine lv_pop hx hb dX13_atom_120 rfl ?_
                      refine lv_iconst (v := 0) hx hb dX13_atom_121 (by decide) ?_
                      rw [hQ]
                      exact W.iret (v := 0) hx hb hr (fun t ht hW => ⟨⟨0, E46, rfl, ⟨hI, hKp, ⟨by (try rw [(show xi (E46 0) 21 = w96_0_21 from vi_e ((kq47 0 21 rfl).trans hs96_0_21))]); (try rw [ey1]); first | done | exact hx96_0 | have h8 := ln_0; all_goals omega, by (try rw [(show xi (E46 0) 23 = w96_0_23 from vi_e ((kq47 0 23 rfl).trans hs96_0_23))]); (try rw [ey3]); first | done | exact hx96_1 | have h8 := ln_0; all_goals omega, by (try rw [(show xi (E46 0) 22 = y48 from vi_e fy48)]); (try rw [(show xi (E46 0) 23 = w96_0_23 from vi_e ((kq47 0 23 rfl).trans hs96_0_23))]); (try rw [ey2]); (try rw [ey3]); first | done | exact fun q9 => absurd (q9) f49 | have h8 := ln_0; all_goals omega, by (try rw [(show xi (E46 0) 22 = y48 from vi_e fy48)]); (try rw [ey2]); first | done | exact fun q9 => absurd (q9) f49 | have h8 := ln_0; all_goals omega⟩⟩, by show va_P (dC, dI) vwCl (WX 72 ad E46) t.heap; rw [ht]; exact hP⟩, hS.F ht⟩) hS.2.2 dX13_atom_122
              · -- isDigit, case 1
                obtain rfl := hw
                refine lv_if_eq (tgt := 162) hx hb dX13_atom_100 (by decide) (fun c50 => ?_) (fun c50 => ?_)
                · --100 taken
                  refine lv_iload_n hx hb dX13_atom_162 rfl (lv_at hl 1 rfl) ?_
                  rw [hQ]
                  exact W.iret (v := v96_2) hx hb hr (fun t ht hW => ⟨⟨v96_2, E96_, rfl, ⟨hI, hKp, ⟨by (try rw [(show xi (E96_ 0) 21 = w96_0_21 from vi_e hs96_0_21)]); (try rw [ey1]); first | done | exact hx96_0 | all_goals omega, by (try rw [(show xi (E96_ 0) 23 = w96_0_23 from vi_e hs96_0_23)]); (try rw [ey3]); first | done | exact hx96_1 | all_goals omega, by (try rw [(show xi (E96_ 0) 22 = w96_0_22 from vi_e hs96_0_22)]); (try rw [(show xi (E96_ 0) 23 = w96_0_23 from vi_e hs96_0_23)]); (try rw [ey2]); (try rw [ey3]); first | done | exact fun q9 => (hx96_2 (q9)) | all_goals omega, by (try rw [(show xi (E96_ 0) 22 = w96_0_22 from vi_e hs96_0_22)]); (try rw [ey2]); first | done | exact fun q9 => hx96_3 (q9) | all_goals omega⟩⟩, by show va_P (dC, dI) vwCl (WX 72 ad E96_) t.heap; rw [ht]; exact hP⟩, hS.F ht⟩) hS.2.2 dX13_atom_163
                · --100 not
                  exact absurd c50 (by decide)
          exact hL96 (202) y7 y2 y3 (0 : Int32) (0 : Int32) E5 _ _ _ iy7 iy2 iy3 (by  first | exact f9 | omega) (by  first | exact Int.le_refl _ | omega) (by  first | exact fun q9 => rfl | omega) (by  first | exact fun q9 => q9 | omega) (by have h9 := iy7; first | exact ms_bu h9.1 (by decide) | omega) hI hKp fy7 ((kq6 0 22 rfl).trans fy2) ((kq6 0 23 rfl).trans fy3) hP hS (lv_sub hl [0, 1, 2, 3] rfl)
        · --84 not
          exact absurd c21 (by decide)
      · -- isDigit, case 1
        obtain rfl := hw
        refine lv_if_ne (tgt := 92) hx hb dX13_atom_84 (by decide) (fun c51 => ?_) (fun c51 => ?_)
        · --84 taken
          exact absurd c51 (by decide)
        · --84 not
          refine lv_aload_n hx hb dX13_atom_87 rfl (lv_at hl 1 rfl) ?_
          refine th_i (va_runV (As := []) (rest := []) ⟨hx, hb, hml, hown, hts⟩ (q_stop l dC dI cT ad E5 H.size hI) (cwV 0 hts (gi_V (in_26 _ (zs4 (zs4 (zs4 (zs0))))) (in_26 _ (zs4 (zs4 (zs4 (zs1 (zs0)))))) (in_26 _ (zs4 (zs4 (zs4 (zs1 (zs1 (zs0))))))) (in_24 _ (zs4 (zs4 (zs4 (zs1 (zs1 (zs1 (zs0)))))))) (in_26 _ (zs4 (zs4 (zs4 (zs1 (zs1 (zs1 (zs0))))))))) rfl rfl rfl ⟨rfl, hz_yX13_stop_0⟩ ⟨(show 0 + 1 ≤ 7 * n + 5 from nl_1 (Nat.le_of_ble_eq_true rfl)), (show 8 + (1 + 11) + 40 * (0) ≤ 40 * (7 * n + 5) from nl_2 (Nat.le_of_ble_eq_true rfl))⟩) ⟨HW_bl, va_recv hK hP (ci := 14) (q0 := 0) rfl (hI.ob 0 (Nat.le_of_ble_eq_true rfl) rfl), (HW_wi hP hK (WX_D hD) hS hA hEV)⟩ rfl rfl hl.1 rfl (lv_room (Nat.le_of_ble_eq_true rfl)) dX13_atom_88 ⟨Nat.le_of_ble_eq_true rfl, Nat.le_of_ble_eq_true rfl⟩) (WX_D hD) hS hA (fun r52 E53 H locs hw hP hS => ?_)
          obtain ⟨hI, kq54, hw⟩ := hw
          have hKb := hKp
          have hKp := hKp.tr kq54 (wl_sub rfl rfl)
          obtain ⟨y55, ey55⟩ : ∃ y, xi (E53 0) 22 = y := ⟨_, rfl⟩
          have fy55 : xv (E53 0) 22 = .int y55 := (hI.fi 0 (Nat.le_of_ble_eq_true rfl) rfl (Nat.le_of_ble_eq_true rfl) rfl).trans (congrArg Value.int ey55)
          have iy55 : -1 ≤ y55.toInt ∧ y55.toInt ≤ 201 := by rw [← ey55]; exact hI.iv 0 (Nat.le_of_ble_eq_true rfl) rfl (Nat.le_of_ble_eq_true rfl) rfl
          obtain ⟨rfl, f56⟩ := hw
          try rw [(show xi (E5 0) 22 = y2 from vi_e ((kq6 0 22 rfl).trans fy2))] at f56
          try rw [(show xi (E53 0) 22 = y55 from vi_e fy55)] at f56
          refine lv_pop hx hb dX13_atom_91 rfl ?_
          refine lv_iconst (v := 0) hx hb dX13_atom_92 (by decide) ?_
          refine lv_istore_n (lv' := [(2, .int 0), (1, .int r4), (0, .ref (ad 0))]) hx hb dX13_atom_93 rfl hl (by decide) rfl (fun ls hl => ?_)
          refine lv_iconst (v := 0) hx hb dX13_atom_94 (by decide) ?_
          refine lv_istore_n (lv' := [(3, .int 0), (2, .int 0), (1, .int r4), (0, .ref (ad 0))]) hx hb dX13_atom_95 rfl hl (by decide) rfl (fun ls hl => ?_)
          have hL96 : ∀ d : Nat, ∀ (w96_0_21 : Int32) (w96_0_22 : Int32) (w96_0_23 : Int32) (v96_3 : Int32) (v96_2 : Int32) (E96_ : Nat → va_E) (H : Heap) (locs : List Loc) (ls : Array Slot), 0 ≤ w96_0_21.toInt ∧ w96_0_21.toInt ≤ 201 → -1 ≤ w96_0_22.toInt ∧ w96_0_22.toInt ≤ 201 → 0 ≤ w96_0_23.toInt ∧ w96_0_23.toInt ≤ 8 → y1.toInt ≤ w96_0_21.toInt → y3.toInt ≤ w96_0_23.toInt → (w96_0_22.toInt = -1 → w96_0_23.toInt = y3.toInt) → (w96_0_22.toInt = -1 → y2.toInt = -1) → 201 - w96_0_21.toInt < (d : Int) → IX cT shM spM 72 ad E96_ → Kp w_atom E E96_ → xv (E96_ 0) 21 = .int w96_0_21 → xv (E96_ 0) 22 = .int w96_0_22 → xv (E96_ 0) 23 = .int w96_0_23 → va_P (dC, dI) vwCl (WX 72 ad E96_) H → va_S A s.heap H locs → lv_has ls 4 [(3, .int v96_3), (2, .int v96_2), (1, .int r4), (0, .ref (ad 0))] → W p l e (headSpec v_atom (rm_atom n)).room s m args below meth c H locs 0 0 Q (F0 m 96 ls []) := by
            intro d
            induction d with
            | zero =>
              intro w96_0_21 w96_0_22 w96_0_23 v96_3 v96_2 E96_ H locs ls hw96_0_21 hw96_0_22 hw96_0_23 hx96_0 hx96_1 hx96_2 hx96_3 hx96_4 hI hKp hs96_0_21 hs96_0_22 hs96_0_23 hP hS hl
              exact absurd hx96_4 (by first | exact ms_zu hw96_0_21.2 | omega)
            | succ d ih96 =>
              intro w96_0_21 w96_0_22 w96_0_23 v96_3 v96_2 E96_ H locs ls hw96_0_21 hw96_0_22 hw96_0_23 hx96_0 hx96_1 hx96_2 hx96_3 hx96_4 hI hKp hs96_0_21 hs96_0_22 hs96_0_23 hP hS hl
              refine lv_aload_n hx hb dX13_atom_96 rfl (lv_at hl 3 rfl) ?_
              refine th_ri (va_runV (As := []) (rest := []) ⟨hx, hb, hml, hown, hts⟩ (q_isDigit l dC dI cT ad E96_ H.size k nl hI (by exact hh0) (by exact hh1) (by exact hh2) (by exact (hKp 0 18 rfl).trans hh3) (by (try rw [hKp.ei 0 19 rfl]); exact hh4)) (cwV 0 hts (gi_V (in_26 _ (zs16 (zs4 (zs1 (zs1 (zs1 (zs0))))))) (in_26 _ (zs16 (zs4 (zs4 (zs0))))) (in_26 _ (zs16 (zs4 (zs4 (zs1 (zs0)))))) (in_24 _ (zs4 (zs4 (zs4 (zs1 (zs1 (zs1 (zs0)))))))) (in_26 _ (zs16 (zs4 (zs4 (zs1 (zs1 (zs0)))))))) rfl rfl rfl ⟨rfl, hz_yX13_isDigit_0⟩ ⟨(show 0 + 1 ≤ 7 * n + 5 from nl_1 (Nat.le_of_ble_eq_true rfl)), (show 8 + (1 + 11) + 40 * (0) ≤ 40 * (7 * n + 5) from nl_2 (Nat.le_of_ble_eq_true rfl))⟩) ⟨HW_bl, va_recv hK hP (ci := 14) (q0 := 0) rfl (hI.ob 0 (Nat.le_of_ble_eq_true rfl) rfl), (HW_wi hP hK (WX_D hD) hS hA hEV)⟩ rfl rfl hl.1 rfl (lv_room (Nat.le_of_ble_eq_true rfl)) dX13_atom_97 ⟨Nat.le_of_ble_eq_true rfl, Nat.le_of_ble_eq_true rfl⟩) hS hP (fun r57 H locs hw hP hS => ?_)
              rcases hw with hw | hw
              · -- isDigit, case 0
                obtain ⟨rfl, f58⟩ := hw
                try rw [(show xi (E96_ 0) 21 = w96_0_21 from vi_e hs96_0_21)] at f58
                try rw [hKp.ei 0 20 rfl] at f58
                refine lv_if_eq (tgt := 162) hx hb dX13_atom_100 (by decide) (fun c59 => ?_) (fun c59 => ?_)
                · --100 taken
                  exact absurd c59 (by decide)
                · --100 not
                  refine lv_aload_n hx hb dX13_atom_103 rfl (lv_at hl 3 rfl) ?_
                  refine th_get (ci := 14) (C := RX13) (T := TX13) (N := 97) (v := .int w96_0_22) hx hb hts hinX13 hown hK hP hI 0 (Nat.le_of_ble_eq_true rfl) rfl rfl 22 (Nat.le_of_ble_eq_true rfl) (hts _ (vA_in _ _ (in_25 _ (zs16 (zs16 (zs4 (zs1 (zs1 (zs1 (zs0)))))))))) (fun _ h9 => h9) hs96_0_22 dX13_atom_104 ?_
                  refine lv_iconst (v := -1) hx hb dX13_atom_107 (by decide) ?_
                  refine lv_icmp_ne (tgt := 162) hx hb dX13_atom_108 (by decide) (fun c60 => ?_) (fun c60 => ?_)
                  · --108 taken
                    have t61 : ¬ w96_0_22.toInt = -1 := ti_ne c60
                    have i62 : 0 ≤ w96_0_22.toInt ∧ w96_0_22.toInt ≤ 201 := iv_ne_l t61 hw96_0_22 (il_ (-1))
                    refine lv_iload_n hx hb dX13_atom_162 rfl (lv_at hl 1 rfl) ?_
                    rw [hQ]
                    exact W.iret (v := v96_2) hx hb hr (fun t ht hW => ⟨⟨v96_2, E96_, rfl, ⟨hI, hKp, ⟨by (try rw [(show xi (E96_ 0) 21 = w96_0_21 from vi_e hs96_0_21)]); (try rw [ey1]); first | done | exact hx96_0 | all_goals omega, by (try rw [(show xi (E96_ 0) 23 = w96_0_23 from vi_e hs96_0_23)]); (try rw [ey3]); first | done | exact hx96_1 | all_goals omega, by (try rw [(show xi (E96_ 0) 22 = w96_0_22 from vi_e hs96_0_22)]); (try rw [(show xi (E96_ 0) 23 = w96_0_23 from vi_e hs96_0_23)]); (try rw [ey2]); (try rw [ey3]); first | done | exact fun q9 => absurd (q9) t61 | all_goals omega, by (try rw [(show xi (E96_ 0) 22 = w96_0_22 from vi_e hs96_0_22)]); (try rw [ey2]); first | done | exact fun q9 => absurd (q9) t61 | all_goals omega⟩⟩, by show va_P (dC, dI) vwCl (WX 72 ad E96_) t.heap; rw [ht]; exact hP⟩, hS.F ht⟩) hS.2.2 dX13_atom_163
                  · --108 not
                    have t63 : w96_0_22.toInt = -1 := ti_eq c60
                    have i64 : -1 ≤ w96_0_22.toInt ∧ w96_0_22.toInt ≤ -1 := iv_eqi t63 hw96_0_22 (il_ (-1)) (by decide)
                    refine lv_iload_n hx hb dX13_atom_111 rfl (lv_at hl 0 rfl) ?_
                    refine lv_iconst (v := 5) hx hb dX13_atom_112 (by decide) ?_
                    refine lv_icmp_ne (tgt := 123) hx hb dX13_atom_113 (by decide) (fun c65 => ?_) (fun c65 => ?_)
                    · --113 taken
                      have t66 : ¬ v96_3.toInt = 5 := ti_ne c65
                      refine lv_bipush (v := 10) hx hb dX13_atom_123 (by decide) ?_
                      refine lv_iload_n hx hb dX13_atom_125 rfl (lv_at hl 1 rfl) ?_
                      refine lv_imul hx hb dX13_atom_126 ?_
                      refine lv_topi (fun y67 ey67 => ?_)
                      refine lv_aload_n hx hb dX13_atom_127 rfl (lv_at hl 3 rfl) ?_
                      refine th_get (ci := 14) (C := RX13) (T := TX13) (N := 97) (v := .ref (ad k)) hx hb hts hinX13 hown hK hP hI 0 (Nat.le_of_ble_eq_true rfl) rfl rfl 18 (Nat.le_of_ble_eq_true rfl) (hts _ (vA_in _ _ (in_26 _ zs0))) (fun _ h9 => h9) ((hKp 0 18 rfl).trans hh3) dX13_atom_128 ?_
                      refine lv_aload_n hx hb dX13_atom_131 rfl (lv_at hl 3 rfl) ?_
                      refine th_get (ci := 14) (C := RX13) (T := TX13) (N := 97) (v := .int (xi (E 0) 19)) hx hb hts hinX13 hown hK hP hI 0 (Nat.le_of_ble_eq_true rfl) rfl rfl 19 (Nat.le_of_ble_eq_true rfl) (hts _ (vA_in _ _ (in_26 _ (zs1 (zs0))))) (fun _ h9 => h9) (th_v0 hKp hI0 0 (Nat.le_of_ble_eq_true rfl) rfl (Nat.le_of_ble_eq_true rfl) rfl rfl) dX13_atom_132 ?_
                      refine lv_aload_n hx hb dX13_atom_135 rfl (lv_at hl 3 rfl) ?_
                      refine th_get (ci := 14) (C := RX13) (T := TX13) (N := 97) (v := .int w96_0_21) hx hb hts hinX13 hown hK hP hI 0 (Nat.le_of_ble_eq_true rfl) rfl rfl 21 (Nat.le_of_ble_eq_true rfl) (hts _ (vA_in _ _ (in_25 _ (zs16 (zs16 (zs4 (zs0))))))) (fun _ h9 => h9) hs96_0_21 dX13_atom_136 ?_
                      refine lv_iadd hx hb dX13_atom_139 ?_
                      refine lv_topi (fun y68 ey68 => ?_)
                      obtain ⟨ty68, iy68⟩ := ti_add (e := 0) (f := 3201) i12 hw96_0_21 ey68 (by decide)
                      have ty68 : y68.toInt = (xi (E 0) 19).toInt + w96_0_21.toInt := ty68
                      have iy68 : 0 ≤ y68.toInt ∧ y68.toInt ≤ 3201 := iy68
                      have n70 : vp_in y68 nl := (vp_in_iff.mpr ⟨by omega, by omega⟩)
                      refine th_bald hx hb hK hP hI k hh0 hh1 rfl n70 dX13_atom_140 (fun y69 ey69 => ?_)
                      have iy69 : -128 ≤ y69.toInt ∧ y69.toInt ≤ 127 := hI.el k hh0 hh1 n70 hh2 ey69
                      refine lv_iadd hx hb dX13_atom_141 ?_
                      refine lv_topi (fun y71 ey71 => ?_)
                      refine lv_bipush (v := 48) hx hb dX13_atom_142 (by decide) ?_
                      refine lv_isub hx hb dX13_atom_144 ?_
                      refine lv_topi (fun y72 ey72 => ?_)
                      refine lv_istore_n (lv' := [(2, .int y72), (3, .int v96_3), (1, .int r4), (0, .ref (ad 0))]) hx hb dX13_atom_145 rfl hl (by decide) rfl (fun ls hl => ?_)
                      refine lv_aload_n hx hb dX13_atom_146 rfl (lv_at hl 3 rfl) ?_
                      refine lv_dup hx hb dX13_atom_147 rfl ?_
                      refine th_get (ci := 14) (C := RX13) (T := TX13) (N := 97) (v := .int w96_0_21) hx hb hts hinX13 hown hK hP hI 0 (Nat.le_of_ble_eq_true rfl) rfl rfl 21 (Nat.le_of_ble_eq_true rfl) (hts _ (vA_in _ _ (in_25 _ (zs16 (zs16 (zs4 (zs0))))))) (fun _ h9 => h9) hs96_0_21 dX13_atom_148 ?_
                      refine lv_iconst (v := 1) hx hb dX13_atom_151 (by decide) ?_
                      refine lv_iadd hx hb dX13_atom_152 ?_
                      refine lv_topi (fun y73 ey73 => ?_)
                      obtain ⟨ty73, iy73⟩ := ti_add (e := 1) (f := 202) hw96_0_21 ln_1 ey73 (by decide)
                      have ty73 : y73.toInt = w96_0_21.toInt + 1 := ty73
                      have iy73 : 1 ≤ y73.toInt ∧ y73.toInt ≤ 202 := iy73
                      have i74 : 1 ≤ y73.toInt ∧ y73.toInt ≤ 201 := by omega
                      refine th_put (ci := 14) (C := RX13) (T := TX13) (N := 97) (v := .int y73) (ty := .int) hx hb hts hinX13 tyX13 tyX13_ok nmX13 hown hK hP (WX_D hD) hS hI 0 (Nat.le_of_ble_eq_true rfl) rfl rfl 21 (Nat.le_of_ble_eq_true rfl) (hts _ (vA_in _ _ (in_25 _ (zs16 (zs16 (zs4 (zs0))))))) (fun _ h9 => h9) rfl (by decide +kernel) rfl rfl (okI rfl (iv_w i74 (by decide))) dX13_atom_153 (fun H locs E75 pw76 hI hP hS => ?_)
                      have hKp := hKp.pw pw76 rfl
                      obtain ⟨y77, ey77⟩ : ∃ y : Int32, y = v96_3 + (1 : Int32) := ⟨_, rfl⟩
                      refine lv_iinc (v := y77) (lv' := [(3, .int y77), (2, .int y72), (1, .int r4), (0, .ref (ad 0))]) hx hb dX13_atom_156 hl (k := 1) rfl (by rw [ey77]; rfl) (by decide) rfl (fun ls hl => ?_)
                      refine lv_goto (tgt := 96) hx hb dX13_atom_159 (by decide) ?_
                      exact ih96 y73 w96_0_22 w96_0_23 y77 y72 E75 _ _ _ (iv_w i74 (by decide)) (iv_w i64 (by decide)) hw96_0_23 (by  first | exact (Int.le_trans hx96_0 (Int.le_trans (Int.le_add_of_nonneg_right (by decide)) (Int.le_of_eq ty73.symm))) | omega) (by  first | exact hx96_1 | omega) (by  first | exact fun q9 => (hx96_2 (q9)) | omega) (by  first | exact fun q9 => hx96_3 (q9) | omega) (by omega) hI hKp pw76.1 ((pw76.2 0 22 (fun q9 => absurd q9.2 (Nat.ne_of_beq_eq_false rfl))).trans hs96_0_22) ((pw76.2 0 23 (fun q9 => absurd q9.2 (Nat.ne_of_beq_eq_false rfl))).trans hs96_0_23) hP hS (lv_sub hl [0, 1, 2, 3] rfl)
                    · --113 not
                      have t78 : v96_3.toInt = 5 := ti_eq c65
                      have i79 : 5 ≤ v96_3.toInt ∧ v96_3.toInt ≤ 5 := iv_eqi t78 (iv_all _) (il_ 5) (by decide)
                      refine lv_aload_n hx hb dX13_atom_116 rfl (lv_at hl 3 rfl) ?_
                      refine th_i (va_runV (As := []) (rest := []) ⟨hx, hb, hml, hown, hts⟩ (q_stop l dC dI cT ad E96_ H.size hI) (cwV 0 hts (gi_V (in_26 _ (zs4 (zs4 (zs4 (zs0))))) (in_26 _ (zs4 (zs4 (zs4 (zs1 (zs0)))))) (in_26 _ (zs4 (zs4 (zs4 (zs1 (zs1 (zs0))))))) (in_24 _ (zs4 (zs4 (zs4 (zs1 (zs1 (zs1 (zs0)))))))) (in_26 _ (zs4 (zs4 (zs4 (zs1 (zs1 (zs1 (zs0))))))))) rfl rfl rfl ⟨rfl, hz_yX13_stop_0⟩ ⟨(show 0 + 1 ≤ 7 * n + 5 from nl_1 (Nat.le_of_ble_eq_true rfl)), (show 8 + (1 + 11) + 40 * (0) ≤ 40 * (7 * n + 5) from nl_2 (Nat.le_of_ble_eq_true rfl))⟩) ⟨HW_bl, va_recv hK hP (ci := 14) (q0 := 0) rfl (hI.ob 0 (Nat.le_of_ble_eq_true rfl) rfl), (HW_wi hP hK (WX_D hD) hS hA hEV)⟩ rfl rfl hl.1 rfl (lv_room (Nat.le_of_ble_eq_true rfl)) dX13_atom_117 ⟨Nat.le_of_ble_eq_true rfl, Nat.le_of_ble_eq_true rfl⟩) (WX_D hD) hS hA (fun r80 E81 H locs hw hP hS => ?_)
                      obtain ⟨hI, kq82, hw⟩ := hw
                      have hKb := hKp
                      have hKp := hKp.tr kq82 (wl_sub rfl rfl)
                      obtain ⟨y83, ey83⟩ : ∃ y, xi (E81 0) 22 = y := ⟨_, rfl⟩
                      have fy83 : xv (E81 0) 22 = .int y83 := (hI.fi 0 (Nat.le_of_ble_eq_true rfl) rfl (Nat.le_of_ble_eq_true rfl) rfl).trans (congrArg Value.int ey83)
                      have iy83 : -1 ≤ y83.toInt ∧ y83.toInt ≤ 201 := by rw [← ey83]; exact hI.iv 0 (Nat.le_of_ble_eq_true rfl) rfl (Nat.le_of_ble_eq_true rfl) rfl
                      obtain ⟨rfl, f84⟩ := hw
                      try rw [(show xi (E96_ 0) 22 = w96_0_22 from vi_e hs96_0_22)] at f84
                      try rw [(show xi (E81 0) 22 = y83 from vi_e fy83)] at f84
                      refine lv_pop hx hb dX13_atom_120 rfl ?_
                      refine lv_iconst (v := 0) hx hb dX13_atom_121 (by decide) ?_
                      rw [hQ]
                      exact W.iret (v := 0) hx hb hr (fun t ht hW => ⟨⟨0, E81, rfl, ⟨hI, hKp, ⟨by (try rw [(show xi (E81 0) 21 = w96_0_21 from vi_e ((kq82 0 21 rfl).trans hs96_0_21))]); (try rw [ey1]); first | done | exact hx96_0 | have h8 := ln_0; all_goals omega, by (try rw [(show xi (E81 0) 23 = w96_0_23 from vi_e ((kq82 0 23 rfl).trans hs96_0_23))]); (try rw [ey3]); first | done | exact hx96_1 | have h8 := ln_0; all_goals omega, by (try rw [(show xi (E81 0) 22 = y83 from vi_e fy83)]); (try rw [(show xi (E81 0) 23 = w96_0_23 from vi_e ((kq82 0 23 rfl).trans hs96_0_23))]); (try rw [ey2]); (try rw [ey3]); first | done | exact fun q9 => absurd (q9) f84 | have h8 := ln_0; all_goals omega, by (try rw [(show xi (E81 0) 22 = y83 from vi_e fy83)]); (try rw [ey2]); first | done | exact fun q9 => absurd (q9) f84 | have h8 := ln_0; all_goals omega⟩⟩, by show va_P (dC, dI) vwCl (WX 72 ad E81) t.heap; rw [ht]; exact hP⟩, hS.F ht⟩) hS.2.2 dX13_atom_122
              · -- isDigit, case 1
                obtain rfl := hw
                refine lv_if_eq (tgt := 162) hx hb dX13_atom_100 (by decide) (fun c85 => ?_) (fun c85 => ?_)
                · --100 taken
                  refine lv_iload_n hx hb dX13_atom_162 rfl (lv_at hl 1 rfl) ?_
                  rw [hQ]
                  exact W.iret (v := v96_2) hx hb hr (fun t ht hW => ⟨⟨v96_2, E96_, rfl, ⟨hI, hKp, ⟨by (try rw [(show xi (E96_ 0) 21 = w96_0_21 from vi_e hs96_0_21)]); (try rw [ey1]); first | done | exact hx96_0 | all_goals omega, by (try rw [(show xi (E96_ 0) 23 = w96_0_23 from vi_e hs96_0_23)]); (try rw [ey3]); first | done | exact hx96_1 | all_goals omega, by (try rw [(show xi (E96_ 0) 22 = w96_0_22 from vi_e hs96_0_22)]); (try rw [(show xi (E96_ 0) 23 = w96_0_23 from vi_e hs96_0_23)]); (try rw [ey2]); (try rw [ey3]); first | done | exact fun q9 => (hx96_2 (q9)) | all_goals omega, by (try rw [(show xi (E96_ 0) 22 = w96_0_22 from vi_e hs96_0_22)]); (try rw [ey2]); first | done | exact fun q9 => hx96_3 (q9) | all_goals omega⟩⟩, by show va_P (dC, dI) vwCl (WX 72 ad E96_) t.heap; rw [ht]; exact hP⟩, hS.F ht⟩) hS.2.2 dX13_atom_163
                · --100 not
                  exact absurd c85 (by decide)
          exact hL96 (202) y7 y55 y3 (0 : Int32) (0 : Int32) E53 _ _ _ iy7 iy55 iy3 (by  first | exact f9 | omega) (by  first | exact Int.le_refl _ | omega) (by  first | exact fun q9 => absurd (q9) f56 | omega) (by  first | exact fun q9 => absurd (q9) f56 | omega) (by have h9 := iy7; first | exact ms_bu h9.1 (by decide) | omega) hI hKp ((kq54 0 21 rfl).trans fy7) fy55 ((kq54 0 23 rfl).trans ((kq6 0 23 rfl).trans fy3)) hP hS (lv_sub hl [0, 1, 2, 3] rfl)
    · --40 not
      have t86 : r4.toInt = 91 := ti_eq c17
      have i87 : 91 ≤ r4.toInt ∧ r4.toInt ≤ -1 := iv_eqi t86 i16 (il_ 91) (by decide)
      exact iv_no i87 (by decide)
  · --7 not
    have t88 : ¬ r4.toInt = -1 := ti_ne c14
    have i89 : 0 ≤ r4.toInt ∧ r4.toInt ≤ 255 := iv_ne_l t88 f8 (il_ (-1))
    obtain ⟨qs, vs, hqR, hSS⟩ := hEV.2.1
    refine th_ldcwS hx hb hown hqR dX13_atom_10 ?_
    refine lv_iload_n hx hb dX13_atom_13 rfl (lv_at hl 0 rfl) ?_
    refine th_pi (va_runV (As := [.int r4]) (rest := []) ⟨hx, hb, hml, hown, hts⟩ (q_indexOf l qs vs tLET r4 (by decide) (by decide)) (cwV 1 hts (gi_V (in_26 _ (zs4 (zs1 (zs1 (zs1 (zs0)))))) (in_8 _ (zs16 (zs16 (zs1 (zs0))))) (in_8 _ (zs16 (zs16 (zs1 (zs1 (zs0)))))) (in_0 _ (zs4 (zs4 (zs4 (zs1 (zs0)))))) (in_0 _ (zs4 (zs4 (zs1 (zs0)))))) rfl rfl rfl ⟨rfl, hz_yJ0_indexOf_0f7a4_1⟩ ⟨(show 3 + 1 ≤ 7 * n + 5 from nl_1 (Nat.le_of_ble_eq_true rfl)), (show 8 + (2 + 11) + 40 * (3) ≤ 40 * (7 * n + 5) from nl_2 (Nat.le_of_ble_eq_true rfl))⟩) ⟨fun a U g mk q => ⟨q.1, SS_c q.2⟩, va_Orecv hSS.1 hS, fun U hU hW => ⟨rfl, SS_w hU hW hS (fun _ h => h.elim) hSS⟩⟩ rfl rfl hl.1 rfl (lv_room (Nat.le_of_ble_eq_true rfl)) dX13_atom_14 ⟨Nat.le_of_ble_eq_true rfl, Nat.le_of_ble_eq_true rfl⟩) hS (fun r90 H1 locs1 hw hk1 hS => ?_)
    have hP := ub_keep hP hk1
    generalize H1 = H at hP hS ⊢
    generalize locs1 = locs at hS ⊢
    obtain ⟨f91, f92⟩ := hw
    refine lv_if_lt (tgt := 37) hx hb dX13_atom_17 (by decide) (fun c93 => ?_) (fun c93 => ?_)
    · --17 taken
      have t94 : r90.toInt < 0 := ti_lt c93
      have i95 : -1 ≤ r90.toInt ∧ r90.toInt ≤ -1 := iv_lt_l t94 f91 (il_ 0) (by decide)
      refine lv_iload_n hx hb dX13_atom_37 rfl (lv_at hl 0 rfl) ?_
      refine lv_bipush (v := 91) hx hb dX13_atom_38 (by decide) ?_
      refine lv_icmp_ne (tgt := 80) hx hb dX13_atom_40 (by decide) (fun c96 => ?_) (fun c96 => ?_)
      · --40 taken
        have t97 : ¬ r4.toInt = 91 := ti_ne c96
        refine lv_aload_n hx hb dX13_atom_80 rfl (lv_at hl 1 rfl) ?_
        refine th_ri (va_runV (As := []) (rest := []) ⟨hx, hb, hml, hown, hts⟩ (q_isDigit l dC dI cT ad E5 H.size k nl hI (by exact hh0) (by exact hh1) (by exact hh2) (by exact (hKp 0 18 rfl).trans hh3) (by (try rw [hKp.ei 0 19 rfl]); exact hh4)) (cwV 0 hts (gi_V (in_26 _ (zs16 (zs4 (zs1 (zs1 (zs1 (zs0))))))) (in_26 _ (zs16 (zs4 (zs4 (zs0))))) (in_26 _ (zs16 (zs4 (zs4 (zs1 (zs0)))))) (in_24 _ (zs4 (zs4 (zs4 (zs1 (zs1 (zs1 (zs0)))))))) (in_26 _ (zs16 (zs4 (zs4 (zs1 (zs1 (zs0)))))))) rfl rfl rfl ⟨rfl, hz_yX13_isDigit_0⟩ ⟨(show 0 + 1 ≤ 7 * n + 5 from nl_1 (Nat.le_of_ble_eq_true rfl)), (show 8 + (1 + 11) + 40 * (0) ≤ 40 * (7 * n + 5) from nl_2 (Nat.le_of_ble_eq_true rfl))⟩) ⟨HW_bl, va_recv hK hP (ci := 14) (q0 := 0) rfl (hI.ob 0 (Nat.le_of_ble_eq_true rfl) rfl), (HW_wi hP hK (WX_D hD) hS hA hEV)⟩ rfl rfl hl.1 rfl (lv_room (Nat.le_of_ble_eq_true rfl)) dX13_atom_81 ⟨Nat.le_of_ble_eq_true rfl, Nat.le_of_ble_eq_true rfl⟩) hS hP (fun r98 H locs hw hP hS => ?_)
        rcases hw with hw | hw
        · -- isDigit, case 0
          obtain ⟨rfl, f99⟩ := hw
          try rw [(show xi (E5 0) 21 = y7 from vi_e fy7)] at f99
          try rw [hKp.ei 0 20 rfl] at f99
          refine lv_if_ne (tgt := 92) hx hb dX13_atom_84 (by decide) (fun c100 => ?_) (fun c100 => ?_)
          · --84 taken
            refine lv_iconst (v := 0) hx hb dX13_atom_92 (by decide) ?_
            refine lv_istore_n (lv' := [(2, .int 0), (1, .int r4), (0, .ref (ad 0))]) hx hb dX13_atom_93 rfl hl (by decide) rfl (fun ls hl => ?_)
            refine lv_iconst (v := 0) hx hb dX13_atom_94 (by decide) ?_
            refine lv_istore_n (lv' := [(3, .int 0), (2, .int 0), (1, .int r4), (0, .ref (ad 0))]) hx hb dX13_atom_95 rfl hl (by decide) rfl (fun ls hl => ?_)
            have hL96 : ∀ d : Nat, ∀ (w96_0_21 : Int32) (w96_0_22 : Int32) (w96_0_23 : Int32) (v96_3 : Int32) (v96_2 : Int32) (E96_ : Nat → va_E) (H : Heap) (locs : List Loc) (ls : Array Slot), 0 ≤ w96_0_21.toInt ∧ w96_0_21.toInt ≤ 201 → -1 ≤ w96_0_22.toInt ∧ w96_0_22.toInt ≤ 201 → 0 ≤ w96_0_23.toInt ∧ w96_0_23.toInt ≤ 8 → y1.toInt ≤ w96_0_21.toInt → y3.toInt ≤ w96_0_23.toInt → (w96_0_22.toInt = -1 → w96_0_23.toInt = y3.toInt) → (w96_0_22.toInt = -1 → y2.toInt = -1) → 201 - w96_0_21.toInt < (d : Int) → IX cT shM spM 72 ad E96_ → Kp w_atom E E96_ → xv (E96_ 0) 21 = .int w96_0_21 → xv (E96_ 0) 22 = .int w96_0_22 → xv (E96_ 0) 23 = .int w96_0_23 → va_P (dC, dI) vwCl (WX 72 ad E96_) H → va_S A s.heap H locs → lv_has ls 4 [(3, .int v96_3), (2, .int v96_2), (1, .int r4), (0, .ref (ad 0))] → W p l e (headSpec v_atom (rm_atom n)).room s m args below meth c H locs 0 0 Q (F0 m 96 ls []) := by
              intro d
              induction d with
              | zero =>
                intro w96_0_21 w96_0_22 w96_0_23 v96_3 v96_2 E96_ H locs ls hw96_0_21 hw96_0_22 hw96_0_23 hx96_0 hx96_1 hx96_2 hx96_3 hx96_4 hI hKp hs96_0_21 hs96_0_22 hs96_0_23 hP hS hl
                exact absurd hx96_4 (by first | exact ms_zu hw96_0_21.2 | omega)
              | succ d ih96 =>
                intro w96_0_21 w96_0_22 w96_0_23 v96_3 v96_2 E96_ H locs ls hw96_0_21 hw96_0_22 hw96_0_23 hx96_0 hx96_1 hx96_2 hx96_3 hx96_4 hI hKp hs96_0_21 hs96_0_22 hs96_0_23 hP hS hl
                refine lv_aload_n hx hb dX13_atom_96 rfl (lv_at hl 3 rfl) ?_
                refine th_ri (va_runV (As := []) (rest := []) ⟨hx, hb, hml, hown, hts⟩ (q_isDigit l dC dI cT ad E96_ H.size k nl hI (by exact hh0) (by exact hh1) (by exact hh2) (by exact (hKp 0 18 rfl).trans hh3) (by (try rw [hKp.ei 0 19 rfl]); exact hh4)) (cwV 0 hts (gi_V (in_26 _ (zs16 (zs4 (zs1 (zs1 (zs1 (zs0))))))) (in_26 _ (zs16 (zs4 (zs4 (zs0))))) (in_26 _ (zs16 (zs4 (zs4 (zs1 (zs0)))))) (in_24 _ (zs4 (zs4 (zs4 (zs1 (zs1 (zs1 (zs0)))))))) (in_26 _ (zs16 (zs4 (zs4 (zs1 (zs1 (zs0)))))))) rfl rfl rfl ⟨rfl, hz_yX13_isDigit_0⟩ ⟨(show 0 + 1 ≤ 7 * n + 5 from nl_1 (Nat.le_of_ble_eq_true rfl)), (show 8 + (1 + 11) + 40 * (0) ≤ 40 * (7 * n + 5) from nl_2 (Nat.le_of_ble_eq_true rfl))⟩) ⟨HW_bl, va_recv hK hP (ci := 14) (q0 := 0) rfl (hI.ob 0 (Nat.le_of_ble_eq_true rfl) rfl), (HW_wi hP hK (WX_D hD) hS hA hEV)⟩ rfl rfl hl.1 rfl (lv_room (Nat.le_of_ble_eq_true rfl)) dX13_atom_97 ⟨Nat.le_of_ble_eq_true rfl, Nat.le_of_ble_eq_true rfl⟩) hS hP (fun r101 H locs hw hP hS => ?_)
                rcases hw with hw | hw
                · -- isDigit, case 0
                  obtain ⟨rfl, f102⟩ := hw
                  try rw [(show xi (E96_ 0) 21 = w96_0_21 from vi_e hs96_0_21)] at f102
                  try rw [hKp.ei 0 20 rfl] at f102
                  refine lv_if_eq (tgt := 162) hx hb dX13_atom_100 (by decide) (fun c103 => ?_) (fun c103 => ?_)
                  · --100 taken
                    exact absurd c103 (by decide)
                  · --100 not
                    refine lv_aload_n hx hb dX13_atom_103 rfl (lv_at hl 3 rfl) ?_
                    refine th_get (ci := 14) (C := RX13) (T := TX13) (N := 97) (v := .int w96_0_22) hx hb hts hinX13 hown hK hP hI 0 (Nat.le_of_ble_eq_true rfl) rfl rfl 22 (Nat.le_of_ble_eq_true rfl) (hts _ (vA_in _ _ (in_25 _ (zs16 (zs16 (zs4 (zs1 (zs1 (zs1 (zs0)))))))))) (fun _ h9 => h9) hs96_0_22 dX13_atom_104 ?_
                    refine lv_iconst (v := -1) hx hb dX13_atom_107 (by decide) ?_
                    refine lv_icmp_ne (tgt := 162) hx hb dX13_atom_108 (by decide) (fun c104 => ?_) (fun c104 => ?_)
                    · --108 taken
                      have t105 : ¬ w96_0_22.toInt = -1 := ti_ne c104
                      have i106 : 0 ≤ w96_0_22.toInt ∧ w96_0_22.toInt ≤ 201 := iv_ne_l t105 hw96_0_22 (il_ (-1))
                      refine lv_iload_n hx hb dX13_atom_162 rfl (lv_at hl 1 rfl) ?_
                      rw [hQ]
                      exact W.iret (v := v96_2) hx hb hr (fun t ht hW => ⟨⟨v96_2, E96_, rfl, ⟨hI, hKp, ⟨by (try rw [(show xi (E96_ 0) 21 = w96_0_21 from vi_e hs96_0_21)]); (try rw [ey1]); first | done | exact hx96_0 | all_goals omega, by (try rw [(show xi (E96_ 0) 23 = w96_0_23 from vi_e hs96_0_23)]); (try rw [ey3]); first | done | exact hx96_1 | all_goals omega, by (try rw [(show xi (E96_ 0) 22 = w96_0_22 from vi_e hs96_0_22)]); (try rw [(show xi (E96_ 0) 23 = w96_0_23 from vi_e hs96_0_23)]); (try rw [ey2]); (try rw [ey3]); first | done | exact fun q9 => absurd (q9) t105 | all_goals omega, by (try rw [(show xi (E96_ 0) 22 = w96_0_22 from vi_e hs96_0_22)]); (try rw [ey2]); first | done | exact fun q9 => absurd (q9) t105 | all_goals omega⟩⟩, by show va_P (dC, dI) vwCl (WX 72 ad E96_) t.heap; rw [ht]; exact hP⟩, hS.F ht⟩) hS.2.2 dX13_atom_163
                    · --108 not
                      have t107 : w96_0_22.toInt = -1 := ti_eq c104
                      have i108 : -1 ≤ w96_0_22.toInt ∧ w96_0_22.toInt ≤ -1 := iv_eqi t107 hw96_0_22 (il_ (-1)) (by decide)
                      refine lv_iload_n hx hb dX13_atom_111 rfl (lv_at hl 0 rfl) ?_
                      refine lv_iconst (v := 5) hx hb dX13_atom_112 (by decide) ?_
                      refine lv_icmp_ne (tgt := 123) hx hb dX13_atom_113 (by decide) (fun c109 => ?_) (fun c109 => ?_)
                      · --113 taken
                        have t110 : ¬ v96_3.toInt = 5 := ti_ne c109
                        refine lv_bipush (v := 10) hx hb dX13_atom_123 (by decide) ?_
                        refine lv_iload_n hx hb dX13_atom_125 rfl (lv_at hl 1 rfl) ?_
                        refine lv_imul hx hb dX13_atom_126 ?_
                        refine lv_topi (fun y111 ey111 => ?_)
                        refine lv_aload_n hx hb dX13_atom_127 rfl (lv_at hl 3 rfl) ?_
                        refine th_get (ci := 14) (C := RX13) (T := TX13) (N := 97) (v := .ref (ad k)) hx hb hts hinX13 hown hK hP hI 0 (Nat.le_of_ble_eq_true rfl) rfl rfl 18 (Nat.le_of_ble_eq_true rfl) (hts _ (vA_in _ _ (in_26 _ zs0))) (fun _ h9 => h9) ((hKp 0 18 rfl).trans hh3) dX13_atom_128 ?_
                        refine lv_aload_n hx hb dX13_atom_131 rfl (lv_at hl 3 rfl) ?_
                        refine th_get (ci := 14) (C := RX13) (T := TX13) (N := 97) (v := .int (xi (E 0) 19)) hx hb hts hinX13 hown hK hP hI 0 (Nat.le_of_ble_eq_true rfl) rfl rfl 19 (Nat.le_of_ble_eq_true rfl) (hts _ (vA_in _ _ (in_26 _ (zs1 (zs0))))) (fun _ h9 => h9) (th_v0 hKp hI0 0 (Nat.le_of_ble_eq_true rfl) rfl (Nat.le_of_ble_eq_true rfl) rfl rfl) dX13_atom_132 ?_
                        refine lv_aload_n hx hb dX13_atom_135 rfl (lv_at hl 3 rfl) ?_
                        refine th_get (ci := 14) (C := RX13) (T := TX13) (N := 97) (v := .int w96_0_21) hx hb hts hinX13 hown hK hP hI 0 (Nat.le_of_ble_eq_true rfl) rfl rfl 21 (Nat.le_of_ble_eq_true rfl) (hts _ (vA_in _ _ (in_25 _ (zs16 (zs16 (zs4 (zs0))))))) (fun _ h9 => h9) hs96_0_21 dX13_atom_136 ?_
                        refine lv_iadd hx hb dX13_atom_139 ?_
                        refine lv_topi (fun y112 ey112 => ?_)
                        obtain ⟨ty112, iy112⟩ := ti_add (e := 0) (f := 3201) i12 hw96_0_21 ey112 (by decide)
                        have ty112 : y112.toInt = (xi (E 0) 19).toInt + w96_0_21.toInt := ty112
                        have iy112 : 0 ≤ y112.toInt ∧ y112.toInt ≤ 3201 := iy112
                        have n114 : vp_in y112 nl := (vp_in_iff.mpr ⟨by omega, by omega⟩)
                        refine th_bald hx hb hK hP hI k hh0 hh1 rfl n114 dX13_atom_140 (fun y113 ey113 => ?_)
                        have iy113 : -128 ≤ y113.toInt ∧ y113.toInt ≤ 127 := hI.el k hh0 hh1 n114 hh2 ey113
                        refine lv_iadd hx hb dX13_atom_141 ?_
                        refine lv_topi (fun y115 ey115 => ?_)
                        refine lv_bipush (v := 48) hx hb dX13_atom_142 (by decide) ?_
                        refine lv_isub hx hb dX13_atom_144 ?_
                        refine lv_topi (fun y116 ey116 => ?_)
                        refine lv_istore_n (lv' := [(2, .int y116), (3, .int v96_3), (1, .int r4), (0, .ref (ad 0))]) hx hb dX13_atom_145 rfl hl (by decide) rfl (fun ls hl => ?_)
                        refine lv_aload_n hx hb dX13_atom_146 rfl (lv_at hl 3 rfl) ?_
                        refine lv_dup hx hb dX13_atom_147 rfl ?_
                        refine th_get (ci := 14) (C := RX13) (T := TX13) (N := 97) (v := .int w96_0_21) hx hb hts hinX13 hown hK hP hI 0 (Nat.le_of_ble_eq_true rfl) rfl rfl 21 (Nat.le_of_ble_eq_true rfl) (hts _ (vA_in _ _ (in_25 _ (zs16 (zs16 (zs4 (zs0))))))) (fun _ h9 => h9) hs96_0_21 dX13_atom_148 ?_
                        refine lv_iconst (v := 1) hx hb dX13_atom_151 (by decide) ?_
                        refine lv_iadd hx hb dX13_atom_152 ?_
                        refine lv_topi (fun y117 ey117 => ?_)
                        obtain ⟨ty117, iy117⟩ := ti_add (e := 1) (f := 202) hw96_0_21 ln_1 ey117 (by decide)
                        have ty117 : y117.toInt = w96_0_21.toInt + 1 := ty117
                        have iy117 : 1 ≤ y117.toInt ∧ y117.toInt ≤ 202 := iy117
                        have i118 : 1 ≤ y117.toInt ∧ y117.toInt ≤ 201 := by omega
                        refine th_put (ci := 14) (C := RX13) (T := TX13) (N := 97) (v := .int y117) (ty := .int) hx hb hts hinX13 tyX13 tyX13_ok nmX13 hown hK hP (WX_D hD) hS hI 0 (Nat.le_of_ble_eq_true rfl) rfl rfl 21 (Nat.le_of_ble_eq_true rfl) (hts _ (vA_in _ _ (in_25 _ (zs16 (zs16 (zs4 (zs0))))))) (fun _ h9 => h9) rfl (by decide +kernel) rfl rfl (okI rfl (iv_w i118 (by decide))) dX13_atom_153 (fun H locs E119 pw120 hI hP hS => ?_)
                        have hKp := hKp.pw pw120 rfl
                        obtain ⟨y121, ey121⟩ : ∃ y : Int32, y = v96_3 + (1 : Int32) := ⟨_, rfl⟩
                        refine lv_iinc (v := y121) (lv' := [(3, .int y121), (2, .int y116), (1, .int r4), (0, .ref (ad 0))]) hx hb dX13_atom_156 hl (k := 1) rfl (by rw [ey121]; rfl) (by decide) rfl (fun ls hl => ?_)
                        refine lv_goto (tgt := 96) hx hb dX13_atom_159 (by decide) ?_
                        exact ih96 y117 w96_0_22 w96_0_23 y121 y116 E119 _ _ _ (iv_w i118 (by decide)) (iv_w i108 (by decide)) hw96_0_23 (by  first | exact (Int.le_trans hx96_0 (Int.le_trans (Int.le_add_of_nonneg_right (by decide)) (Int.le_of_eq ty117.symm))) | omega) (by  first | exact hx96_1 | omega) (by  first | exact fun q9 => (hx96_2 (q9)) | omega) (by  first | exact fun q9 => hx96_3 (q9) | omega) (by omega) hI hKp pw120.1 ((pw120.2 0 22 (fun q9 => absurd q9.2 (Nat.ne_of_beq_eq_false rfl))).trans hs96_0_22) ((pw120.2 0 23 (fun q9 => absurd q9.2 (Nat.ne_of_beq_eq_false rfl))).trans hs96_0_23) hP hS (lv_sub hl [0, 1, 2, 3] rfl)
                      · --113 not
                        have t122 : v96_3.toInt = 5 := ti_eq c109
                        have i123 : 5 ≤ v96_3.toInt ∧ v96_3.toInt ≤ 5 := iv_eqi t122 (iv_all _) (il_ 5) (by decide)
                        refine lv_aload_n hx hb dX13_atom_116 rfl (lv_at hl 3 rfl) ?_
                        refine th_i (va_runV (As := []) (rest := []) ⟨hx, hb, hml, hown, hts⟩ (q_stop l dC dI cT ad E96_ H.size hI) (cwV 0 hts (gi_V (in_26 _ (zs4 (zs4 (zs4 (zs0))))) (in_26 _ (zs4 (zs4 (zs4 (zs1 (zs0)))))) (in_26 _ (zs4 (zs4 (zs4 (zs1 (zs1 (zs0))))))) (in_24 _ (zs4 (zs4 (zs4 (zs1 (zs1 (zs1 (zs0)))))))) (in_26 _ (zs4 (zs4 (zs4 (zs1 (zs1 (zs1 (zs0))))))))) rfl rfl rfl ⟨rfl, hz_yX13_stop_0⟩ ⟨(show 0 + 1 ≤ 7 * n + 5 from nl_1 (Nat.le_of_ble_eq_true rfl)), (show 8 + (1 + 11) + 40 * (0) ≤ 40 * (7 * n + 5) from nl_2 (Nat.le_of_ble_eq_true rfl))⟩) ⟨HW_bl, va_recv hK hP (ci := 14) (q0 := 0) rfl (hI.ob 0 (Nat.le_of_ble_eq_true rfl) rfl), (HW_wi hP hK (WX_D hD) hS hA hEV)⟩ rfl rfl hl.1 rfl (lv_room (Nat.le_of_ble_eq_true rfl)) dX13_atom_117 ⟨Nat.le_of_ble_eq_true rfl, Nat.le_of_ble_eq_true rfl⟩) (WX_D hD) hS hA (fun r124 E125 H locs hw hP hS => ?_)
                        obtain ⟨hI, kq126, hw⟩ := hw
                        have hKb := hKp
                        have hKp := hKp.tr kq126 (wl_sub rfl rfl)
                        obtain ⟨y127, ey127⟩ : ∃ y, xi (E125 0) 22 = y := ⟨_, rfl⟩
                        have fy127 : xv (E125 0) 22 = .int y127 := (hI.fi 0 (Nat.le_of_ble_eq_true rfl) rfl (Nat.le_of_ble_eq_true rfl) rfl).trans (congrArg Value.int ey127)
                        have iy127 : -1 ≤ y127.toInt ∧ y127.toInt ≤ 201 := by rw [← ey127]; exact hI.iv 0 (Nat.le_of_ble_eq_true rfl) rfl (Nat.le_of_ble_eq_true rfl) rfl
                        obtain ⟨rfl, f128⟩ := hw
                        try rw [(show xi (E96_ 0) 22 = w96_0_22 from vi_e hs96_0_22)] at f128
                        try rw [(show xi (E125 0) 22 = y127 from vi_e fy127)] at f128
                        refine lv_pop hx hb dX13_atom_120 rfl ?_
                        refine lv_iconst (v := 0) hx hb dX13_atom_121 (by decide) ?_
                        rw [hQ]
                        exact W.iret (v := 0) hx hb hr (fun t ht hW => ⟨⟨0, E125, rfl, ⟨hI, hKp, ⟨by (try rw [(show xi (E125 0) 21 = w96_0_21 from vi_e ((kq126 0 21 rfl).trans hs96_0_21))]); (try rw [ey1]); first | done | exact hx96_0 | have h8 := ln_0; all_goals omega, by (try rw [(show xi (E125 0) 23 = w96_0_23 from vi_e ((kq126 0 23 rfl).trans hs96_0_23))]); (try rw [ey3]); first | done | exact hx96_1 | have h8 := ln_0; all_goals omega, by (try rw [(show xi (E125 0) 22 = y127 from vi_e fy127)]); (try rw [(show xi (E125 0) 23 = w96_0_23 from vi_e ((kq126 0 23 rfl).trans hs96_0_23))]); (try rw [ey2]); (try rw [ey3]); first | done | exact fun q9 => absurd (q9) f128 | have h8 := ln_0; all_goals omega, by (try rw [(show xi (E125 0) 22 = y127 from vi_e fy127)]); (try rw [ey2]); first | done | exact fun q9 => absurd (q9) f128 | have h8 := ln_0; all_goals omega⟩⟩, by show va_P (dC, dI) vwCl (WX 72 ad E125) t.heap; rw [ht]; exact hP⟩, hS.F ht⟩) hS.2.2 dX13_atom_122
                · -- isDigit, case 1
                  obtain rfl := hw
                  refine lv_if_eq (tgt := 162) hx hb dX13_atom_100 (by decide) (fun c129 => ?_) (fun c129 => ?_)
                  · --100 taken
                    refine lv_iload_n hx hb dX13_atom_162 rfl (lv_at hl 1 rfl) ?_
                    rw [hQ]
                    exact W.iret (v := v96_2) hx hb hr (fun t ht hW => ⟨⟨v96_2, E96_, rfl, ⟨hI, hKp, ⟨by (try rw [(show xi (E96_ 0) 21 = w96_0_21 from vi_e hs96_0_21)]); (try rw [ey1]); first | done | exact hx96_0 | all_goals omega, by (try rw [(show xi (E96_ 0) 23 = w96_0_23 from vi_e hs96_0_23)]); (try rw [ey3]); first | done | exact hx96_1 | all_goals omega, by (try rw [(show xi (E96_ 0) 22 = w96_0_22 from vi_e hs96_0_22)]); (try rw [(show xi (E96_ 0) 23 = w96_0_23 from vi_e hs96_0_23)]); (try rw [ey2]); (try rw [ey3]); first | done | exact fun q9 => (hx96_2 (q9)) | all_goals omega, by (try rw [(show xi (E96_ 0) 22 = w96_0_22 from vi_e hs96_0_22)]); (try rw [ey2]); first | done | exact fun q9 => hx96_3 (q9) | all_goals omega⟩⟩, by show va_P (dC, dI) vwCl (WX 72 ad E96_) t.heap; rw [ht]; exact hP⟩, hS.F ht⟩) hS.2.2 dX13_atom_163
                  · --100 not
                    exact absurd c129 (by decide)
            exact hL96 (202) y7 y2 y3 (0 : Int32) (0 : Int32) E5 _ _ _ iy7 iy2 iy3 (by  first | exact f9 | omega) (by  first | exact Int.le_refl _ | omega) (by  first | exact fun q9 => rfl | omega) (by  first | exact fun q9 => q9 | omega) (by have h9 := iy7; first | exact ms_bu h9.1 (by decide) | omega) hI hKp fy7 ((kq6 0 22 rfl).trans fy2) ((kq6 0 23 rfl).trans fy3) hP hS (lv_sub hl [0, 1, 2, 3] rfl)
          · --84 not
            exact absurd c100 (by decide)
        · -- isDigit, case 1
          obtain rfl := hw
          refine lv_if_ne (tgt := 92) hx hb dX13_atom_84 (by decide) (fun c130 => ?_) (fun c130 => ?_)
          · --84 taken
            exact absurd c130 (by decide)
          · --84 not
            refine lv_aload_n hx hb dX13_atom_87 rfl (lv_at hl 1 rfl) ?_
            refine th_i (va_runV (As := []) (rest := []) ⟨hx, hb, hml, hown, hts⟩ (q_stop l dC dI cT ad E5 H.size hI) (cwV 0 hts (gi_V (in_26 _ (zs4 (zs4 (zs4 (zs0))))) (in_26 _ (zs4 (zs4 (zs4 (zs1 (zs0)))))) (in_26 _ (zs4 (zs4 (zs4 (zs1 (zs1 (zs0))))))) (in_24 _ (zs4 (zs4 (zs4 (zs1 (zs1 (zs1 (zs0)))))))) (in_26 _ (zs4 (zs4 (zs4 (zs1 (zs1 (zs1 (zs0))))))))) rfl rfl rfl ⟨rfl, hz_yX13_stop_0⟩ ⟨(show 0 + 1 ≤ 7 * n + 5 from nl_1 (Nat.le_of_ble_eq_true rfl)), (show 8 + (1 + 11) + 40 * (0) ≤ 40 * (7 * n + 5) from nl_2 (Nat.le_of_ble_eq_true rfl))⟩) ⟨HW_bl, va_recv hK hP (ci := 14) (q0 := 0) rfl (hI.ob 0 (Nat.le_of_ble_eq_true rfl) rfl), (HW_wi hP hK (WX_D hD) hS hA hEV)⟩ rfl rfl hl.1 rfl (lv_room (Nat.le_of_ble_eq_true rfl)) dX13_atom_88 ⟨Nat.le_of_ble_eq_true rfl, Nat.le_of_ble_eq_true rfl⟩) (WX_D hD) hS hA (fun r131 E132 H locs hw hP hS => ?_)
            obtain ⟨hI, kq133, hw⟩ := hw
            have hKb := hKp
            have hKp := hKp.tr kq133 (wl_sub rfl rfl)
            obtain ⟨y134, ey134⟩ : ∃ y, xi (E132 0) 22 = y := ⟨_, rfl⟩
            have fy134 : xv (E132 0) 22 = .int y134 := (hI.fi 0 (Nat.le_of_ble_eq_true rfl) rfl (Nat.le_of_ble_eq_true rfl) rfl).trans (congrArg Value.int ey134)
            have iy134 : -1 ≤ y134.toInt ∧ y134.toInt ≤ 201 := by rw [← ey134]; exact hI.iv 0 (Nat.le_of_ble_eq_true rfl) rfl (Nat.le_of_ble_eq_true rfl) rfl
            obtain ⟨rfl, f135⟩ := hw
            try rw [(show xi (E5 0) 22 = y2 from vi_e ((kq6 0 22 rfl).trans fy2))] at f135
            try rw [(show xi (E132 0) 22 = y134 from vi_e fy134)] at f135
            refine lv_pop hx hb dX13_atom_91 rfl ?_
            refine lv_iconst (v := 0) hx hb dX13_atom_92 (by decide) ?_
            refine lv_istore_n (lv' := [(2, .int 0), (1, .int r4), (0, .ref (ad 0))]) hx hb dX13_atom_93 rfl hl (by decide) rfl (fun ls hl => ?_)
            refine lv_iconst (v := 0) hx hb dX13_atom_94 (by decide) ?_
            refine lv_istore_n (lv' := [(3, .int 0), (2, .int 0), (1, .int r4), (0, .ref (ad 0))]) hx hb dX13_atom_95 rfl hl (by decide) rfl (fun ls hl => ?_)
            have hL96 : ∀ d : Nat, ∀ (w96_0_21 : Int32) (w96_0_22 : Int32) (w96_0_23 : Int32) (v96_3 : Int32) (v96_2 : Int32) (E96_ : Nat → va_E) (H : Heap) (locs : List Loc) (ls : Array Slot), 0 ≤ w96_0_21.toInt ∧ w96_0_21.toInt ≤ 201 → -1 ≤ w96_0_22.toInt ∧ w96_0_22.toInt ≤ 201 → 0 ≤ w96_0_23.toInt ∧ w96_0_23.toInt ≤ 8 → y1.toInt ≤ w96_0_21.toInt → y3.toInt ≤ w96_0_23.toInt → (w96_0_22.toInt = -1 → w96_0_23.toInt = y3.toInt) → (w96_0_22.toInt = -1 → y2.toInt = -1) → 201 - w96_0_21.toInt < (d : Int) → IX cT shM spM 72 ad E96_ → Kp w_atom E E96_ → xv (E96_ 0) 21 = .int w96_0_21 → xv (E96_ 0) 22 = .int w96_0_22 → xv (E96_ 0) 23 = .int w96_0_23 → va_P (dC, dI) vwCl (WX 72 ad E96_) H → va_S A s.heap H locs → lv_has ls 4 [(3, .int v96_3), (2, .int v96_2), (1, .int r4), (0, .ref (ad 0))] → W p l e (headSpec v_atom (rm_atom n)).room s m args below meth c H locs 0 0 Q (F0 m 96 ls []) := by
              intro d
              induction d with
              | zero =>
                intro w96_0_21 w96_0_22 w96_0_23 v96_3 v96_2 E96_ H locs ls hw96_0_21 hw96_0_22 hw96_0_23 hx96_0 hx96_1 hx96_2 hx96_3 hx96_4 hI hKp hs96_0_21 hs96_0_22 hs96_0_23 hP hS hl
                exact absurd hx96_4 (by first | exact ms_zu hw96_0_21.2 | omega)
              | succ d ih96 =>
                intro w96_0_21 w96_0_22 w96_0_23 v96_3 v96_2 E96_ H locs ls hw96_0_21 hw96_0_22 hw96_0_23 hx96_0 hx96_1 hx96_2 hx96_3 hx96_4 hI hKp hs96_0_21 hs96_0_22 hs96_0_23 hP hS hl
                refine lv_aload_n hx hb dX13_atom_96 rfl (lv_at hl 3 rfl) ?_
                refine th_ri (va_runV (As := []) (rest := []) ⟨hx, hb, hml, hown, hts⟩ (q_isDigit l dC dI cT ad E96_ H.size k nl hI (by exact hh0) (by exact hh1) (by exact hh2) (by exact (hKp 0 18 rfl).trans hh3) (by (try rw [hKp.ei 0 19 rfl]); exact hh4)) (cwV 0 hts (gi_V (in_26 _ (zs16 (zs4 (zs1 (zs1 (zs1 (zs0))))))) (in_26 _ (zs16 (zs4 (zs4 (zs0))))) (in_26 _ (zs16 (zs4 (zs4 (zs1 (zs0)))))) (in_24 _ (zs4 (zs4 (zs4 (zs1 (zs1 (zs1 (zs0)))))))) (in_26 _ (zs16 (zs4 (zs4 (zs1 (zs1 (zs0)))))))) rfl rfl rfl ⟨rfl, hz_yX13_isDigit_0⟩ ⟨(show 0 + 1 ≤ 7 * n + 5 from nl_1 (Nat.le_of_ble_eq_true rfl)), (show 8 + (1 + 11) + 40 * (0) ≤ 40 * (7 * n + 5) from nl_2 (Nat.le_of_ble_eq_true rfl))⟩) ⟨HW_bl, va_recv hK hP (ci := 14) (q0 := 0) rfl (hI.ob 0 (Nat.le_of_ble_eq_true rfl) rfl), (HW_wi hP hK (WX_D hD) hS hA hEV)⟩ rfl rfl hl.1 rfl (lv_room (Nat.le_of_ble_eq_true rfl)) dX13_atom_97 ⟨Nat.le_of_ble_eq_true rfl, Nat.le_of_ble_eq_true rfl⟩) hS hP (fun r136 H locs hw hP hS => ?_)
                rcases hw with hw | hw
                · -- isDigit, case 0
                  obtain ⟨rfl, f137⟩ := hw
                  try rw [(show xi (E96_ 0) 21 = w96_0_21 from vi_e hs96_0_21)] at f137
                  try rw [hKp.ei 0 20 rfl] at f137
                  refine lv_if_eq (tgt := 162) hx hb dX13_atom_100 (by decide) (fun c138 => ?_) (fun c138 => ?_)
                  · --100 taken
                    exact absurd c138 (by decide)
                  · --100 not
                    refine lv_aload_n hx hb dX13_atom_103 rfl (lv_at hl 3 rfl) ?_
                    refine th_get (ci := 14) (C := RX13) (T := TX13) (N := 97) (v := .int w96_0_22) hx hb hts hinX13 hown hK hP hI 0 (Nat.le_of_ble_eq_true rfl) rfl rfl 22 (Nat.le_of_ble_eq_true rfl) (hts _ (vA_in _ _ (in_25 _ (zs16 (zs16 (zs4 (zs1 (zs1 (zs1 (zs0)))))))))) (fun _ h9 => h9) hs96_0_22 dX13_atom_104 ?_
                    refine lv_iconst (v := -1) hx hb dX13_atom_107 (by decide) ?_
                    refine lv_icmp_ne (tgt := 162) hx hb dX13_atom_108 (by decide) (fun c139 => ?_) (fun c139 => ?_)
                    · --108 taken
                      have t140 : ¬ w96_0_22.toInt = -1 := ti_ne c139
                      have i141 : 0 ≤ w96_0_22.toInt ∧ w96_0_22.toInt ≤ 201 := iv_ne_l t140 hw96_0_22 (il_ (-1))
                      refine lv_iload_n hx hb dX13_atom_162 rfl (lv_at hl 1 rfl) ?_
                      rw [hQ]
                      exact W.iret (v := v96_2) hx hb hr (fun t ht hW => ⟨⟨v96_2, E96_, rfl, ⟨hI, hKp, ⟨by (try rw [(show xi (E96_ 0) 21 = w96_0_21 from vi_e hs96_0_21)]); (try rw [ey1]); first | done | exact hx96_0 | all_goals omega, by (try rw [(show xi (E96_ 0) 23 = w96_0_23 from vi_e hs96_0_23)]); (try rw [ey3]); first | done | exact hx96_1 | all_goals omega, by (try rw [(show xi (E96_ 0) 22 = w96_0_22 from vi_e hs96_0_22)]); (try rw [(show xi (E96_ 0) 23 = w96_0_23 from vi_e hs96_0_23)]); (try rw [ey2]); (try rw [ey3]); first | done | exact fun q9 => absurd (q9) t140 | all_goals omega, by (try rw [(show xi (E96_ 0) 22 = w96_0_22 from vi_e hs96_0_22)]); (try rw [ey2]); first | done | exact fun q9 => absurd (q9) t140 | all_goals omega⟩⟩, by show va_P (dC, dI) vwCl (WX 72 ad E96_) t.heap; rw [ht]; exact hP⟩, hS.F ht⟩) hS.2.2 dX13_atom_163
                    · --108 not
                      have t142 : w96_0_22.toInt = -1 := ti_eq c139
                      have i143 : -1 ≤ w96_0_22.toInt ∧ w96_0_22.toInt ≤ -1 := iv_eqi t142 hw96_0_22 (il_ (-1)) (by decide)
                      refine lv_iload_n hx hb dX13_atom_111 rfl (lv_at hl 0 rfl) ?_
                      refine lv_iconst (v := 5) hx hb dX13_atom_112 (by decide) ?_
                      refine lv_icmp_ne (tgt := 123) hx hb dX13_atom_113 (by decide) (fun c144 => ?_) (fun c144 => ?_)
                      · --113 taken
                        have t145 : ¬ v96_3.toInt = 5 := ti_ne c144
                        refine lv_bipush (v := 10) hx hb dX13_atom_123 (by decide) ?_
                        refine lv_iload_n hx hb dX13_atom_125 rfl (lv_at hl 1 rfl) ?_
                        refine lv_imul hx hb dX13_atom_126 ?_
                        refine lv_topi (fun y146 ey146 => ?_)
                        refine lv_aload_n hx hb dX13_atom_127 rfl (lv_at hl 3 rfl) ?_
                        refine th_get (ci := 14) (C := RX13) (T := TX13) (N := 97) (v := .ref (ad k)) hx hb hts hinX13 hown hK hP hI 0 (Nat.le_of_ble_eq_true rfl) rfl rfl 18 (Nat.le_of_ble_eq_true rfl) (hts _ (vA_in _ _ (in_26 _ zs0))) (fun _ h9 => h9) ((hKp 0 18 rfl).trans hh3) dX13_atom_128 ?_
                        refine lv_aload_n hx hb dX13_atom_131 rfl (lv_at hl 3 rfl) ?_
                        refine th_get (ci := 14) (C := RX13) (T := TX13) (N := 97) (v := .int (xi (E 0) 19)) hx hb hts hinX13 hown hK hP hI 0 (Nat.le_of_ble_eq_true rfl) rfl rfl 19 (Nat.le_of_ble_eq_true rfl) (hts _ (vA_in _ _ (in_26 _ (zs1 (zs0))))) (fun _ h9 => h9) (th_v0 hKp hI0 0 (Nat.le_of_ble_eq_true rfl) rfl (Nat.le_of_ble_eq_true rfl) rfl rfl) dX13_atom_132 ?_
                        refine lv_aload_n hx hb dX13_atom_135 rfl (lv_at hl 3 rfl) ?_
                        refine th_get (ci := 14) (C := RX13) (T := TX13) (N := 97) (v := .int w96_0_21) hx hb hts hinX13 hown hK hP hI 0 (Nat.le_of_ble_eq_true rfl) rfl rfl 21 (Nat.le_of_ble_eq_true rfl) (hts _ (vA_in _ _ (in_25 _ (zs16 (zs16 (zs4 (zs0))))))) (fun _ h9 => h9) hs96_0_21 dX13_atom_136 ?_
                        refine lv_iadd hx hb dX13_atom_139 ?_
                        refine lv_topi (fun y147 ey147 => ?_)
                        obtain ⟨ty147, iy147⟩ := ti_add (e := 0) (f := 3201) i12 hw96_0_21 ey147 (by decide)
                        have ty147 : y147.toInt = (xi (E 0) 19).toInt + w96_0_21.toInt := ty147
                        have iy147 : 0 ≤ y147.toInt ∧ y147.toInt ≤ 3201 := iy147
                        have n149 : vp_in y147 nl := (vp_in_iff.mpr ⟨by omega, by omega⟩)
                        refine th_bald hx hb hK hP hI k hh0 hh1 rfl n149 dX13_atom_140 (fun y148 ey148 => ?_)
                        have iy148 : -128 ≤ y148.toInt ∧ y148.toInt ≤ 127 := hI.el k hh0 hh1 n149 hh2 ey148
                        refine lv_iadd hx hb dX13_atom_141 ?_
                        refine lv_topi (fun y150 ey150 => ?_)
                        refine lv_bipush (v := 48) hx hb dX13_atom_142 (by decide) ?_
                        refine lv_isub hx hb dX13_atom_144 ?_
                        refine lv_topi (fun y151 ey151 => ?_)
                        refine lv_istore_n (lv' := [(2, .int y151), (3, .int v96_3), (1, .int r4), (0, .ref (ad 0))]) hx hb dX13_atom_145 rfl hl (by decide) rfl (fun ls hl => ?_)
                        refine lv_aload_n hx hb dX13_atom_146 rfl (lv_at hl 3 rfl) ?_
                        refine lv_dup hx hb dX13_atom_147 rfl ?_
                        refine th_get (ci := 14) (C := RX13) (T := TX13) (N := 97) (v := .int w96_0_21) hx hb hts hinX13 hown hK hP hI 0 (Nat.le_of_ble_eq_true rfl) rfl rfl 21 (Nat.le_of_ble_eq_true rfl) (hts _ (vA_in _ _ (in_25 _ (zs16 (zs16 (zs4 (zs0))))))) (fun _ h9 => h9) hs96_0_21 dX13_atom_148 ?_
                        refine lv_iconst (v := 1) hx hb dX13_atom_151 (by decide) ?_
                        refine lv_iadd hx hb dX13_atom_152 ?_
                        refine lv_topi (fun y152 ey152 => ?_)
                        obtain ⟨ty152, iy152⟩ := ti_add (e := 1) (f := 202) hw96_0_21 ln_1 ey152 (by decide)
                        have ty152 : y152.toInt = w96_0_21.toInt + 1 := ty152
                        have iy152 : 1 ≤ y152.toInt ∧ y152.toInt ≤ 202 := iy152
                        have i153 : 1 ≤ y152.toInt ∧ y152.toInt ≤ 201 := by omega
                        refine th_put (ci := 14) (C := RX13) (T := TX13) (N := 97) (v := .int y152) (ty := .int) hx hb hts hinX13 tyX13 tyX13_ok nmX13 hown hK hP (WX_D hD) hS hI 0 (Nat.le_of_ble_eq_true rfl) rfl rfl 21 (Nat.le_of_ble_eq_true rfl) (hts _ (vA_in _ _ (in_25 _ (zs16 (zs16 (zs4 (zs0))))))) (fun _ h9 => h9) rfl (by decide +kernel) rfl rfl (okI rfl (iv_w i153 (by decide))) dX13_atom_153 (fun H locs E154 pw155 hI hP hS => ?_)
                        have hKp := hKp.pw pw155 rfl
                        obtain ⟨y156, ey156⟩ : ∃ y : Int32, y = v96_3 + (1 : Int32) := ⟨_, rfl⟩
                        refine lv_iinc (v := y156) (lv' := [(3, .int y156), (2, .int y151), (1, .int r4), (0, .ref (ad 0))]) hx hb dX13_atom_156 hl (k := 1) rfl (by rw [ey156]; rfl) (by decide) rfl (fun ls hl => ?_)
                        refine lv_goto (tgt := 96) hx hb dX13_atom_159 (by decide) ?_
                        exact ih96 y152 w96_0_22 w96_0_23 y156 y151 E154 _ _ _ (iv_w i153 (by decide)) (iv_w i143 (by decide)) hw96_0_23 (by  first | exact (Int.le_trans hx96_0 (Int.le_trans (Int.le_add_of_nonneg_right (by decide)) (Int.le_of_eq ty152.symm))) | omega) (by  first | exact hx96_1 | omega) (by  first | exact fun q9 => (hx96_2 (q9)) | omega) (by  first | exact fun q9 => hx96_3 (q9) | omega) (by omega) hI hKp pw155.1 ((pw155.2 0 22 (fun q9 => absurd q9.2 (Nat.ne_of_beq_eq_false rfl))).trans hs96_0_22) ((pw155.2 0 23 (fun q9 => absurd q9.2 (Nat.ne_of_beq_eq_false rfl))).trans hs96_0_23) hP hS (lv_sub hl [0, 1, 2, 3] rfl)
                      · --113 not
                        have t157 : v96_3.toInt = 5 := ti_eq c144
                        have i158 : 5 ≤ v96_3.toInt ∧ v96_3.toInt ≤ 5 := iv_eqi t157 (iv_all _) (il_ 5) (by decide)
                        refine lv_aload_n hx hb dX13_atom_116 rfl (lv_at hl 3 rfl) ?_
                        refine th_i (va_runV (As := []) (rest := []) ⟨hx, hb, hml, hown, hts⟩ (q_stop l dC dI cT ad E96_ H.size hI) (cwV 0 hts (gi_V (in_26 _ (zs4 (zs4 (zs4 (zs0))))) (in_26 _ (zs4 (zs4 (zs4 (zs1 (zs0)))))) (in_26 _ (zs4 (zs4 (zs4 (zs1 (zs1 (zs0))))))) (in_24 _ (zs4 (zs4 (zs4 (zs1 (zs1 (zs1 (zs0)))))))) (in_26 _ (zs4 (zs4 (zs4 (zs1 (zs1 (zs1 (zs0))))))))) rfl rfl rfl ⟨rfl, hz_yX13_stop_0⟩ ⟨(show 0 + 1 ≤ 7 * n + 5 from nl_1 (Nat.le_of_ble_eq_true rfl)), (show 8 + (1 + 11) + 40 * (0) ≤ 40 * (7 * n + 5) from nl_2 (Nat.le_of_ble_eq_true rfl))⟩) ⟨HW_bl, va_recv hK hP (ci := 14) (q0 := 0) rfl (hI.ob 0 (Nat.le_of_ble_eq_true rfl) rfl), (HW_wi hP hK (WX_D hD) hS hA hEV)⟩ rfl rfl hl.1 rfl (lv_room (Nat.le_of_ble_eq_true rfl)) dX13_atom_117 ⟨Nat.le_of_ble_eq_true rfl, Nat.le_of_ble_eq_true rfl⟩) (WX_D hD) hS hA (fun r159 E160 H locs hw hP hS => ?_)
                        obtain ⟨hI, kq161, hw⟩ := hw
                        have hKb := hKp
                        have hKp := hKp.tr kq161 (wl_sub rfl rfl)
                        obtain ⟨y162, ey162⟩ : ∃ y, xi (E160 0) 22 = y := ⟨_, rfl⟩
                        have fy162 : xv (E160 0) 22 = .int y162 := (hI.fi 0 (Nat.le_of_ble_eq_true rfl) rfl (Nat.le_of_ble_eq_true rfl) rfl).trans (congrArg Value.int ey162)
                        have iy162 : -1 ≤ y162.toInt ∧ y162.toInt ≤ 201 := by rw [← ey162]; exact hI.iv 0 (Nat.le_of_ble_eq_true rfl) rfl (Nat.le_of_ble_eq_true rfl) rfl
                        obtain ⟨rfl, f163⟩ := hw
                        try rw [(show xi (E96_ 0) 22 = w96_0_22 from vi_e hs96_0_22)] at f163
                        try rw [(show xi (E160 0) 22 = y162 from vi_e fy162)] at f163
                        refine lv_pop hx hb dX13_atom_120 rfl ?_
                        refine lv_iconst (v := 0) hx hb dX13_atom_121 (by decide) ?_
                        rw [hQ]
                        exact W.iret (v := 0) hx hb hr (fun t ht hW => ⟨⟨0, E160, rfl, ⟨hI, hKp, ⟨by (try rw [(show xi (E160 0) 21 = w96_0_21 from vi_e ((kq161 0 21 rfl).trans hs96_0_21))]); (try rw [ey1]); first | done | exact hx96_0 | have h8 := ln_0; all_goals omega, by (try rw [(show xi (E160 0) 23 = w96_0_23 from vi_e ((kq161 0 23 rfl).trans hs96_0_23))]); (try rw [ey3]); first | done | exact hx96_1 | have h8 := ln_0; all_goals omega, by (try rw [(show xi (E160 0) 22 = y162 from vi_e fy162)]); (try rw [(show xi (E160 0) 23 = w96_0_23 from vi_e ((kq161 0 23 rfl).trans hs96_0_23))]); (try rw [ey2]); (try rw [ey3]); first | done | exact fun q9 => absurd (q9) f163 | have h8 := ln_0; all_goals omega, by (try rw [(show xi (E160 0) 22 = y162 from vi_e fy162)]); (try rw [ey2]); first | done | exact fun q9 => absurd (q9) f163 | have h8 := ln_0; all_goals omega⟩⟩, by show va_P (dC, dI) vwCl (WX 72 ad E160) t.heap; rw [ht]; exact hP⟩, hS.F ht⟩) hS.2.2 dX13_atom_122
                · -- isDigit, case 1
                  obtain rfl := hw
                  refine lv_if_eq (tgt := 162) hx hb dX13_atom_100 (by decide) (fun c164 => ?_) (fun c164 => ?_)
                  · --100 taken
                    refine lv_iload_n hx hb dX13_atom_162 rfl (lv_at hl 1 rfl) ?_
                    rw [hQ]
                    exact W.iret (v := v96_2) hx hb hr (fun t ht hW => ⟨⟨v96_2, E96_, rfl, ⟨hI, hKp, ⟨by (try rw [(show xi (E96_ 0) 21 = w96_0_21 from vi_e hs96_0_21)]); (try rw [ey1]); first | done | exact hx96_0 | all_goals omega, by (try rw [(show xi (E96_ 0) 23 = w96_0_23 from vi_e hs96_0_23)]); (try rw [ey3]); first | done | exact hx96_1 | all_goals omega, by (try rw [(show xi (E96_ 0) 22 = w96_0_22 from vi_e hs96_0_22)]); (try rw [(show xi (E96_ 0) 23 = w96_0_23 from vi_e hs96_0_23)]); (try rw [ey2]); (try rw [ey3]); first | done | exact fun q9 => (hx96_2 (q9)) | all_goals omega, by (try rw [(show xi (E96_ 0) 22 = w96_0_22 from vi_e hs96_0_22)]); (try rw [ey2]); first | done | exact fun q9 => hx96_3 (q9) | all_goals omega⟩⟩, by show va_P (dC, dI) vwCl (WX 72 ad E96_) t.heap; rw [ht]; exact hP⟩, hS.F ht⟩) hS.2.2 dX13_atom_163
                  · --100 not
                    exact absurd c164 (by decide)
            exact hL96 (202) y7 y134 y3 (0 : Int32) (0 : Int32) E132 _ _ _ iy7 iy134 iy3 (by  first | exact f9 | omega) (by  first | exact Int.le_refl _ | omega) (by  first | exact fun q9 => absurd (q9) f135 | omega) (by  first | exact fun q9 => absurd (q9) f135 | omega) (by have h9 := iy7; first | exact ms_bu h9.1 (by decide) | omega) hI hKp ((kq133 0 21 rfl).trans fy7) fy134 ((kq133 0 23 rfl).trans ((kq6 0 23 rfl).trans fy3)) hP hS (lv_sub hl [0, 1, 2, 3] rfl)
      · --40 not
        have t165 : r4.toInt = 91 := ti_eq c96
        have i166 : 91 ≤ r4.toInt ∧ r4.toInt ≤ 91 := iv_eqi t165 i89 (il_ 91) (by decide)
        refine lv_aload_n hx hb dX13_atom_43 rfl (lv_at hl 1 rfl) ?_
        refine th_i (va_runV (As := []) (rest := []) ⟨hx, hb, hml, hown, hts⟩ (q_goesIn l dC dI cT ad E5 H.size hI (by (try rw [(show xi (E5 0) 21 = y7 from vi_e fy7)]); omega)) (cwV 0 hts (gi_V (in_26 _ (zs4 (zs4 (zs0)))) (in_26 _ (zs4 (zs4 (zs1 (zs0))))) (in_26 _ (zs4 (zs4 (zs1 (zs1 (zs0)))))) (in_24 _ (zs4 (zs4 (zs4 (zs1 (zs1 (zs1 (zs0)))))))) (in_26 _ (zs4 (zs4 (zs1 (zs1 (zs1 (zs0)))))))) rfl rfl rfl ⟨rfl, hz_yX13_goesIn_0⟩ ⟨(show 1 + 1 ≤ 7 * n + 5 from nl_1 (Nat.le_of_ble_eq_true rfl)), (show 8 + (1 + 11) + 40 * (1) ≤ 40 * (7 * n + 5) from nl_2 (Nat.le_of_ble_eq_true rfl))⟩) ⟨HW_bl, va_recv hK hP (ci := 14) (q0 := 0) rfl (hI.ob 0 (Nat.le_of_ble_eq_true rfl) rfl), (HW_wi hP hK (WX_D hD) hS hA hEV)⟩ rfl rfl hl.1 rfl (lv_room (Nat.le_of_ble_eq_true rfl)) dX13_atom_44 ⟨Nat.le_of_ble_eq_true rfl, Nat.le_of_ble_eq_true rfl⟩) (WX_D hD) hS hA (fun r167 E168 H locs hw hP hS => ?_)
        obtain ⟨hI, kq169, hw⟩ := hw
        have hKb := hKp
        have hKp := hKp.tr kq169 (wl_sub rfl rfl)
        obtain ⟨y170, ey170⟩ : ∃ y, xi (E168 0) 21 = y := ⟨_, rfl⟩
        have fy170 : xv (E168 0) 21 = .int y170 := (hI.fi 0 (Nat.le_of_ble_eq_true rfl) rfl (Nat.le_of_ble_eq_true rfl) rfl).trans (congrArg Value.int ey170)
        have iy170 : 0 ≤ y170.toInt ∧ y170.toInt ≤ 201 := by rw [← ey170]; exact hI.iv 0 (Nat.le_of_ble_eq_true rfl) rfl (Nat.le_of_ble_eq_true rfl) rfl
        obtain ⟨y171, ey171⟩ : ∃ y, xi (E168 0) 22 = y := ⟨_, rfl⟩
        have fy171 : xv (E168 0) 22 = .int y171 := (hI.fi 0 (Nat.le_of_ble_eq_true rfl) rfl (Nat.le_of_ble_eq_true rfl) rfl).trans (congrArg Value.int ey171)
        have iy171 : -1 ≤ y171.toInt ∧ y171.toInt ≤ 201 := by rw [← ey171]; exact hI.iv 0 (Nat.le_of_ble_eq_true rfl) rfl (Nat.le_of_ble_eq_true rfl) rfl
        obtain ⟨y172, ey172⟩ : ∃ y, xi (E168 0) 23 = y := ⟨_, rfl⟩
        have fy172 : xv (E168 0) 23 = .int y172 := (hI.fi 0 (Nat.le_of_ble_eq_true rfl) rfl (Nat.le_of_ble_eq_true rfl) rfl).trans (congrArg Value.int ey172)
        have iy172 : 0 ≤ y172.toInt ∧ y172.toInt ≤ 8 := by rw [← ey172]; exact hI.iv 0 (Nat.le_of_ble_eq_true rfl) rfl (Nat.le_of_ble_eq_true rfl) rfl
        rcases hw with hw | hw
        · -- goesIn, case 0
          obtain ⟨rfl, f173, f174, f175, f176⟩ := hw
          try rw [(show xi (E5 0) 21 = y7 from vi_e fy7)] at f173
          try rw [(show xi (E168 0) 21 = y170 from vi_e fy170)] at f173
          try rw [(show xi (E5 0) 23 = y3 from vi_e ((kq6 0 23 rfl).trans fy3))] at f174
          try rw [(show xi (E168 0) 23 = y172 from vi_e fy172)] at f174
          try rw [(show xi (E5 0) 22 = y2 from vi_e ((kq6 0 22 rfl).trans fy2))] at f175
          try rw [(show xi (E168 0) 22 = y171 from vi_e fy171)] at f175
          try rw [(show xi (E5 0) 23 = y3 from vi_e ((kq6 0 23 rfl).trans fy3))] at f176
          try rw [(show xi (E168 0) 23 = y172 from vi_e fy172)] at f176
          obtain ⟨k9, hk9⟩ : ∃ k9, n = k9 + 1 := ⟨n - 1, by omega⟩
          refine lv_if_ne (tgt := 52) hx hb dX13_atom_47 (by decide) (fun c177 => ?_) (fun c177 => ?_)
          · --47 taken
            refine lv_aload_n hx hb dX13_atom_52 rfl (lv_at hl 1 rfl) ?_
            refine th_i (va_runV (As := []) (rest := []) ⟨hx, hb, hml, hown, hts⟩ ((gSum k9 (by omega)) dC dI cT ad E168 H.size k nl hI (by exact hh0) (by exact hh1) (by exact hh2) (by exact (hKp 0 18 rfl).trans hh3) (by (try rw [hKp.ei 0 19 rfl]); exact hh4) (by (try rw [(show xi (E168 0) 23 = y172 from vi_e fy172)]); omega)) (cwV 0 hts (gi_V (in_26 _ (zs16 (zs0))) (in_26 _ (zs16 (zs1 (zs0)))) (in_26 _ (zs16 (zs1 (zs1 (zs0))))) (in_24 _ (zs4 (zs4 (zs4 (zs1 (zs1 (zs1 (zs0)))))))) (in_26 _ (zs16 (zs4 (zs4 (zs1 (zs1 (zs1 (zs0))))))))) rfl rfl rfl (by decide +kernel) ⟨(show 7 * k9 + 7 + 1 ≤ 7 * n + 5 by omega), (show 8 + (5 + 11) + 40 * (7 * k9 + 7) ≤ 40 * (7 * n + 5) by omega)⟩) ⟨HW_bl, va_recv hK hP (ci := 14) (q0 := 0) rfl (hI.ob 0 (Nat.le_of_ble_eq_true rfl) rfl), (HW_wi hP hK (WX_D hD) hS hA hEV)⟩ rfl rfl hl.1 rfl (lv_room (Nat.le_of_ble_eq_true rfl)) dX13_atom_53 ⟨Nat.le_of_ble_eq_true rfl, Nat.le_of_ble_eq_true rfl⟩) (WX_D hD) hS hA (fun r178 E179 H locs hw hP hS => ?_)
            obtain ⟨hI, kq180, hw⟩ := hw
            have hKb := hKp
            have hKp := hKp.tr kq180 (wl_sub rfl rfl)
            obtain ⟨y181, ey181⟩ : ∃ y, xi (E179 0) 21 = y := ⟨_, rfl⟩
            have fy181 : xv (E179 0) 21 = .int y181 := (hI.fi 0 (Nat.le_of_ble_eq_true rfl) rfl (Nat.le_of_ble_eq_true rfl) rfl).trans (congrArg Value.int ey181)
            have iy181 : 0 ≤ y181.toInt ∧ y181.toInt ≤ 201 := by rw [← ey181]; exact hI.iv 0 (Nat.le_of_ble_eq_true rfl) rfl (Nat.le_of_ble_eq_true rfl) rfl
            obtain ⟨y182, ey182⟩ : ∃ y, xi (E179 0) 22 = y := ⟨_, rfl⟩
            have fy182 : xv (E179 0) 22 = .int y182 := (hI.fi 0 (Nat.le_of_ble_eq_true rfl) rfl (Nat.le_of_ble_eq_true rfl) rfl).trans (congrArg Value.int ey182)
            have iy182 : -1 ≤ y182.toInt ∧ y182.toInt ≤ 201 := by rw [← ey182]; exact hI.iv 0 (Nat.le_of_ble_eq_true rfl) rfl (Nat.le_of_ble_eq_true rfl) rfl
            obtain ⟨y183, ey183⟩ : ∃ y, xi (E179 0) 23 = y := ⟨_, rfl⟩
            have fy183 : xv (E179 0) 23 = .int y183 := (hI.fi 0 (Nat.le_of_ble_eq_true rfl) rfl (Nat.le_of_ble_eq_true rfl) rfl).trans (congrArg Value.int ey183)
            have iy183 : 0 ≤ y183.toInt ∧ y183.toInt ≤ 8 := by rw [← ey183]; exact hI.iv 0 (Nat.le_of_ble_eq_true rfl) rfl (Nat.le_of_ble_eq_true rfl) rfl
            obtain ⟨f184, f185, f186, f187⟩ := hw
            try rw [(show xi (E168 0) 21 = y170 from vi_e fy170)] at f184
            try rw [(show xi (E179 0) 21 = y181 from vi_e fy181)] at f184
            try rw [(show xi (E168 0) 23 = y172 from vi_e fy172)] at f185
            try rw [(show xi (E179 0) 23 = y183 from vi_e fy183)] at f185
            try rw [(show xi (E168 0) 22 = y171 from vi_e fy171)] at f186
            try rw [(show xi (E168 0) 23 = y172 from vi_e fy172)] at f186
            try rw [(show xi (E179 0) 22 = y182 from vi_e fy182)] at f186
            try rw [(show xi (E179 0) 23 = y183 from vi_e fy183)] at f186
            try rw [(show xi (E168 0) 22 = y171 from vi_e fy171)] at f187
            try rw [(show xi (E179 0) 22 = y182 from vi_e fy182)] at f187
            refine lv_istore_n (lv' := [(2, .int r178), (1, .int r4), (0, .ref (ad 0))]) hx hb dX13_atom_56 rfl hl (by decide) rfl (fun ls hl => ?_)
            refine lv_aload_n hx hb dX13_atom_57 rfl (lv_at hl 2 rfl) ?_
            refine lv_bipush (v := 93) hx hb dX13_atom_58 (by decide) ?_
            have z93 := ln_93
            refine th_i (va_runV (As := [.int 93]) (rest := []) ⟨hx, hb, hml, hown, hts⟩ (q_takes l dC dI cT ad E179 H.size (93 : Int32) k nl hI (by exact hh0) (by exact hh1) (by exact hh2) (by exact (hKp 0 18 rfl).trans hh3) (by (try rw [hKp.ei 0 19 rfl]); exact hh4) (iv_w ln_93 (by decide))) (cwV 1 hts (gi_V (in_26 _ (zs16 (zs1 (zs1 (zs1 (zs0)))))) (in_26 _ (zs16 (zs4 (zs0)))) (in_26 _ (zs16 (zs4 (zs1 (zs0))))) (in_24 _ (zs4 (zs4 (zs4 (zs1 (zs1 (zs1 (zs0)))))))) (in_26 _ (zs16 (zs4 (zs1 (zs1 (zs0))))))) rfl rfl rfl ⟨rfl, hz_yX13_takes_1⟩ ⟨(show 1 + 1 ≤ 7 * n + 5 from nl_1 (Nat.le_of_ble_eq_true rfl)), (show 8 + (2 + 11) + 40 * (1) ≤ 40 * (7 * n + 5) from nl_2 (Nat.le_of_ble_eq_true rfl))⟩) ⟨HW_bl, va_recv hK hP (ci := 14) (q0 := 0) rfl (hI.ob 0 (Nat.le_of_ble_eq_true rfl) rfl), (HW_wi hP hK (WX_D hD) hS hA hEV)⟩ rfl rfl hl.1 rfl (lv_room (Nat.le_of_ble_eq_true rfl)) dX13_atom_60 ⟨Nat.le_of_ble_eq_true rfl, Nat.le_of_ble_eq_true rfl⟩) (WX_D hD) hS hA (fun r188 E189 H locs hw hP hS => ?_)
            obtain ⟨hI, kq190, hw⟩ := hw
            have hKb := hKp
            have hKp := hKp.tr kq190 (wl_sub rfl rfl)
            obtain ⟨y191, ey191⟩ : ∃ y, xi (E189 0) 21 = y := ⟨_, rfl⟩
            have fy191 : xv (E189 0) 21 = .int y191 := (hI.fi 0 (Nat.le_of_ble_eq_true rfl) rfl (Nat.le_of_ble_eq_true rfl) rfl).trans (congrArg Value.int ey191)
            have iy191 : 0 ≤ y191.toInt ∧ y191.toInt ≤ 201 := by rw [← ey191]; exact hI.iv 0 (Nat.le_of_ble_eq_true rfl) rfl (Nat.le_of_ble_eq_true rfl) rfl
            obtain ⟨y192, ey192⟩ : ∃ y, xi (E189 0) 22 = y := ⟨_, rfl⟩
            have fy192 : xv (E189 0) 22 = .int y192 := (hI.fi 0 (Nat.le_of_ble_eq_true rfl) rfl (Nat.le_of_ble_eq_true rfl) rfl).trans (congrArg Value.int ey192)
            have iy192 : -1 ≤ y192.toInt ∧ y192.toInt ≤ 201 := by rw [← ey192]; exact hI.iv 0 (Nat.le_of_ble_eq_true rfl) rfl (Nat.le_of_ble_eq_true rfl) rfl
            rcases hw with hw | hw
            · -- takes, case 0
              obtain ⟨rfl, f193, f194, f195, f196⟩ := hw
              try rw [(show xi (E179 0) 21 = y181 from vi_e fy181)] at f193
              try rw [(show xi (E189 0) 21 = y191 from vi_e fy191)] at f193
              try rw [(show xi (E179 0) 22 = y182 from vi_e fy182)] at f194
              try rw [(show xi (E189 0) 22 = y192 from vi_e fy192)] at f194
              try rw [(show xi (E179 0) 22 = y182 from vi_e fy182)] at f195
              try rw [(show xi (E189 0) 22 = y192 from vi_e fy192)] at f195
              try rw [(show xi (E179 0) 21 = y181 from vi_e fy181)] at f196
              try rw [(show xi (E189 0) 21 = y191 from vi_e fy191)] at f196
              refine lv_if_ne (tgt := 68) hx hb dX13_atom_63 (by decide) (fun c197 => ?_) (fun c197 => ?_)
              · --63 taken
                refine lv_aload_n hx hb dX13_atom_68 rfl (lv_at hl 2 rfl) ?_
                refine lv_dup hx hb dX13_atom_69 rfl ?_
                refine th_get (ci := 14) (C := RX13) (T := TX13) (N := 97) (v := .int y183) hx hb hts hinX13 hown hK hP hI 0 (Nat.le_of_ble_eq_true rfl) rfl rfl 23 (Nat.le_of_ble_eq_true rfl) (hts _ (vA_in _ _ (in_25 _ (zs16 (zs16 (zs4 (zs1 (zs1 (zs0))))))))) (fun _ h9 => h9) ((kq190 0 23 rfl).trans fy183) dX13_atom_70 ?_
                refine lv_iconst (v := 1) hx hb dX13_atom_73 (by decide) ?_
                refine lv_isub hx hb dX13_atom_74 ?_
                refine lv_topi (fun y198 ey198 => ?_)
                obtain ⟨ty198, iy198⟩ := ti_sub (e := (-1)) (f := 7) iy183 ln_1 ey198 (by decide)
                have ty198 : y198.toInt = y183.toInt - 1 := ty198
                have iy198 : -1 ≤ y198.toInt ∧ y198.toInt ≤ 7 := iy198
                have i199 : 0 ≤ y198.toInt ∧ y198.toInt ≤ 7 := by omega
                refine th_put (ci := 14) (C := RX13) (T := TX13) (N := 97) (v := .int y198) (ty := .int) hx hb hts hinX13 tyX13 tyX13_ok nmX13 hown hK hP (WX_D hD) hS hI 0 (Nat.le_of_ble_eq_true rfl) rfl rfl 23 (Nat.le_of_ble_eq_true rfl) (hts _ (vA_in _ _ (in_25 _ (zs16 (zs16 (zs4 (zs1 (zs1 (zs0))))))))) (fun _ h9 => h9) rfl (by decide +kernel) rfl rfl (okI rfl (iv_w i199 (by decide))) dX13_atom_75 (fun H locs E200 pw201 hI hP hS => ?_)
                have hKp := hKp.pw pw201 rfl
                refine lv_iload_n hx hb dX13_atom_78 rfl (lv_at hl 0 rfl) ?_
                rw [hQ]
                exact W.iret (v := r178) hx hb hr (fun t ht hW => ⟨⟨r178, E200, rfl, ⟨hI, hKp, ⟨by (try rw [(show xi (E200 0) 21 = y191 from vi_e ((pw201.2 0 21 (fun q9 => absurd q9.2 (Nat.ne_of_beq_eq_false rfl))).trans fy191))]); (try rw [ey1]); first | done | exact (Int.le_trans (Int.le_trans (Int.le_trans f9 (Int.le_trans (Int.le_add_of_nonneg_right (by decide)) (Int.le_of_eq f173.symm))) f184) f193) | all_goals omega, by (try rw [(show xi (E200 0) 23 = y198 from vi_e pw201.1)]); (try rw [ey1]); (try rw [ey2]); (try rw [ey3]); all_goals omega, by (try rw [(show xi (E200 0) 22 = y192 from vi_e ((pw201.2 0 22 (fun q9 => absurd q9.2 (Nat.ne_of_beq_eq_false rfl))).trans fy192))]); (try rw [(show xi (E200 0) 23 = y198 from vi_e pw201.1)]); (try rw [ey1]); (try rw [ey2]); (try rw [ey3]); all_goals omega, by (try rw [(show xi (E200 0) 22 = y192 from vi_e ((pw201.2 0 22 (fun q9 => absurd q9.2 (Nat.ne_of_beq_eq_false rfl))).trans fy192))]); (try rw [ey1]); (try rw [ey2]); (try rw [ey3]); all_goals omega⟩⟩, by show va_P (dC, dI) vwCl (WX 72 ad E200) t.heap; rw [ht]; exact hP⟩, hS.F ht⟩) hS.2.2 dX13_atom_79
              · --63 not
                exact absurd c197 (by decide)
            · -- takes, case 1
              obtain ⟨rfl, f202, f203⟩ := hw
              try rw [(show xi (E179 0) 21 = y181 from vi_e fy181)] at f202
              try rw [(show xi (E189 0) 21 = y191 from vi_e fy191)] at f202
              try rw [(show xi (E179 0) 22 = y182 from vi_e fy182)] at f203
              try rw [(show xi (E189 0) 22 = y192 from vi_e fy192)] at f203
              refine lv_if_ne (tgt := 68) hx hb dX13_atom_63 (by decide) (fun c204 => ?_) (fun c204 => ?_)
              · --63 taken
                exact absurd c204 (by decide)
              · --63 not
                refine lv_iconst (v := 0) hx hb dX13_atom_66 (by decide) ?_
                rw [hQ]
                exact W.iret (v := 0) hx hb hr (fun t ht hW => ⟨⟨0, E189, rfl, ⟨hI, hKp, ⟨by (try rw [(show xi (E189 0) 21 = y191 from vi_e fy191)]); (try rw [ey1]); first | done | exact (Int.le_trans (Int.le_trans (Int.le_trans f9 (Int.le_trans (Int.le_add_of_nonneg_right (by decide)) (Int.le_of_eq f173.symm))) f184) f202) | have h8 := ln_0; all_goals omega, by (try rw [(show xi (E189 0) 23 = y183 from vi_e ((kq190 0 23 rfl).trans fy183))]); (try rw [ey3]); first | done | exact (Int.le_trans (Int.le_trans (Int.le_add_of_nonneg_right (by decide)) (Int.le_of_eq f174.symm)) f185) | have h8 := ln_0; all_goals omega, by (try rw [(show xi (E189 0) 22 = y192 from vi_e fy192)]); (try rw [(show xi (E189 0) 23 = y183 from vi_e ((kq190 0 23 rfl).trans fy183))]); (try rw [ey2]); (try rw [ey3]); first | done | exact fun q9 => absurd (q9) f203 | have h8 := ln_0; all_goals omega, by (try rw [(show xi (E189 0) 22 = y192 from vi_e fy192)]); (try rw [ey2]); first | done | exact fun q9 => absurd (q9) f203 | have h8 := ln_0; all_goals omega⟩⟩, by show va_P (dC, dI) vwCl (WX 72 ad E189) t.heap; rw [ht]; exact hP⟩, hS.F ht⟩) hS.2.2 dX13_atom_67
          · --47 not
            exact absurd c177 (by decide)
        · -- goesIn, case 1
          obtain ⟨rfl, f205, f206, f207⟩ := hw
          try rw [(show xi (E5 0) 21 = y7 from vi_e fy7)] at f205
          try rw [(show xi (E168 0) 21 = y170 from vi_e fy170)] at f205
          try rw [(show xi (E5 0) 23 = y3 from vi_e ((kq6 0 23 rfl).trans fy3))] at f206
          try rw [(show xi (E168 0) 23 = y172 from vi_e fy172)] at f206
          try rw [(show xi (E5 0) 22 = y2 from vi_e ((kq6 0 22 rfl).trans fy2))] at f207
          try rw [(show xi (E168 0) 22 = y171 from vi_e fy171)] at f207
          refine lv_if_ne (tgt := 52) hx hb dX13_atom_47 (by decide) (fun c208 => ?_) (fun c208 => ?_)
          · --47 taken
            exact absurd c208 (by decide)
          · --47 not
            refine lv_iconst (v := 0) hx hb dX13_atom_50 (by decide) ?_
            rw [hQ]
            exact W.iret (v := 0) hx hb hr (fun t ht hW => ⟨⟨0, E168, rfl, ⟨hI, hKp, ⟨by (try rw [(show xi (E168 0) 21 = y170 from vi_e fy170)]); (try rw [ey1]); first | done | exact (Int.le_trans f9 (Int.le_of_eq f205.symm)) | have h8 := ln_0; all_goals omega, by (try rw [(show xi (E168 0) 23 = y172 from vi_e fy172)]); (try rw [ey3]); first | done | exact (Int.le_of_eq f206.symm) | have h8 := ln_0; all_goals omega, by (try rw [(show xi (E168 0) 22 = y171 from vi_e fy171)]); (try rw [(show xi (E168 0) 23 = y172 from vi_e fy172)]); (try rw [ey2]); (try rw [ey3]); first | done | exact fun q9 => absurd (q9) f207 | have h8 := ln_0; all_goals omega, by (try rw [(show xi (E168 0) 22 = y171 from vi_e fy171)]); (try rw [ey2]); first | done | exact fun q9 => absurd (q9) f207 | have h8 := ln_0; all_goals omega⟩⟩, by show va_P (dC, dI) vwCl (WX 72 ad E168) t.heap; rw [ht]; exact hP⟩, hS.F ht⟩) hS.2.2 dX13_atom_51
    · --17 not
      have t209 : (0 : Int) ≤ r90.toInt := ti_nlt c93
      have i210 : 0 ≤ r90.toInt ∧ r90.toInt ≤ 1000 := iv_le_r t209 (il_ 0) f91 (by decide)
      refine lv_aload_n hx hb dX13_atom_20 rfl (lv_at hl 1 rfl) ?_
      refine lv_dup hx hb dX13_atom_21 rfl ?_
      refine th_get (ci := 14) (C := RX13) (T := TX13) (N := 97) (v := .int y7) hx hb hts hinX13 hown hK hP hI 0 (Nat.le_of_ble_eq_true rfl) rfl rfl 21 (Nat.le_of_ble_eq_true rfl) (hts _ (vA_in _ _ (in_25 _ (zs16 (zs16 (zs4 (zs0))))))) (fun _ h9 => h9) fy7 dX13_atom_22 ?_
      refine lv_iconst (v := 1) hx hb dX13_atom_25 (by decide) ?_
      refine lv_iadd hx hb dX13_atom_26 ?_
      refine lv_topi (fun y211 ey211 => ?_)
      obtain ⟨ty211, iy211⟩ := ti_add (e := 1) (f := 202) iy7 ln_1 ey211 (by decide)
      have ty211 : y211.toInt = y7.toInt + 1 := ty211
      have iy211 : 1 ≤ y211.toInt ∧ y211.toInt ≤ 202 := iy211
      have i212 : 1 ≤ y211.toInt ∧ y211.toInt ≤ 201 := by omega
      refine th_put (ci := 14) (C := RX13) (T := TX13) (N := 97) (v := .int y211) (ty := .int) hx hb hts hinX13 tyX13 tyX13_ok nmX13 hown hK hP (WX_D hD) hS hI 0 (Nat.le_of_ble_eq_true rfl) rfl rfl 21 (Nat.le_of_ble_eq_true rfl) (hts _ (vA_in _ _ (in_25 _ (zs16 (zs16 (zs4 (zs0))))))) (fun _ h9 => h9) rfl (by decide +kernel) rfl rfl (okI rfl (iv_w i212 (by decide))) dX13_atom_27 (fun H locs E213 pw214 hI hP hS => ?_)
      have hKp := hKp.pw pw214 rfl
      refine lv_aload_n hx hb dX13_atom_30 rfl (lv_at hl 1 rfl) ?_
      refine th_get (ci := 14) (C := RX13) (T := TX13) (N := 97) (v := .ref (ad 12)) hx hb hts hinX13 hown hK hP hI 0 (Nat.le_of_ble_eq_true rfl) rfl rfl 15 (Nat.le_of_ble_eq_true rfl) (hts _ (vA_in _ _ (in_25 _ (zs16 (zs16 (zs4 (zs1 (zs0)))))))) (fun _ h9 => h9) (hI.fr 0 (Nat.le_of_ble_eq_true rfl) rfl (Nat.le_of_ble_eq_true rfl) 12 rfl) dX13_atom_31 ?_
      refine lv_iload_n hx hb dX13_atom_34 rfl (lv_at hl 0 rfl) ?_
      have i217 : 97 ≤ r4.toInt ∧ r4.toInt ≤ 122 := tLET_in _ (ixF_mem tLET 0 (by decide) (by rw [← f92]; omega))
      have n216 : vp_in r4 128 := (iv_in (n := 128) i217 (by decide))
      refine th_iald hx hb hK hP hI 12 (Nat.le_of_ble_eq_true rfl) rfl rfl n216 dX13_atom_35 (fun y215 ey215 => ?_)
      have ey215 := ey215.trans (hKp.ei 12 _ rfl)
      rw [hQ]
      exact W.iret (v := y215) hx hb hr (fun t ht hW => ⟨⟨y215, E213, rfl, ⟨hI, hKp, ⟨by (try rw [(show xi (E213 0) 21 = y211 from vi_e pw214.1)]); (try rw [ey1]); first | done | exact (Int.le_trans f9 (Int.le_trans (Int.le_add_of_nonneg_right (by decide)) (Int.le_of_eq ty211.symm))) | all_goals omega, by (try rw [(show xi (E213 0) 23 = y3 from vi_e ((pw214.2 0 23 (fun q9 => absurd q9.2 (Nat.ne_of_beq_eq_false rfl))).trans ((kq6 0 23 rfl).trans fy3)))]); (try rw [ey3]); first | done | exact Int.le_refl _ | all_goals omega, by (try rw [(show xi (E213 0) 22 = y2 from vi_e ((pw214.2 0 22 (fun q9 => absurd q9.2 (Nat.ne_of_beq_eq_false rfl))).trans ((kq6 0 22 rfl).trans fy2)))]); (try rw [(show xi (E213 0) 23 = y3 from vi_e ((pw214.2 0 23 (fun q9 => absurd q9.2 (Nat.ne_of_beq_eq_false rfl))).trans ((kq6 0 23 rfl).trans fy3)))]); (try rw [ey2]); (try rw [ey3]); first | done | exact fun q9 => rfl | all_goals omega, by (try rw [(show xi (E213 0) 22 = y2 from vi_e ((pw214.2 0 22 (fun q9 => absurd q9.2 (Nat.ne_of_beq_eq_false rfl))).trans ((kq6 0 22 rfl).trans fy2)))]); (try rw [ey2]); first | done | exact fun q9 => q9 | all_goals omega⟩⟩, by show va_P (dC, dI) vwCl (WX 72 ad E213) t.heap; rw [ht]; exact hP⟩, hS.F ht⟩) hS.2.2 dX13_atom_36
set_option maxHeartbeats 4000000 in
set_option maxRecDepth 100000 in
theorem q_term (l : Launch) (n : Nat) (gA : C_atom l n) : C_term l n := by
  intro dC dI cT ad E sz k nl hI0 hh0 hh1 hh2 hh3 hh4 hh5
  refine Met.ofW (cc := cX13_term) (maxL := 5) (ret := (some .int)) (by decide) rfl ?_
  intro p e s m args below meth c s₁ B hml hv
  obtain ⟨hargs, hsz, hP, hK, hD0, hEV⟩ := hv
  subst hsz
  have hx := B.exec
  have hb := B.bytes
  have hr := B.returns
  have hts := atoms_spec (ws := v_term) B.pre
  have hown : s.vm.findClass RX13 = some m.cls := findClass_of_methodNamed B.named
  have hlocks := B.notSynchronized
  have hinX13 : ∀ w ∈ u_ws RX13 TX13 97, w ∈ v_term := fun w h => vA_in _ w (in_X13 w h)
  generalize hAe : va_A (WX 72 ad E) s.heap.size = A at hEV ⊢
  have hA : ∀ q : Nat, s.heap.size ≤ q → A q := fun q h => by rw [← hAe]; exact Or.inr h
  have hD : va_D A (WX 72 ad E) := by rw [← hAe]; exact hD0.self
  have hS : va_S A s.heap s.heap [] := va_S.rf
  have hI := hI0
  have hKp : Kp w_term E E := Kp.rf
  have hl := lv_entry ([.ref (ad 0)]) (n := 5) (Nat.le_of_ble_eq_true rfl)
  obtain ⟨Q, hQ⟩ : ∃ Q, Q = MQ below (va_Qi (S := Nat → va_E) (fun r u => IX cT shM spM 72 ad u ∧ Kp w_term E u ∧ (((xi (E 0) 21).toInt ≤ (xi (u 0) 21).toInt) ∧ ((xi (E 0) 23).toInt ≤ (xi (u 0) 23).toInt) ∧ ((xi (u 0) 22).toInt = -1 → (xi (u 0) 23).toInt = (xi (E 0) 23).toInt) ∧ ((xi (u 0) 22).toInt = -1 → (xi (E 0) 22).toInt = -1))) (HB dC dI 72 ad) (A)) args s 0 0 (A) := ⟨_, rfl⟩
  rw [← hQ, show entryFrame m args 5 = _ from (congrArg (fun z => entryFrame m z 5) hargs).trans (lg_entry_eq _ _ _)]
  generalize (lg_sl ([.ref (ad 0)]) ++ List.replicate (5 - (lg_sl ([.ref (ad 0)])).length) Slot.unset).toArray = ls at hl ⊢
  have hl : lv_has ls 5 [(0, .ref (ad 0))] := hl
  obtain ⟨y1, ey1⟩ : ∃ y, xi (E 0) 21 = y := ⟨_, rfl⟩
  have fy1 : xv (E 0) 21 = .int y1 := (hI.fi 0 (Nat.le_of_ble_eq_true rfl) rfl (Nat.le_of_ble_eq_true rfl) rfl).trans (congrArg Value.int ey1)
  have iy1 : 0 ≤ y1.toInt ∧ y1.toInt ≤ 201 := by rw [← ey1]; exact hI.iv 0 (Nat.le_of_ble_eq_true rfl) rfl (Nat.le_of_ble_eq_true rfl) rfl
  obtain ⟨y2, ey2⟩ : ∃ y, xi (E 0) 22 = y := ⟨_, rfl⟩
  have fy2 : xv (E 0) 22 = .int y2 := (hI.fi 0 (Nat.le_of_ble_eq_true rfl) rfl (Nat.le_of_ble_eq_true rfl) rfl).trans (congrArg Value.int ey2)
  have iy2 : -1 ≤ y2.toInt ∧ y2.toInt ≤ 201 := by rw [← ey2]; exact hI.iv 0 (Nat.le_of_ble_eq_true rfl) rfl (Nat.le_of_ble_eq_true rfl) rfl
  obtain ⟨y3, ey3⟩ : ∃ y, xi (E 0) 23 = y := ⟨_, rfl⟩
  have fy3 : xv (E 0) 23 = .int y3 := (hI.fi 0 (Nat.le_of_ble_eq_true rfl) rfl (Nat.le_of_ble_eq_true rfl) rfl).trans (congrArg Value.int ey3)
  have iy3 : 0 ≤ y3.toInt ∧ y3.toInt ≤ 8 := by rw [← ey3]; exact hI.iv 0 (Nat.le_of_ble_eq_true rfl) rfl (Nat.le_of_ble_eq_true rfl) rfl
  rw [ey3] at hh5
  refine lv_aload_n hx hb dX13_term_0 rfl (lv_at hl 0 rfl) ?_
  refine th_i (va_runV (As := []) (rest := []) ⟨hx, hb, hml, hown, hts⟩ (gA dC dI cT ad E s.heap.size k nl hI (by exact hh0) (by exact hh1) (by exact hh2) (by exact hh3) (by exact hh4) (by (try rw [(show xi (E 0) 23 = y3 from vi_e fy3)]); omega)) (cwV 0 hts (gi_V (in_27 _ (zs1 (zs1 (zs1 (zs0))))) (in_27 _ (zs4 (zs0))) (in_27 _ (zs4 (zs1 (zs0)))) (in_24 _ (zs4 (zs4 (zs4 (zs1 (zs1 (zs1 (zs0)))))))) (in_25 _ (zs16 (zs16 (zs1 (zs1 (zs1 (zs0)))))))) rfl rfl rfl (by decide +kernel) ⟨(show 7 * n + 5 + 1 ≤ 7 * n + 6 from nl_4 (Nat.le_of_ble_eq_true rfl) (Nat.le_of_ble_eq_true rfl)), (show 8 + (4 + 11) + 40 * (7 * n + 5) ≤ 40 * (7 * n + 6) from nl_3 (Nat.le_of_ble_eq_true rfl) (Nat.le_of_ble_eq_true rfl))⟩) ⟨HW_bl, va_recv hK hP (ci := 14) (q0 := 0) rfl (hI.ob 0 (Nat.le_of_ble_eq_true rfl) rfl), (HW_wi hP hK (WX_D hD) hS hA hEV)⟩ rfl rfl hl.1 rfl (lv_room (Nat.le_of_ble_eq_true rfl)) dX13_term_1 ⟨Nat.le_of_ble_eq_true rfl, Nat.le_of_ble_eq_true rfl⟩) (WX_D hD) hS hA (fun r4 E5 H locs hw hP hS => ?_)
  obtain ⟨hI, kq6, hw⟩ := hw
  have hKb := hKp
  have hKp := hKp.tr kq6 (wl_sub rfl rfl)
  obtain ⟨y7, ey7⟩ : ∃ y, xi (E5 0) 21 = y := ⟨_, rfl⟩
  have fy7 : xv (E5 0) 21 = .int y7 := (hI.fi 0 (Nat.le_of_ble_eq_true rfl) rfl (Nat.le_of_ble_eq_true rfl) rfl).trans (congrArg Value.int ey7)
  have iy7 : 0 ≤ y7.toInt ∧ y7.toInt ≤ 201 := by rw [← ey7]; exact hI.iv 0 (Nat.le_of_ble_eq_true rfl) rfl (Nat.le_of_ble_eq_true rfl) rfl
  obtain ⟨y8, ey8⟩ : ∃ y, xi (E5 0) 22 = y := ⟨_, rfl⟩
  have fy8 : xv (E5 0) 22 = .int y8 := (hI.fi 0 (Nat.le_of_ble_eq_true rfl) rfl (Nat.le_of_ble_eq_true rfl) rfl).trans (congrArg Value.int ey8)
  have iy8 : -1 ≤ y8.toInt ∧ y8.toInt ≤ 201 := by rw [← ey8]; exact hI.iv 0 (Nat.le_of_ble_eq_true rfl) rfl (Nat.le_of_ble_eq_true rfl) rfl
  obtain ⟨y9, ey9⟩ : ∃ y, xi (E5 0) 23 = y := ⟨_, rfl⟩
  have fy9 : xv (E5 0) 23 = .int y9 := (hI.fi 0 (Nat.le_of_ble_eq_true rfl) rfl (Nat.le_of_ble_eq_true rfl) rfl).trans (congrArg Value.int ey9)
  have iy9 : 0 ≤ y9.toInt ∧ y9.toInt ≤ 8 := by rw [← ey9]; exact hI.iv 0 (Nat.le_of_ble_eq_true rfl) rfl (Nat.le_of_ble_eq_true rfl) rfl
  obtain ⟨f10, f11, f12, f13⟩ := hw
  have i14 : 0 ≤ (xi (E 0) 19).toInt ∧ (xi (E 0) 19).toInt ≤ 3000 := (show 0 ≤ (xi (E 0) 19).toInt ∧ (xi (E 0) 19).toInt ≤ 3000 from hI0.iv 0 (Nat.le_of_ble_eq_true rfl) rfl (Nat.le_of_ble_eq_true rfl) rfl)
  have i15 : 0 ≤ (xi (E 0) 20).toInt ∧ (xi (E 0) 20).toInt ≤ 200 := (show 0 ≤ (xi (E 0) 20).toInt ∧ (xi (E 0) 20).toInt ≤ 200 from hI0.iv 0 (Nat.le_of_ble_eq_true rfl) rfl (Nat.le_of_ble_eq_true rfl) rfl)
  try rw [(show xi (E 0) 21 = y1 from vi_e fy1)] at f10
  try rw [(show xi (E5 0) 21 = y7 from vi_e fy7)] at f10
  try rw [(show xi (E 0) 23 = y3 from vi_e fy3)] at f11
  try rw [(show xi (E5 0) 23 = y9 from vi_e fy9)] at f11
  try rw [(show xi (E 0) 22 = y2 from vi_e fy2)] at f12
  try rw [(show xi (E 0) 23 = y3 from vi_e fy3)] at f12
  try rw [(show xi (E5 0) 22 = y8 from vi_e fy8)] at f12
  try rw [(show xi (E5 0) 23 = y9 from vi_e fy9)] at f12
  try rw [(show xi (E 0) 22 = y2 from vi_e fy2)] at f13
  try rw [(show xi (E5 0) 22 = y8 from vi_e fy8)] at f13
  refine lv_istore_n (lv' := [(1, .int r4), (0, .ref (ad 0))]) hx hb dX13_term_4 rfl hl (by decide) rfl (fun ls hl => ?_)
  have hL5 : ∀ d : Nat, ∀ (w5_0_21 : Int32) (w5_0_22 : Int32) (w5_0_23 : Int32) (v5_1 : Int32) (E5_ : Nat → va_E) (H : Heap) (locs : List Loc) (ls : Array Slot), 0 ≤ w5_0_21.toInt ∧ w5_0_21.toInt ≤ 201 → -1 ≤ w5_0_22.toInt ∧ w5_0_22.toInt ≤ 201 → 0 ≤ w5_0_23.toInt ∧ w5_0_23.toInt ≤ 8 → y1.toInt ≤ w5_0_21.toInt → y3.toInt ≤ w5_0_23.toInt → (w5_0_22.toInt = -1 → w5_0_23.toInt = y3.toInt) → (w5_0_22.toInt = -1 → y2.toInt = -1) → 201 - w5_0_21.toInt < (d : Int) → IX cT shM spM 72 ad E5_ → Kp w_term E E5_ → xv (E5_ 0) 21 = .int w5_0_21 → xv (E5_ 0) 22 = .int w5_0_22 → xv (E5_ 0) 23 = .int w5_0_23 → va_P (dC, dI) vwCl (WX 72 ad E5_) H → va_S A s.heap H locs → lv_has ls 5 [(1, .int v5_1), (0, .ref (ad 0))] → W p l e (headSpec v_term (rm_term n)).room s m args below meth c H locs 0 0 Q (F0 m 5 ls []) := by
    intro d
    induction d with
    | zero =>
      intro w5_0_21 w5_0_22 w5_0_23 v5_1 E5_ H locs ls hw5_0_21 hw5_0_22 hw5_0_23 hx5_0 hx5_1 hx5_2 hx5_3 hx5_4 hI hKp hs5_0_21 hs5_0_22 hs5_0_23 hP hS hl
      exact absurd hx5_4 (by omega)
    | succ d ih5 =>
      intro w5_0_21 w5_0_22 w5_0_23 v5_1 E5_ H locs ls hw5_0_21 hw5_0_22 hw5_0_23 hx5_0 hx5_1 hx5_2 hx5_3 hx5_4 hI hKp hs5_0_21 hs5_0_22 hs5_0_23 hP hS hl
      refine lv_aload_n hx hb dX13_term_5 rfl (lv_at hl 1 rfl) ?_
      refine th_get (ci := 14) (C := RX13) (T := TX13) (N := 97) (v := .int w5_0_22) hx hb hts hinX13 hown hK hP hI 0 (Nat.le_of_ble_eq_true rfl) rfl rfl 22 (Nat.le_of_ble_eq_true rfl) (hts _ (vA_in _ _ (in_25 _ (zs16 (zs16 (zs4 (zs1 (zs1 (zs1 (zs0)))))))))) (fun _ h9 => h9) hs5_0_22 dX13_term_6 ?_
      refine lv_iconst (v := -1) hx hb dX13_term_9 (by decide) ?_
      refine lv_icmp_ne (tgt := 94) hx hb dX13_term_10 (by decide) (fun c16 => ?_) (fun c16 => ?_)
      · --10 taken
        have t17 : ¬ w5_0_22.toInt = -1 := ti_ne c16
        have i18 : 0 ≤ w5_0_22.toInt ∧ w5_0_22.toInt ≤ 201 := iv_ne_l t17 hw5_0_22 (il_ (-1))
        refine lv_iload_n hx hb dX13_term_94 rfl (lv_at hl 0 rfl) ?_
        rw [hQ]
        exact W.iret (v := v5_1) hx hb hr (fun t ht hW => ⟨⟨v5_1, E5_, rfl, ⟨hI, hKp, ⟨by (try rw [(show xi (E5_ 0) 21 = w5_0_21 from vi_e hs5_0_21)]); (try rw [ey1]); first | done | exact hx5_0 | all_goals omega, by (try rw [(show xi (E5_ 0) 23 = w5_0_23 from vi_e hs5_0_23)]); (try rw [ey3]); first | done | exact hx5_1 | all_goals omega, by (try rw [(show xi (E5_ 0) 22 = w5_0_22 from vi_e hs5_0_22)]); (try rw [(show xi (E5_ 0) 23 = w5_0_23 from vi_e hs5_0_23)]); (try rw [ey2]); (try rw [ey3]); first | done | exact fun q9 => absurd (q9) t17 | all_goals omega, by (try rw [(show xi (E5_ 0) 22 = w5_0_22 from vi_e hs5_0_22)]); (try rw [ey2]); first | done | exact fun q9 => absurd (q9) t17 | all_goals omega⟩⟩, by show va_P (dC, dI) vwCl (WX 72 ad E5_) t.heap; rw [ht]; exact hP⟩, hS.F ht⟩) hS.2.2 dX13_term_95
      · --10 not
        have t19 : w5_0_22.toInt = -1 := ti_eq c16
        have i20 : -1 ≤ w5_0_22.toInt ∧ w5_0_22.toInt ≤ -1 := iv_eqi t19 hw5_0_22 (il_ (-1)) (by decide)
        refine lv_aload_n hx hb dX13_term_13 rfl (lv_at hl 1 rfl) ?_
        refine th_i (va_runV (As := []) (rest := []) ⟨hx, hb, hml, hown, hts⟩ (q_look l dC dI cT ad E5_ H.size k nl hI (by exact hh0) (by exact hh1) (by exact hh2) (by exact (hKp 0 18 rfl).trans hh3) (by (try rw [hKp.ei 0 19 rfl]); exact hh4)) (cwV 0 hts (gi_V (in_26 _ (zs1 (zs1 (zs0)))) (in_26 _ (zs1 (zs1 (zs1 (zs0))))) (in_26 _ (zs4 (zs0))) (in_24 _ (zs4 (zs4 (zs4 (zs1 (zs1 (zs1 (zs0)))))))) (in_26 _ (zs4 (zs1 (zs0))))) rfl rfl rfl ⟨rfl, hz_yX13_look_0⟩ ⟨(show 0 + 1 ≤ 7 * n + 6 from nl_1 (Nat.le_of_ble_eq_true rfl)), (show 8 + (1 + 11) + 40 * (0) ≤ 40 * (7 * n + 6) from nl_2 (Nat.le_of_ble_eq_true rfl))⟩) ⟨HW_bl, va_recv hK hP (ci := 14) (q0 := 0) rfl (hI.ob 0 (Nat.le_of_ble_eq_true rfl) rfl), (HW_wi hP hK (WX_D hD) hS hA hEV)⟩ rfl rfl hl.1 rfl (lv_room (Nat.le_of_ble_eq_true rfl)) dX13_term_14 ⟨Nat.le_of_ble_eq_true rfl, Nat.le_of_ble_eq_true rfl⟩) (WX_D hD) hS hA (fun r21 E22 H locs hw hP hS => ?_)
        obtain ⟨hI, kq23, hw⟩ := hw
        have hKb := hKp
        have hKp := hKp.tr kq23 (wl_sub rfl rfl)
        obtain ⟨y24, ey24⟩ : ∃ y, xi (E22 0) 21 = y := ⟨_, rfl⟩
        have fy24 : xv (E22 0) 21 = .int y24 := (hI.fi 0 (Nat.le_of_ble_eq_true rfl) rfl (Nat.le_of_ble_eq_true rfl) rfl).trans (congrArg Value.int ey24)
        have iy24 : 0 ≤ y24.toInt ∧ y24.toInt ≤ 201 := by rw [← ey24]; exact hI.iv 0 (Nat.le_of_ble_eq_true rfl) rfl (Nat.le_of_ble_eq_true rfl) rfl
        obtain ⟨f25, f26, f27, f28⟩ := hw
        try rw [(show xi (E5_ 0) 21 = w5_0_21 from vi_e hs5_0_21)] at f26
        try rw [(show xi (E22 0) 21 = y24 from vi_e fy24)] at f26
        try rw [(show xi (E5_ 0) 21 = w5_0_21 from vi_e hs5_0_21)] at f27
        try rw [hKb.ei 0 20 rfl] at f27
        try rw [(show xi (E22 0) 21 = y24 from vi_e fy24)] at f27
        try rw [(show xi (E5_ 0) 21 = w5_0_21 from vi_e hs5_0_21)] at f28
        try rw [hKb.ei 0 20 rfl] at f28
        try rw [(show xi (E22 0) 21 = y24 from vi_e fy24)] at f28
        refine lv_bipush (v := 42) hx hb dX13_term_17 (by decide) ?_
        refine lv_icmp_eq (tgt := 31) hx hb dX13_term_19 (by decide) (fun c29 => ?_) (fun c29 => ?_)
        · --19 taken
          have t30 : r21.toInt = 42 := ti_eq c29
          have i31 : 42 ≤ r21.toInt ∧ r21.toInt ≤ 42 := iv_eqi t30 f25 (il_ 42) (by decide)
          refine lv_aload_n hx hb dX13_term_31 rfl (lv_at hl 1 rfl) ?_
          refine th_i (va_runV (As := []) (rest := []) ⟨hx, hb, hml, hown, hts⟩ (q_look l dC dI cT ad E22 H.size k nl hI (by exact hh0) (by exact hh1) (by exact hh2) (by exact (hKp 0 18 rfl).trans hh3) (by (try rw [hKp.ei 0 19 rfl]); exact hh4)) (cwV 0 hts (gi_V (in_26 _ (zs1 (zs1 (zs0)))) (in_26 _ (zs1 (zs1 (zs1 (zs0))))) (in_26 _ (zs4 (zs0))) (in_24 _ (zs4 (zs4 (zs4 (zs1 (zs1 (zs1 (zs0)))))))) (in_26 _ (zs4 (zs1 (zs0))))) rfl rfl rfl ⟨rfl, hz_yX13_look_0⟩ ⟨(show 0 + 1 ≤ 7 * n + 6 from nl_1 (Nat.le_of_ble_eq_true rfl)), (show 8 + (1 + 11) + 40 * (0) ≤ 40 * (7 * n + 6) from nl_2 (Nat.le_of_ble_eq_true rfl))⟩) ⟨HW_bl, va_recv hK hP (ci := 14) (q0 := 0) rfl (hI.ob 0 (Nat.le_of_ble_eq_true rfl) rfl), (HW_wi hP hK (WX_D hD) hS hA hEV)⟩ rfl rfl hl.1 rfl (lv_room (Nat.le_of_ble_eq_true rfl)) dX13_term_32 ⟨Nat.le_of_ble_eq_true rfl, Nat.le_of_ble_eq_true rfl⟩) (WX_D hD) hS hA (fun r32 E33 H locs hw hP hS => ?_)
          obtain ⟨hI, kq34, hw⟩ := hw
          have hKb := hKp
          have hKp := hKp.tr kq34 (wl_sub rfl rfl)
          obtain ⟨y35, ey35⟩ : ∃ y, xi (E33 0) 21 = y := ⟨_, rfl⟩
          have fy35 : xv (E33 0) 21 = .int y35 := (hI.fi 0 (Nat.le_of_ble_eq_true rfl) rfl (Nat.le_of_ble_eq_true rfl) rfl).trans (congrArg Value.int ey35)
          have iy35 : 0 ≤ y35.toInt ∧ y35.toInt ≤ 201 := by rw [← ey35]; exact hI.iv 0 (Nat.le_of_ble_eq_true rfl) rfl (Nat.le_of_ble_eq_true rfl) rfl
          obtain ⟨f36, f37, f38, f39⟩ := hw
          try rw [(show xi (E22 0) 21 = y24 from vi_e fy24)] at f37
          try rw [(show xi (E33 0) 21 = y35 from vi_e fy35)] at f37
          try rw [(show xi (E22 0) 21 = y24 from vi_e fy24)] at f38
          try rw [hKb.ei 0 20 rfl] at f38
          try rw [(show xi (E33 0) 21 = y35 from vi_e fy35)] at f38
          try rw [(show xi (E22 0) 21 = y24 from vi_e fy24)] at f39
          try rw [hKb.ei 0 20 rfl] at f39
          try rw [(show xi (E33 0) 21 = y35 from vi_e fy35)] at f39
          refine lv_bipush (v := 42) hx hb dX13_term_35 (by decide) ?_
          have hJ45 : ∀ (s45_0 : Int32) (H : Heap) (locs : List Loc) (ls : Array Slot), 0 ≤ s45_0.toInt ∧ s45_0.toInt ≤ 1 → va_P (dC, dI) vwCl (WX 72 ad E33) H → va_S A s.heap H locs → lv_has ls 5 [(1, .int v5_1), (0, .ref (ad 0))] → W p l e (headSpec v_term (rm_term n)).room s m args below meth c H locs 0 0 Q (F0 m 45 ls [.int s45_0]) := by
            intro s45_0 H locs ls hs45_0 hP hS hl
            refine lv_istore_n (lv' := [(2, .int s45_0), (1, .int v5_1), (0, .ref (ad 0))]) hx hb dX13_term_45 rfl hl (by decide) rfl (fun ls hl => ?_)
            refine lv_aload_n hx hb dX13_term_46 rfl (lv_at hl 2 rfl) ?_
            refine lv_dup hx hb dX13_term_47 rfl ?_
            refine th_get (ci := 14) (C := RX13) (T := TX13) (N := 97) (v := .int y35) hx hb hts hinX13 hown hK hP hI 0 (Nat.le_of_ble_eq_true rfl) rfl rfl 21 (Nat.le_of_ble_eq_true rfl) (hts _ (vA_in _ _ (in_25 _ (zs16 (zs16 (zs4 (zs0))))))) (fun _ h9 => h9) fy35 dX13_term_48 ?_
            refine lv_iconst (v := 1) hx hb dX13_term_51 (by decide) ?_
            refine lv_iadd hx hb dX13_term_52 ?_
            refine lv_topi (fun y40 ey40 => ?_)
            obtain ⟨ty40, iy40⟩ := ti_add (e := 1) (f := 202) iy35 ln_1 ey40 (by decide)
            have ty40 : y40.toInt = y35.toInt + 1 := ty40
            have iy40 : 1 ≤ y40.toInt ∧ y40.toInt ≤ 202 := iy40
            have i41 : 1 ≤ y40.toInt ∧ y40.toInt ≤ 201 := by omega
            refine th_put (ci := 14) (C := RX13) (T := TX13) (N := 97) (v := .int y40) (ty := .int) hx hb hts hinX13 tyX13 tyX13_ok nmX13 hown hK hP (WX_D hD) hS hI 0 (Nat.le_of_ble_eq_true rfl) rfl rfl 21 (Nat.le_of_ble_eq_true rfl) (hts _ (vA_in _ _ (in_25 _ (zs16 (zs16 (zs4 (zs0))))))) (fun _ h9 => h9) rfl (by decide +kernel) rfl rfl (okI rfl (iv_w i41 (by decide))) dX13_term_53 (fun H locs E42 pw43 hI hP hS => ?_)
            have hKp := hKp.pw pw43 rfl
            refine lv_aload_n hx hb dX13_term_56 rfl (lv_at hl 2 rfl) ?_
            refine th_i (va_runV (As := []) (rest := []) ⟨hx, hb, hml, hown, hts⟩ (gA dC dI cT ad E42 H.size k nl hI (by exact hh0) (by exact hh1) (by exact hh2) (by exact (hKp 0 18 rfl).trans hh3) (by (try rw [hKp.ei 0 19 rfl]); exact hh4) (by (try rw [(show xi (E42 0) 23 = w5_0_23 from vi_e ((pw43.2 0 23 (fun q9 => absurd q9.2 (Nat.ne_of_beq_eq_false rfl))).trans ((kq34 0 23 rfl).trans ((kq23 0 23 rfl).trans hs5_0_23))))]); omega)) (cwV 0 hts (gi_V (in_27 _ (zs1 (zs1 (zs1 (zs0))))) (in_27 _ (zs4 (zs0))) (in_27 _ (zs4 (zs1 (zs0)))) (in_24 _ (zs4 (zs4 (zs4 (zs1 (zs1 (zs1 (zs0)))))))) (in_25 _ (zs16 (zs16 (zs1 (zs1 (zs1 (zs0)))))))) rfl rfl rfl (by decide +kernel) ⟨(show 7 * n + 5 + 1 ≤ 7 * n + 6 from nl_4 (Nat.le_of_ble_eq_true rfl) (Nat.le_of_ble_eq_true rfl)), (show 8 + (4 + 11) + 40 * (7 * n + 5) ≤ 40 * (7 * n + 6) from nl_3 (Nat.le_of_ble_eq_true rfl) (Nat.le_of_ble_eq_true rfl))⟩) ⟨HW_bl, va_recv hK hP (ci := 14) (q0 := 0) rfl (hI.ob 0 (Nat.le_of_ble_eq_true rfl) rfl), (HW_wi hP hK (WX_D hD) hS hA hEV)⟩ rfl rfl hl.1 rfl (lv_room (Nat.le_of_ble_eq_true rfl)) dX13_term_57 ⟨Nat.le_of_ble_eq_true rfl, Nat.le_of_ble_eq_true rfl⟩) (WX_D hD) hS hA (fun r44 E45 H locs hw hP hS => ?_)
            obtain ⟨hI, kq46, hw⟩ := hw
            have hKb := hKp
            have hKp := hKp.tr kq46 (wl_sub rfl rfl)
            obtain ⟨y47, ey47⟩ : ∃ y, xi (E45 0) 21 = y := ⟨_, rfl⟩
            have fy47 : xv (E45 0) 21 = .int y47 := (hI.fi 0 (Nat.le_of_ble_eq_true rfl) rfl (Nat.le_of_ble_eq_true rfl) rfl).trans (congrArg Value.int ey47)
            have iy47 : 0 ≤ y47.toInt ∧ y47.toInt ≤ 201 := by rw [← ey47]; exact hI.iv 0 (Nat.le_of_ble_eq_true rfl) rfl (Nat.le_of_ble_eq_true rfl) rfl
            obtain ⟨y48, ey48⟩ : ∃ y, xi (E45 0) 22 = y := ⟨_, rfl⟩
            have fy48 : xv (E45 0) 22 = .int y48 := (hI.fi 0 (Nat.le_of_ble_eq_true rfl) rfl (Nat.le_of_ble_eq_true rfl) rfl).trans (congrArg Value.int ey48)
            have iy48 : -1 ≤ y48.toInt ∧ y48.toInt ≤ 201 := by rw [← ey48]; exact hI.iv 0 (Nat.le_of_ble_eq_true rfl) rfl (Nat.le_of_ble_eq_true rfl) rfl
            obtain ⟨y49, ey49⟩ : ∃ y, xi (E45 0) 23 = y := ⟨_, rfl⟩
            have fy49 : xv (E45 0) 23 = .int y49 := (hI.fi 0 (Nat.le_of_ble_eq_true rfl) rfl (Nat.le_of_ble_eq_true rfl) rfl).trans (congrArg Value.int ey49)
            have iy49 : 0 ≤ y49.toInt ∧ y49.toInt ≤ 8 := by rw [← ey49]; exact hI.iv 0 (Nat.le_of_ble_eq_true rfl) rfl (Nat.le_of_ble_eq_true rfl) rfl
            obtain ⟨f50, f51, f52, f53⟩ := hw
            try rw [(show xi (E42 0) 21 = y40 from vi_e pw43.1)] at f50
            try rw [(show xi (E45 0) 21 = y47 from vi_e fy47)] at f50
            try rw [(show xi (E42 0) 23 = w5_0_23 from vi_e ((pw43.2 0 23 (fun q9 => absurd q9.2 (Nat.ne_of_beq_eq_false rfl))).trans ((kq34 0 23 rfl).trans ((kq23 0 23 rfl).trans hs5_0_23))))] at f51
            try rw [(show xi (E45 0) 23 = y49 from vi_e fy49)] at f51
            try rw [(show xi (E42 0) 22 = w5_0_22 from vi_e ((pw43.2 0 22 (fun q9 => absurd q9.2 (Nat.ne_of_beq_eq_false rfl))).trans ((kq34 0 22 rfl).trans ((kq23 0 22 rfl).trans hs5_0_22))))] at f52
            try rw [(show xi (E42 0) 23 = w5_0_23 from vi_e ((pw43.2 0 23 (fun q9 => absurd q9.2 (Nat.ne_of_beq_eq_false rfl))).trans ((kq34 0 23 rfl).trans ((kq23 0 23 rfl).trans hs5_0_23))))] at f52
            try rw [(show xi (E45 0) 22 = y48 from vi_e fy48)] at f52
            try rw [(show xi (E45 0) 23 = y49 from vi_e fy49)] at f52
            try rw [(show xi (E42 0) 22 = w5_0_22 from vi_e ((pw43.2 0 22 (fun q9 => absurd q9.2 (Nat.ne_of_beq_eq_false rfl))).trans ((kq34 0 22 rfl).trans ((kq23 0 22 rfl).trans hs5_0_22))))] at f53
            try rw [(show xi (E45 0) 22 = y48 from vi_e fy48)] at f53
            refine lv_i2l hx hb dX13_term_60 rfl ?_
            refine lv_topl (fun y54 ey54 => ?_)
            refine lv_lstore_n (lv' := [(3, .long y54), (2, .int s45_0), (1, .int v5_1), (0, .ref (ad 0))]) hx hb dX13_term_61 rfl hl (by decide) rfl (fun ls hl => ?_)
            refine lv_iload_n hx hb dX13_term_62 rfl (lv_at hl 1 rfl) ?_
            have hJ87 : ∀ (s87_0 : Int64) (H : Heap) (locs : List Loc) (ls : Array Slot), va_P (dC, dI) vwCl (WX 72 ad E45) H → va_S A s.heap H locs → lv_has ls 5 [(3, .long y54), (2, .int s45_0), (1, .int v5_1), (0, .ref (ad 0))] → W p l e (headSpec v_term (rm_term n)).room s m args below meth c H locs 0 0 Q (F0 m 87 ls [.long s87_0]) := by
              intro s87_0 H locs ls hP hS hl
              refine th_pi (va_runS (As := [.long s87_0]) (rest := []) ⟨hx, hb, hml, hown, hts⟩ (q_bound l s87_0) (va_cwS 1 hts (gi_S (in_26 _ (zs16 (zs4 (zs4 (zs4 (zs1 (zs1 (zs1 (zs0))))))))) (in_26 _ (zs16 (zs16 (zs0)))) (in_24 _ (zs4 (zs4 (zs4 (zs1 (zs1 (zs1 (zs0)))))))) (in_26 _ (zs16 (zs16 (zs1 (zs0)))))) rfl rfl rfl hz_yX13_bound_1 ⟨(show 1 + 1 ≤ 7 * n + 6 from nl_1 (Nat.le_of_ble_eq_true rfl)), (show 8 + (2 + 11) + 40 * (1) ≤ 40 * (7 * n + 6) from nl_2 (Nat.le_of_ble_eq_true rfl))⟩) ⟨fun _ _ _ _ q => q, fun _ _ _ => ⟨rfl, trivial⟩⟩ rfl rfl hl.1 rfl (lv_room (Nat.le_of_ble_eq_true rfl)) dX13_term_87 ⟨Nat.le_of_ble_eq_true rfl, Nat.le_of_ble_eq_true rfl⟩) hS (fun r55 H1 locs1 hw hk1 hS => ?_)
              have hP := ub_keep hP hk1
              generalize H1 = H at hP hS ⊢
              generalize locs1 = locs at hS ⊢
              refine lv_istore_n (lv' := [(1, .int r55), (3, .long y54), (2, .int s45_0), (0, .ref (ad 0))]) hx hb dX13_term_90 rfl hl (by decide) rfl (fun ls hl => ?_)
              refine lv_goto (tgt := 5) hx hb dX13_term_91 (by decide) ?_
              exact ih5 y47 y48 y49 r55 E45 _ _ _ iy47 iy48 iy49 (by  first | exact (Int.le_trans (Int.le_trans (Int.le_trans (Int.le_trans hx5_0 f26) f37) (Int.le_trans (Int.le_add_of_nonneg_right (by decide)) (Int.le_of_eq ty40.symm))) f50) | omega) (by  first | exact (Int.le_trans hx5_1 f51) | omega) (by  first | exact fun q9 => ((f52 (q9)).trans (hx5_2 (f53 (q9)))) | omega) (by  first | exact fun q9 => hx5_3 (f53 (q9)) | omega) (by omega) hI hKp fy47 fy48 fy49 hP hS (lv_sub hl [0, 3] rfl)
            refine lv_if_eq (tgt := 73) hx hb dX13_term_63 (by decide) (fun c56 => ?_) (fun c56 => ?_)
            · --63 taken
              have t57 : s45_0.toInt = 0 := ti_eq c56
              have i58 : 0 ≤ s45_0.toInt ∧ s45_0.toInt ≤ 0 := iv_eqi t57 hs45_0 (il_ 0) (by decide)
              refine lv_lload_n hx hb dX13_term_73 rfl (lv_at hl 0 rfl) ?_
              refine lv_lconst hx hb dX13_term_74 rfl ?_
              refine lv_topl (fun y59 ey59 => ?_)
              refine W.lcmp hx hb dX13_term_75 ?_
              refine lv_topi (fun y60 ey60 => ?_)
              refine lv_if_ne (tgt := 83) hx hb dX13_term_76 (by decide) (fun c61 => ?_) (fun c61 => ?_)
              · --76 taken
                have t62 : ¬ y60.toInt = 0 := ti_ne c61
                refine lv_iload_n hx hb dX13_term_83 rfl (lv_at hl 2 rfl) ?_
                refine lv_i2l hx hb dX13_term_84 rfl ?_
                refine lv_topl (fun y63 ey63 => ?_)
                refine lv_lload_n hx hb dX13_term_85 rfl (lv_at hl 0 rfl) ?_
                refine lv_ldiv hx hb dX13_term_86 (lcmp_n0 ey60 ey59 c61) ?_
                refine lv_topl (fun y64 ey64 => ?_)
                exact hJ87 y64 _ _ _ hP hS (lv_sub hl [0, 1, 2, 3] rfl)
              · --76 not
                have t65 : y60.toInt = 0 := ti_eq c61
                have i66 : 0 ≤ y60.toInt ∧ y60.toInt ≤ 0 := iv_eqi t65 (iv_all _) (il_ 0) (by decide)
                refine lv_lconst hx hb dX13_term_79 rfl ?_
                refine lv_topl (fun y67 ey67 => ?_)
                refine lv_goto (tgt := 87) hx hb dX13_term_80 (by decide) ?_
                exact hJ87 y67 _ _ _ hP hS (lv_sub hl [0, 1, 2, 3] rfl)
            · --63 not
              have t68 : ¬ s45_0.toInt = 0 := ti_ne c56
              have i69 : 1 ≤ s45_0.toInt ∧ s45_0.toInt ≤ 1 := iv_ne_l t68 hs45_0 (il_ 0)
              refine lv_iload_n hx hb dX13_term_66 rfl (lv_at hl 2 rfl) ?_
              refine lv_i2l hx hb dX13_term_67 rfl ?_
              refine lv_topl (fun y70 ey70 => ?_)
              refine lv_lload_n hx hb dX13_term_68 rfl (lv_at hl 0 rfl) ?_
              refine lv_lmul hx hb dX13_term_69 ?_
              refine lv_topl (fun y71 ey71 => ?_)
              refine lv_goto (tgt := 87) hx hb dX13_term_70 (by decide) ?_
              exact hJ87 y71 _ _ _ hP hS (lv_sub hl [0, 1, 2, 3] rfl)
          refine lv_icmp_ne (tgt := 44) hx hb dX13_term_37 (by decide) (fun c72 => ?_) (fun c72 => ?_)
          · --37 taken
            have t73 : ¬ r32.toInt = 42 := ti_ne c72
            refine lv_iconst (v := 0) hx hb dX13_term_44 (by decide) ?_
            exact hJ45 (0 : Int32) _ _ _ (iv_w ln_0 (by decide)) hP hS (lv_sub hl [0, 1] rfl)
          · --37 not
            have t74 : r32.toInt = 42 := ti_eq c72
            have i75 : 42 ≤ r32.toInt ∧ r32.toInt ≤ 42 := iv_eqi t74 f36 (il_ 42) (by decide)
            refine lv_iconst (v := 1) hx hb dX13_term_40 (by decide) ?_
            refine lv_goto (tgt := 45) hx hb dX13_term_41 (by decide) ?_
            exact hJ45 (1 : Int32) _ _ _ (iv_w ln_1 (by decide)) hP hS (lv_sub hl [0, 1] rfl)
        · --19 not
          have t76 : ¬ r21.toInt = 42 := ti_ne c29
          refine lv_aload_n hx hb dX13_term_22 rfl (lv_at hl 1 rfl) ?_
          refine th_i (va_runV (As := []) (rest := []) ⟨hx, hb, hml, hown, hts⟩ (q_look l dC dI cT ad E22 H.size k nl hI (by exact hh0) (by exact hh1) (by exact hh2) (by exact (hKp 0 18 rfl).trans hh3) (by (try rw [hKp.ei 0 19 rfl]); exact hh4)) (cwV 0 hts (gi_V (in_26 _ (zs1 (zs1 (zs0)))) (in_26 _ (zs1 (zs1 (zs1 (zs0))))) (in_26 _ (zs4 (zs0))) (in_24 _ (zs4 (zs4 (zs4 (zs1 (zs1 (zs1 (zs0)))))))) (in_26 _ (zs4 (zs1 (zs0))))) rfl rfl rfl ⟨rfl, hz_yX13_look_0⟩ ⟨(show 0 + 1 ≤ 7 * n + 6 from nl_1 (Nat.le_of_ble_eq_true rfl)), (show 8 + (1 + 11) + 40 * (0) ≤ 40 * (7 * n + 6) from nl_2 (Nat.le_of_ble_eq_true rfl))⟩) ⟨HW_bl, va_recv hK hP (ci := 14) (q0 := 0) rfl (hI.ob 0 (Nat.le_of_ble_eq_true rfl) rfl), (HW_wi hP hK (WX_D hD) hS hA hEV)⟩ rfl rfl hl.1 rfl (lv_room (Nat.le_of_ble_eq_true rfl)) dX13_term_23 ⟨Nat.le_of_ble_eq_true rfl, Nat.le_of_ble_eq_true rfl⟩) (WX_D hD) hS hA (fun r77 E78 H locs hw hP hS => ?_)
          obtain ⟨hI, kq79, hw⟩ := hw
          have hKb := hKp
          have hKp := hKp.tr kq79 (wl_sub rfl rfl)
          obtain ⟨y80, ey80⟩ : ∃ y, xi (E78 0) 21 = y := ⟨_, rfl⟩
          have fy80 : xv (E78 0) 21 = .int y80 := (hI.fi 0 (Nat.le_of_ble_eq_true rfl) rfl (Nat.le_of_ble_eq_true rfl) rfl).trans (congrArg Value.int ey80)
          have iy80 : 0 ≤ y80.toInt ∧ y80.toInt ≤ 201 := by rw [← ey80]; exact hI.iv 0 (Nat.le_of_ble_eq_true rfl) rfl (Nat.le_of_ble_eq_true rfl) rfl
          obtain ⟨f81, f82, f83, f84⟩ := hw
          try rw [(show xi (E22 0) 21 = y24 from vi_e fy24)] at f82
          try rw [(show xi (E78 0) 21 = y80 from vi_e fy80)] at f82
          try rw [(show xi (E22 0) 21 = y24 from vi_e fy24)] at f83
          try rw [hKb.ei 0 20 rfl] at f83
          try rw [(show xi (E78 0) 21 = y80 from vi_e fy80)] at f83
          try rw [(show xi (E22 0) 21 = y24 from vi_e fy24)] at f84
          try rw [hKb.ei 0 20 rfl] at f84
          try rw [(show xi (E78 0) 21 = y80 from vi_e fy80)] at f84
          refine lv_bipush (v := 47) hx hb dX13_term_26 (by decide) ?_
          refine lv_icmp_ne (tgt := 94) hx hb dX13_term_28 (by decide) (fun c85 => ?_) (fun c85 => ?_)
          · --28 taken
            have t86 : ¬ r77.toInt = 47 := ti_ne c85
            refine lv_iload_n hx hb dX13_term_94 rfl (lv_at hl 0 rfl) ?_
            rw [hQ]
            exact W.iret (v := v5_1) hx hb hr (fun t ht hW => ⟨⟨v5_1, E78, rfl, ⟨hI, hKp, ⟨by (try rw [(show xi (E78 0) 21 = y80 from vi_e fy80)]); (try rw [ey1]); first | done | exact (Int.le_trans (Int.le_trans hx5_0 f26) f82) | all_goals omega, by (try rw [(show xi (E78 0) 23 = w5_0_23 from vi_e ((kq79 0 23 rfl).trans ((kq23 0 23 rfl).trans hs5_0_23)))]); (try rw [ey3]); first | done | exact hx5_1 | all_goals omega, by (try rw [(show xi (E78 0) 22 = w5_0_22 from vi_e ((kq79 0 22 rfl).trans ((kq23 0 22 rfl).trans hs5_0_22)))]); (try rw [(show xi (E78 0) 23 = w5_0_23 from vi_e ((kq79 0 23 rfl).trans ((kq23 0 23 rfl).trans hs5_0_23)))]); (try rw [ey2]); (try rw [ey3]); first | done | exact fun q9 => (hx5_2 (q9)) | all_goals omega, by (try rw [(show xi (E78 0) 22 = w5_0_22 from vi_e ((kq79 0 22 rfl).trans ((kq23 0 22 rfl).trans hs5_0_22)))]); (try rw [ey2]); first | done | exact fun q9 => hx5_3 (q9) | all_goals omega⟩⟩, by show va_P (dC, dI) vwCl (WX 72 ad E78) t.heap; rw [ht]; exact hP⟩, hS.F ht⟩) hS.2.2 dX13_term_95
          · --28 not
            have t87 : r77.toInt = 47 := ti_eq c85
            have i88 : 47 ≤ r77.toInt ∧ r77.toInt ≤ 47 := iv_eqi t87 f81 (il_ 47) (by decide)
            refine lv_aload_n hx hb dX13_term_31 rfl (lv_at hl 1 rfl) ?_
            refine th_i (va_runV (As := []) (rest := []) ⟨hx, hb, hml, hown, hts⟩ (q_look l dC dI cT ad E78 H.size k nl hI (by exact hh0) (by exact hh1) (by exact hh2) (by exact (hKp 0 18 rfl).trans hh3) (by (try rw [hKp.ei 0 19 rfl]); exact hh4)) (cwV 0 hts (gi_V (in_26 _ (zs1 (zs1 (zs0)))) (in_26 _ (zs1 (zs1 (zs1 (zs0))))) (in_26 _ (zs4 (zs0))) (in_24 _ (zs4 (zs4 (zs4 (zs1 (zs1 (zs1 (zs0)))))))) (in_26 _ (zs4 (zs1 (zs0))))) rfl rfl rfl ⟨rfl, hz_yX13_look_0⟩ ⟨(show 0 + 1 ≤ 7 * n + 6 from nl_1 (Nat.le_of_ble_eq_true rfl)), (show 8 + (1 + 11) + 40 * (0) ≤ 40 * (7 * n + 6) from nl_2 (Nat.le_of_ble_eq_true rfl))⟩) ⟨HW_bl, va_recv hK hP (ci := 14) (q0 := 0) rfl (hI.ob 0 (Nat.le_of_ble_eq_true rfl) rfl), (HW_wi hP hK (WX_D hD) hS hA hEV)⟩ rfl rfl hl.1 rfl (lv_room (Nat.le_of_ble_eq_true rfl)) dX13_term_32 ⟨Nat.le_of_ble_eq_true rfl, Nat.le_of_ble_eq_true rfl⟩) (WX_D hD) hS hA (fun r89 E90 H locs hw hP hS => ?_)
            obtain ⟨hI, kq91, hw⟩ := hw
            have hKb := hKp
            have hKp := hKp.tr kq91 (wl_sub rfl rfl)
            obtain ⟨y92, ey92⟩ : ∃ y, xi (E90 0) 21 = y := ⟨_, rfl⟩
            have fy92 : xv (E90 0) 21 = .int y92 := (hI.fi 0 (Nat.le_of_ble_eq_true rfl) rfl (Nat.le_of_ble_eq_true rfl) rfl).trans (congrArg Value.int ey92)
            have iy92 : 0 ≤ y92.toInt ∧ y92.toInt ≤ 201 := by rw [← ey92]; exact hI.iv 0 (Nat.le_of_ble_eq_true rfl) rfl (Nat.le_of_ble_eq_true rfl) rfl
            obtain ⟨f93, f94, f95, f96⟩ := hw
            try rw [(show xi (E78 0) 21 = y80 from vi_e fy80)] at f94
            try rw [(show xi (E90 0) 21 = y92 from vi_e fy92)] at f94
            try rw [(show xi (E78 0) 21 = y80 from vi_e fy80)] at f95
            try rw [hKb.ei 0 20 rfl] at f95
            try rw [(show xi (E90 0) 21 = y92 from vi_e fy92)] at f95
            try rw [(show xi (E78 0) 21 = y80 from vi_e fy80)] at f96
            try rw [hKb.ei 0 20 rfl] at f96
            try rw [(show xi (E90 0) 21 = y92 from vi_e fy92)] at f96
            refine lv_bipush (v := 42) hx hb dX13_term_35 (by decide) ?_
            have hJ45 : ∀ (s45_0 : Int32) (H : Heap) (locs : List Loc) (ls : Array Slot), 0 ≤ s45_0.toInt ∧ s45_0.toInt ≤ 1 → va_P (dC, dI) vwCl (WX 72 ad E90) H → va_S A s.heap H locs → lv_has ls 5 [(1, .int v5_1), (0, .ref (ad 0))] → W p l e (headSpec v_term (rm_term n)).room s m args below meth c H locs 0 0 Q (F0 m 45 ls [.int s45_0]) := by
              intro s45_0 H locs ls hs45_0 hP hS hl
              refine lv_istore_n (lv' := [(2, .int s45_0), (1, .int v5_1), (0, .ref (ad 0))]) hx hb dX13_term_45 rfl hl (by decide) rfl (fun ls hl => ?_)
              refine lv_aload_n hx hb dX13_term_46 rfl (lv_at hl 2 rfl) ?_
              refine lv_dup hx hb dX13_term_47 rfl ?_
              refine th_get (ci := 14) (C := RX13) (T := TX13) (N := 97) (v := .int y92) hx hb hts hinX13 hown hK hP hI 0 (Nat.le_of_ble_eq_true rfl) rfl rfl 21 (Nat.le_of_ble_eq_true rfl) (hts _ (vA_in _ _ (in_25 _ (zs16 (zs16 (zs4 (zs0))))))) (fun _ h9 => h9) fy92 dX13_term_48 ?_
              refine lv_iconst (v := 1) hx hb dX13_term_51 (by decide) ?_
              refine lv_iadd hx hb dX13_term_52 ?_
              refine lv_topi (fun y97 ey97 => ?_)
              obtain ⟨ty97, iy97⟩ := ti_add (e := 1) (f := 202) iy92 ln_1 ey97 (by decide)
              have ty97 : y97.toInt = y92.toInt + 1 := ty97
              have iy97 : 1 ≤ y97.toInt ∧ y97.toInt ≤ 202 := iy97
              have i98 : 1 ≤ y97.toInt ∧ y97.toInt ≤ 201 := by omega
              refine th_put (ci := 14) (C := RX13) (T := TX13) (N := 97) (v := .int y97) (ty := .int) hx hb hts hinX13 tyX13 tyX13_ok nmX13 hown hK hP (WX_D hD) hS hI 0 (Nat.le_of_ble_eq_true rfl) rfl rfl 21 (Nat.le_of_ble_eq_true rfl) (hts _ (vA_in _ _ (in_25 _ (zs16 (zs16 (zs4 (zs0))))))) (fun _ h9 => h9) rfl (by decide +kernel) rfl rfl (okI rfl (iv_w i98 (by decide))) dX13_term_53 (fun H locs E99 pw100 hI hP hS => ?_)
              have hKp := hKp.pw pw100 rfl
              refine lv_aload_n hx hb dX13_term_56 rfl (lv_at hl 2 rfl) ?_
              refine th_i (va_runV (As := []) (rest := []) ⟨hx, hb, hml, hown, hts⟩ (gA dC dI cT ad E99 H.size k nl hI (by exact hh0) (by exact hh1) (by exact hh2) (by exact (hKp 0 18 rfl).trans hh3) (by (try rw [hKp.ei 0 19 rfl]); exact hh4) (by (try rw [(show xi (E99 0) 23 = w5_0_23 from vi_e ((pw100.2 0 23 (fun q9 => absurd q9.2 (Nat.ne_of_beq_eq_false rfl))).trans ((kq91 0 23 rfl).trans ((kq79 0 23 rfl).trans ((kq23 0 23 rfl).trans hs5_0_23)))))]); omega)) (cwV 0 hts (gi_V (in_27 _ (zs1 (zs1 (zs1 (zs0))))) (in_27 _ (zs4 (zs0))) (in_27 _ (zs4 (zs1 (zs0)))) (in_24 _ (zs4 (zs4 (zs4 (zs1 (zs1 (zs1 (zs0)))))))) (in_25 _ (zs16 (zs16 (zs1 (zs1 (zs1 (zs0)))))))) rfl rfl rfl (by decide +kernel) ⟨(show 7 * n + 5 + 1 ≤ 7 * n + 6 from nl_4 (Nat.le_of_ble_eq_true rfl) (Nat.le_of_ble_eq_true rfl)), (show 8 + (4 + 11) + 40 * (7 * n + 5) ≤ 40 * (7 * n + 6) from nl_3 (Nat.le_of_ble_eq_true rfl) (Nat.le_of_ble_eq_true rfl))⟩) ⟨HW_bl, va_recv hK hP (ci := 14) (q0 := 0) rfl (hI.ob 0 (Nat.le_of_ble_eq_true rfl) rfl), (HW_wi hP hK (WX_D hD) hS hA hEV)⟩ rfl rfl hl.1 rfl (lv_room (Nat.le_of_ble_eq_true rfl)) dX13_term_57 ⟨Nat.le_of_ble_eq_true rfl, Nat.le_of_ble_eq_true rfl⟩) (WX_D hD) hS hA (fun r101 E102 H locs hw hP hS => ?_)
              obtain ⟨hI, kq103, hw⟩ := hw
              have hKb := hKp
              have hKp := hKp.tr kq103 (wl_sub rfl rfl)
              obtain ⟨y104, ey104⟩ : ∃ y, xi (E102 0) 21 = y := ⟨_, rfl⟩
              have fy104 : xv (E102 0) 21 = .int y104 := (hI.fi 0 (Nat.le_of_ble_eq_true rfl) rfl (Nat.le_of_ble_eq_true rfl) rfl).trans (congrArg Value.int ey104)
              have iy104 : 0 ≤ y104.toInt ∧ y104.toInt ≤ 201 := by rw [← ey104]; exact hI.iv 0 (Nat.le_of_ble_eq_true rfl) rfl (Nat.le_of_ble_eq_true rfl) rfl
              obtain ⟨y105, ey105⟩ : ∃ y, xi (E102 0) 22 = y := ⟨_, rfl⟩
              have fy105 : xv (E102 0) 22 = .int y105 := (hI.fi 0 (Nat.le_of_ble_eq_true rfl) rfl (Nat.le_of_ble_eq_true rfl) rfl).trans (congrArg Value.int ey105)
              have iy105 : -1 ≤ y105.toInt ∧ y105.toInt ≤ 201 := by rw [← ey105]; exact hI.iv 0 (Nat.le_of_ble_eq_true rfl) rfl (Nat.le_of_ble_eq_true rfl) rfl
              obtain ⟨y106, ey106⟩ : ∃ y, xi (E102 0) 23 = y := ⟨_, rfl⟩
              have fy106 : xv (E102 0) 23 = .int y106 := (hI.fi 0 (Nat.le_of_ble_eq_true rfl) rfl (Nat.le_of_ble_eq_true rfl) rfl).trans (congrArg Value.int ey106)
              have iy106 : 0 ≤ y106.toInt ∧ y106.toInt ≤ 8 := by rw [← ey106]; exact hI.iv 0 (Nat.le_of_ble_eq_true rfl) rfl (Nat.le_of_ble_eq_true rfl) rfl
              obtain ⟨f107, f108, f109, f110⟩ := hw
              try rw [(show xi (E99 0) 21 = y97 from vi_e pw100.1)] at f107
              try rw [(show xi (E102 0) 21 = y104 from vi_e fy104)] at f107
              try rw [(show xi (E99 0) 23 = w5_0_23 from vi_e ((pw100.2 0 23 (fun q9 => absurd q9.2 (Nat.ne_of_beq_eq_false rfl))).trans ((kq91 0 23 rfl).trans ((kq79 0 23 rfl).trans ((kq23 0 23 rfl).trans hs5_0_23)))))] at f108
              try rw [(show xi (E102 0) 23 = y106 from vi_e fy106)] at f108
              try rw [(show xi (E99 0) 22 = w5_0_22 from vi_e ((pw100.2 0 22 (fun q9 => absurd q9.2 (Nat.ne_of_beq_eq_false rfl))).trans ((kq91 0 22 rfl).trans ((kq79 0 22 rfl).trans ((kq23 0 22 rfl).trans hs5_0_22)))))] at f109
              try rw [(show xi (E99 0) 23 = w5_0_23 from vi_e ((pw100.2 0 23 (fun q9 => absurd q9.2 (Nat.ne_of_beq_eq_false rfl))).trans ((kq91 0 23 rfl).trans ((kq79 0 23 rfl).trans ((kq23 0 23 rfl).trans hs5_0_23)))))] at f109
              try rw [(show xi (E102 0) 22 = y105 from vi_e fy105)] at f109
              try rw [(show xi (E102 0) 23 = y106 from vi_e fy106)] at f109
              try rw [(show xi (E99 0) 22 = w5_0_22 from vi_e ((pw100.2 0 22 (fun q9 => absurd q9.2 (Nat.ne_of_beq_eq_false rfl))).trans ((kq91 0 22 rfl).trans ((kq79 0 22 rfl).trans ((kq23 0 22 rfl).trans hs5_0_22)))))] at f110
              try rw [(show xi (E102 0) 22 = y105 from vi_e fy105)] at f110
              refine lv_i2l hx hb dX13_term_60 rfl ?_
              refine lv_topl (fun y111 ey111 => ?_)
              refine lv_lstore_n (lv' := [(3, .long y111), (2, .int s45_0), (1, .int v5_1), (0, .ref (ad 0))]) hx hb dX13_term_61 rfl hl (by decide) rfl (fun ls hl => ?_)
              refine lv_iload_n hx hb dX13_term_62 rfl (lv_at hl 1 rfl) ?_
              have hJ87 : ∀ (s87_0 : Int64) (H : Heap) (locs : List Loc) (ls : Array Slot), va_P (dC, dI) vwCl (WX 72 ad E102) H → va_S A s.heap H locs → lv_has ls 5 [(3, .long y111), (2, .int s45_0), (1, .int v5_1), (0, .ref (ad 0))] → W p l e (headSpec v_term (rm_term n)).room s m args below meth c H locs 0 0 Q (F0 m 87 ls [.long s87_0]) := by
                intro s87_0 H locs ls hP hS hl
                refine th_pi (va_runS (As := [.long s87_0]) (rest := []) ⟨hx, hb, hml, hown, hts⟩ (q_bound l s87_0) (va_cwS 1 hts (gi_S (in_26 _ (zs16 (zs4 (zs4 (zs4 (zs1 (zs1 (zs1 (zs0))))))))) (in_26 _ (zs16 (zs16 (zs0)))) (in_24 _ (zs4 (zs4 (zs4 (zs1 (zs1 (zs1 (zs0)))))))) (in_26 _ (zs16 (zs16 (zs1 (zs0)))))) rfl rfl rfl hz_yX13_bound_1 ⟨(show 1 + 1 ≤ 7 * n + 6 from nl_1 (Nat.le_of_ble_eq_true rfl)), (show 8 + (2 + 11) + 40 * (1) ≤ 40 * (7 * n + 6) from nl_2 (Nat.le_of_ble_eq_true rfl))⟩) ⟨fun _ _ _ _ q => q, fun _ _ _ => ⟨rfl, trivial⟩⟩ rfl rfl hl.1 rfl (lv_room (Nat.le_of_ble_eq_true rfl)) dX13_term_87 ⟨Nat.le_of_ble_eq_true rfl, Nat.le_of_ble_eq_true rfl⟩) hS (fun r112 H1 locs1 hw hk1 hS => ?_)
                have hP := ub_keep hP hk1
                generalize H1 = H at hP hS ⊢
                generalize locs1 = locs at hS ⊢
                refine lv_istore_n (lv' := [(1, .int r112), (3, .long y111), (2, .int s45_0), (0, .ref (ad 0))]) hx hb dX13_term_90 rfl hl (by decide) rfl (fun ls hl => ?_)
                refine lv_goto (tgt := 5) hx hb dX13_term_91 (by decide) ?_
                exact ih5 y104 y105 y106 r112 E102 _ _ _ iy104 iy105 iy106 (by  first | exact (Int.le_trans (Int.le_trans (Int.le_trans (Int.le_trans (Int.le_trans hx5_0 f26) f82) f94) (Int.le_trans (Int.le_add_of_nonneg_right (by decide)) (Int.le_of_eq ty97.symm))) f107) | omega) (by  first | exact (Int.le_trans hx5_1 f108) | omega) (by  first | exact fun q9 => ((f109 (q9)).trans (hx5_2 (f110 (q9)))) | omega) (by  first | exact fun q9 => hx5_3 (f110 (q9)) | omega) (by omega) hI hKp fy104 fy105 fy106 hP hS (lv_sub hl [0, 3] rfl)
              refine lv_if_eq (tgt := 73) hx hb dX13_term_63 (by decide) (fun c113 => ?_) (fun c113 => ?_)
              · --63 taken
                have t114 : s45_0.toInt = 0 := ti_eq c113
                have i115 : 0 ≤ s45_0.toInt ∧ s45_0.toInt ≤ 0 := iv_eqi t114 hs45_0 (il_ 0) (by decide)
                refine lv_lload_n hx hb dX13_term_73 rfl (lv_at hl 0 rfl) ?_
                refine lv_lconst hx hb dX13_term_74 rfl ?_
                refine lv_topl (fun y116 ey116 => ?_)
                refine W.lcmp hx hb dX13_term_75 ?_
                refine lv_topi (fun y117 ey117 => ?_)
                refine lv_if_ne (tgt := 83) hx hb dX13_term_76 (by decide) (fun c118 => ?_) (fun c118 => ?_)
                · --76 taken
                  have t119 : ¬ y117.toInt = 0 := ti_ne c118
                  refine lv_iload_n hx hb dX13_term_83 rfl (lv_at hl 2 rfl) ?_
                  refine lv_i2l hx hb dX13_term_84 rfl ?_
                  refine lv_topl (fun y120 ey120 => ?_)
                  refine lv_lload_n hx hb dX13_term_85 rfl (lv_at hl 0 rfl) ?_
                  refine lv_ldiv hx hb dX13_term_86 (lcmp_n0 ey117 ey116 c118) ?_
                  refine lv_topl (fun y121 ey121 => ?_)
                  exact hJ87 y121 _ _ _ hP hS (lv_sub hl [0, 1, 2, 3] rfl)
                · --76 not
                  have t122 : y117.toInt = 0 := ti_eq c118
                  have i123 : 0 ≤ y117.toInt ∧ y117.toInt ≤ 0 := iv_eqi t122 (iv_all _) (il_ 0) (by decide)
                  refine lv_lconst hx hb dX13_term_79 rfl ?_
                  refine lv_topl (fun y124 ey124 => ?_)
                  refine lv_goto (tgt := 87) hx hb dX13_term_80 (by decide) ?_
                  exact hJ87 y124 _ _ _ hP hS (lv_sub hl [0, 1, 2, 3] rfl)
              · --63 not
                have t125 : ¬ s45_0.toInt = 0 := ti_ne c113
                have i126 : 1 ≤ s45_0.toInt ∧ s45_0.toInt ≤ 1 := iv_ne_l t125 hs45_0 (il_ 0)
                refine lv_iload_n hx hb dX13_term_66 rfl (lv_at hl 2 rfl) ?_
                refine lv_i2l hx hb dX13_term_67 rfl ?_
                refine lv_topl (fun y127 ey127 => ?_)
                refine lv_lload_n hx hb dX13_term_68 rfl (lv_at hl 0 rfl) ?_
                refine lv_lmul hx hb dX13_term_69 ?_
                refine lv_topl (fun y128 ey128 => ?_)
                refine lv_goto (tgt := 87) hx hb dX13_term_70 (by decide) ?_
                exact hJ87 y128 _ _ _ hP hS (lv_sub hl [0, 1, 2, 3] rfl)
            refine lv_icmp_ne (tgt := 44) hx hb dX13_term_37 (by decide) (fun c129 => ?_) (fun c129 => ?_)
            · --37 taken
              have t130 : ¬ r89.toInt = 42 := ti_ne c129
              refine lv_iconst (v := 0) hx hb dX13_term_44 (by decide) ?_
              exact hJ45 (0 : Int32) _ _ _ (iv_w ln_0 (by decide)) hP hS (lv_sub hl [0, 1] rfl)
            · --37 not
              have t131 : r89.toInt = 42 := ti_eq c129
              have i132 : 42 ≤ r89.toInt ∧ r89.toInt ≤ 42 := iv_eqi t131 f93 (il_ 42) (by decide)
              refine lv_iconst (v := 1) hx hb dX13_term_40 (by decide) ?_
              refine lv_goto (tgt := 45) hx hb dX13_term_41 (by decide) ?_
              exact hJ45 (1 : Int32) _ _ _ (iv_w ln_1 (by decide)) hP hS (lv_sub hl [0, 1] rfl)
  exact hL5 (202) y7 y8 y9 r4 E5 _ _ _ iy7 iy8 iy9 (by  first | exact f10 | omega) (by  first | exact f11 | omega) (by  first | exact fun q9 => (f12 (q9)) | omega) (by  first | exact fun q9 => f13 (q9) | omega) (by have h9 := iy7; omega) hI hKp fy7 fy8 fy9 hP hS (lv_sub hl [0, 1] rfl)
set_option maxHeartbeats 4000000 in
set_option maxRecDepth 100000 in
theorem q_sum (l : Launch) (n : Nat) (gT : C_term l n) : C_sum l n := by
  intro dC dI cT ad E sz k nl hI0 hh0 hh1 hh2 hh3 hh4 hh5
  refine Met.ofW (cc := cX13_sum) (maxL := 5) (ret := (some .int)) (by decide) rfl ?_
  intro p e s m args below meth c s₁ B hml hv
  obtain ⟨hargs, hsz, hP, hK, hD0, hEV⟩ := hv
  subst hsz
  have hx := B.exec
  have hb := B.bytes
  have hr := B.returns
  have hts := atoms_spec (ws := v_sum) B.pre
  have hown : s.vm.findClass RX13 = some m.cls := findClass_of_methodNamed B.named
  have hlocks := B.notSynchronized
  have hinX13 : ∀ w ∈ u_ws RX13 TX13 97, w ∈ v_sum := fun w h => vA_in _ w (in_X13 w h)
  generalize hAe : va_A (WX 72 ad E) s.heap.size = A at hEV ⊢
  have hA : ∀ q : Nat, s.heap.size ≤ q → A q := fun q h => by rw [← hAe]; exact Or.inr h
  have hD : va_D A (WX 72 ad E) := by rw [← hAe]; exact hD0.self
  have hS : va_S A s.heap s.heap [] := va_S.rf
  have hI := hI0
  have hKp : Kp w_sum E E := Kp.rf
  have hl := lv_entry ([.ref (ad 0)]) (n := 5) (Nat.le_of_ble_eq_true rfl)
  obtain ⟨Q, hQ⟩ : ∃ Q, Q = MQ below (va_Qi (S := Nat → va_E) (fun r u => IX cT shM spM 72 ad u ∧ Kp w_sum E u ∧ (((xi (E 0) 21).toInt ≤ (xi (u 0) 21).toInt) ∧ ((xi (E 0) 23).toInt ≤ (xi (u 0) 23).toInt) ∧ ((xi (u 0) 22).toInt = -1 → (xi (u 0) 23).toInt = (xi (E 0) 23).toInt) ∧ ((xi (u 0) 22).toInt = -1 → (xi (E 0) 22).toInt = -1))) (HB dC dI 72 ad) (A)) args s 0 0 (A) := ⟨_, rfl⟩
  rw [← hQ, show entryFrame m args 5 = _ from (congrArg (fun z => entryFrame m z 5) hargs).trans (lg_entry_eq _ _ _)]
  generalize (lg_sl ([.ref (ad 0)]) ++ List.replicate (5 - (lg_sl ([.ref (ad 0)])).length) Slot.unset).toArray = ls at hl ⊢
  have hl : lv_has ls 5 [(0, .ref (ad 0))] := hl
  obtain ⟨y1, ey1⟩ : ∃ y, xi (E 0) 21 = y := ⟨_, rfl⟩
  have fy1 : xv (E 0) 21 = .int y1 := (hI.fi 0 (Nat.le_of_ble_eq_true rfl) rfl (Nat.le_of_ble_eq_true rfl) rfl).trans (congrArg Value.int ey1)
  have iy1 : 0 ≤ y1.toInt ∧ y1.toInt ≤ 201 := by rw [← ey1]; exact hI.iv 0 (Nat.le_of_ble_eq_true rfl) rfl (Nat.le_of_ble_eq_true rfl) rfl
  obtain ⟨y2, ey2⟩ : ∃ y, xi (E 0) 22 = y := ⟨_, rfl⟩
  have fy2 : xv (E 0) 22 = .int y2 := (hI.fi 0 (Nat.le_of_ble_eq_true rfl) rfl (Nat.le_of_ble_eq_true rfl) rfl).trans (congrArg Value.int ey2)
  have iy2 : -1 ≤ y2.toInt ∧ y2.toInt ≤ 201 := by rw [← ey2]; exact hI.iv 0 (Nat.le_of_ble_eq_true rfl) rfl (Nat.le_of_ble_eq_true rfl) rfl
  obtain ⟨y3, ey3⟩ : ∃ y, xi (E 0) 23 = y := ⟨_, rfl⟩
  have fy3 : xv (E 0) 23 = .int y3 := (hI.fi 0 (Nat.le_of_ble_eq_true rfl) rfl (Nat.le_of_ble_eq_true rfl) rfl).trans (congrArg Value.int ey3)
  have iy3 : 0 ≤ y3.toInt ∧ y3.toInt ≤ 8 := by rw [← ey3]; exact hI.iv 0 (Nat.le_of_ble_eq_true rfl) rfl (Nat.le_of_ble_eq_true rfl) rfl
  rw [ey3] at hh5
  refine lv_aload_n hx hb dX13_sum_0 rfl (lv_at hl 0 rfl) ?_
  refine th_i (va_runV (As := []) (rest := []) ⟨hx, hb, hml, hown, hts⟩ (gT dC dI cT ad E s.heap.size k nl hI (by exact hh0) (by exact hh1) (by exact hh2) (by exact hh3) (by exact hh4) (by (try rw [(show xi (E 0) 23 = y3 from vi_e fy3)]); omega)) (cwV 0 hts (gi_V (in_26 _ (zs16 (zs4 (zs4 (zs4 (zs0)))))) (in_26 _ (zs16 (zs4 (zs4 (zs4 (zs1 (zs0))))))) (in_26 _ (zs16 (zs4 (zs4 (zs4 (zs1 (zs1 (zs0)))))))) (in_24 _ (zs4 (zs4 (zs4 (zs1 (zs1 (zs1 (zs0)))))))) (in_27 _ (zs1 (zs1 (zs0))))) rfl rfl rfl (by decide +kernel) ⟨(show 7 * n + 6 + 1 ≤ 7 * n + 7 from nl_4 (Nat.le_of_ble_eq_true rfl) (Nat.le_of_ble_eq_true rfl)), (show 8 + (5 + 11) + 40 * (7 * n + 6) ≤ 40 * (7 * n + 7) from nl_3 (Nat.le_of_ble_eq_true rfl) (Nat.le_of_ble_eq_true rfl))⟩) ⟨HW_bl, va_recv hK hP (ci := 14) (q0 := 0) rfl (hI.ob 0 (Nat.le_of_ble_eq_true rfl) rfl), (HW_wi hP hK (WX_D hD) hS hA hEV)⟩ rfl rfl hl.1 rfl (lv_room (Nat.le_of_ble_eq_true rfl)) dX13_sum_1 ⟨Nat.le_of_ble_eq_true rfl, Nat.le_of_ble_eq_true rfl⟩) (WX_D hD) hS hA (fun r4 E5 H locs hw hP hS => ?_)
  obtain ⟨hI, kq6, hw⟩ := hw
  have hKb := hKp
  have hKp := hKp.tr kq6 (wl_sub rfl rfl)
  obtain ⟨y7, ey7⟩ : ∃ y, xi (E5 0) 21 = y := ⟨_, rfl⟩
  have fy7 : xv (E5 0) 21 = .int y7 := (hI.fi 0 (Nat.le_of_ble_eq_true rfl) rfl (Nat.le_of_ble_eq_true rfl) rfl).trans (congrArg Value.int ey7)
  have iy7 : 0 ≤ y7.toInt ∧ y7.toInt ≤ 201 := by rw [← ey7]; exact hI.iv 0 (Nat.le_of_ble_eq_true rfl) rfl (Nat.le_of_ble_eq_true rfl) rfl
  obtain ⟨y8, ey8⟩ : ∃ y, xi (E5 0) 22 = y := ⟨_, rfl⟩
  have fy8 : xv (E5 0) 22 = .int y8 := (hI.fi 0 (Nat.le_of_ble_eq_true rfl) rfl (Nat.le_of_ble_eq_true rfl) rfl).trans (congrArg Value.int ey8)
  have iy8 : -1 ≤ y8.toInt ∧ y8.toInt ≤ 201 := by rw [← ey8]; exact hI.iv 0 (Nat.le_of_ble_eq_true rfl) rfl (Nat.le_of_ble_eq_true rfl) rfl
  obtain ⟨y9, ey9⟩ : ∃ y, xi (E5 0) 23 = y := ⟨_, rfl⟩
  have fy9 : xv (E5 0) 23 = .int y9 := (hI.fi 0 (Nat.le_of_ble_eq_true rfl) rfl (Nat.le_of_ble_eq_true rfl) rfl).trans (congrArg Value.int ey9)
  have iy9 : 0 ≤ y9.toInt ∧ y9.toInt ≤ 8 := by rw [← ey9]; exact hI.iv 0 (Nat.le_of_ble_eq_true rfl) rfl (Nat.le_of_ble_eq_true rfl) rfl
  obtain ⟨f10, f11, f12, f13⟩ := hw
  have i14 : 0 ≤ (xi (E 0) 19).toInt ∧ (xi (E 0) 19).toInt ≤ 3000 := (show 0 ≤ (xi (E 0) 19).toInt ∧ (xi (E 0) 19).toInt ≤ 3000 from hI0.iv 0 (Nat.le_of_ble_eq_true rfl) rfl (Nat.le_of_ble_eq_true rfl) rfl)
  have i15 : 0 ≤ (xi (E 0) 20).toInt ∧ (xi (E 0) 20).toInt ≤ 200 := (show 0 ≤ (xi (E 0) 20).toInt ∧ (xi (E 0) 20).toInt ≤ 200 from hI0.iv 0 (Nat.le_of_ble_eq_true rfl) rfl (Nat.le_of_ble_eq_true rfl) rfl)
  try rw [(show xi (E 0) 21 = y1 from vi_e fy1)] at f10
  try rw [(show xi (E5 0) 21 = y7 from vi_e fy7)] at f10
  try rw [(show xi (E 0) 23 = y3 from vi_e fy3)] at f11
  try rw [(show xi (E5 0) 23 = y9 from vi_e fy9)] at f11
  try rw [(show xi (E 0) 22 = y2 from vi_e fy2)] at f12
  try rw [(show xi (E 0) 23 = y3 from vi_e fy3)] at f12
  try rw [(show xi (E5 0) 22 = y8 from vi_e fy8)] at f12
  try rw [(show xi (E5 0) 23 = y9 from vi_e fy9)] at f12
  try rw [(show xi (E 0) 22 = y2 from vi_e fy2)] at f13
  try rw [(show xi (E5 0) 22 = y8 from vi_e fy8)] at f13
  refine lv_istore_n (lv' := [(1, .int r4), (0, .ref (ad 0))]) hx hb dX13_sum_4 rfl hl (by decide) rfl (fun ls hl => ?_)
  have hL5 : ∀ d : Nat, ∀ (w5_0_21 : Int32) (w5_0_22 : Int32) (w5_0_23 : Int32) (v5_1 : Int32) (E5_ : Nat → va_E) (H : Heap) (locs : List Loc) (ls : Array Slot), 0 ≤ w5_0_21.toInt ∧ w5_0_21.toInt ≤ 201 → -1 ≤ w5_0_22.toInt ∧ w5_0_22.toInt ≤ 201 → 0 ≤ w5_0_23.toInt ∧ w5_0_23.toInt ≤ 8 → y1.toInt ≤ w5_0_21.toInt → y3.toInt ≤ w5_0_23.toInt → (w5_0_22.toInt = -1 → w5_0_23.toInt = y3.toInt) → (w5_0_22.toInt = -1 → y2.toInt = -1) → 201 - w5_0_21.toInt < (d : Int) → IX cT shM spM 72 ad E5_ → Kp w_sum E E5_ → xv (E5_ 0) 21 = .int w5_0_21 → xv (E5_ 0) 22 = .int w5_0_22 → xv (E5_ 0) 23 = .int w5_0_23 → va_P (dC, dI) vwCl (WX 72 ad E5_) H → va_S A s.heap H locs → lv_has ls 5 [(1, .int v5_1), (0, .ref (ad 0))] → W p l e (headSpec v_sum (rm_sum n)).room s m args below meth c H locs 0 0 Q (F0 m 5 ls []) := by
    intro d
    induction d with
    | zero =>
      intro w5_0_21 w5_0_22 w5_0_23 v5_1 E5_ H locs ls hw5_0_21 hw5_0_22 hw5_0_23 hx5_0 hx5_1 hx5_2 hx5_3 hx5_4 hI hKp hs5_0_21 hs5_0_22 hs5_0_23 hP hS hl
      exact absurd hx5_4 (by omega)
    | succ d ih5 =>
      intro w5_0_21 w5_0_22 w5_0_23 v5_1 E5_ H locs ls hw5_0_21 hw5_0_22 hw5_0_23 hx5_0 hx5_1 hx5_2 hx5_3 hx5_4 hI hKp hs5_0_21 hs5_0_22 hs5_0_23 hP hS hl
      refine lv_aload_n hx hb dX13_sum_5 rfl (lv_at hl 1 rfl) ?_
      refine th_get (ci := 14) (C := RX13) (T := TX13) (N := 97) (v := .int w5_0_22) hx hb hts hinX13 hown hK hP hI 0 (Nat.le_of_ble_eq_true rfl) rfl rfl 22 (Nat.le_of_ble_eq_true rfl) (hts _ (vA_in _ _ (in_25 _ (zs16 (zs16 (zs4 (zs1 (zs1 (zs1 (zs0)))))))))) (fun _ h9 => h9) hs5_0_22 dX13_sum_6 ?_
      refine lv_iconst (v := -1) hx hb dX13_sum_9 (by decide) ?_
      refine lv_icmp_ne (tgt := 84) hx hb dX13_sum_10 (by decide) (fun c16 => ?_) (fun c16 => ?_)
      · --10 taken
        have t17 : ¬ w5_0_22.toInt = -1 := ti_ne c16
        have i18 : 0 ≤ w5_0_22.toInt ∧ w5_0_22.toInt ≤ 201 := iv_ne_l t17 hw5_0_22 (il_ (-1))
        refine lv_iload_n hx hb dX13_sum_84 rfl (lv_at hl 0 rfl) ?_
        rw [hQ]
        exact W.iret (v := v5_1) hx hb hr (fun t ht hW => ⟨⟨v5_1, E5_, rfl, ⟨hI, hKp, ⟨by (try rw [(show xi (E5_ 0) 21 = w5_0_21 from vi_e hs5_0_21)]); (try rw [ey1]); first | done | exact hx5_0 | all_goals omega, by (try rw [(show xi (E5_ 0) 23 = w5_0_23 from vi_e hs5_0_23)]); (try rw [ey3]); first | done | exact hx5_1 | all_goals omega, by (try rw [(show xi (E5_ 0) 22 = w5_0_22 from vi_e hs5_0_22)]); (try rw [(show xi (E5_ 0) 23 = w5_0_23 from vi_e hs5_0_23)]); (try rw [ey2]); (try rw [ey3]); first | done | exact fun q9 => absurd (q9) t17 | all_goals omega, by (try rw [(show xi (E5_ 0) 22 = w5_0_22 from vi_e hs5_0_22)]); (try rw [ey2]); first | done | exact fun q9 => absurd (q9) t17 | all_goals omega⟩⟩, by show va_P (dC, dI) vwCl (WX 72 ad E5_) t.heap; rw [ht]; exact hP⟩, hS.F ht⟩) hS.2.2 dX13_sum_85
      · --10 not
        have t19 : w5_0_22.toInt = -1 := ti_eq c16
        have i20 : -1 ≤ w5_0_22.toInt ∧ w5_0_22.toInt ≤ -1 := iv_eqi t19 hw5_0_22 (il_ (-1)) (by decide)
        refine lv_aload_n hx hb dX13_sum_13 rfl (lv_at hl 1 rfl) ?_
        refine th_i (va_runV (As := []) (rest := []) ⟨hx, hb, hml, hown, hts⟩ (q_look l dC dI cT ad E5_ H.size k nl hI (by exact hh0) (by exact hh1) (by exact hh2) (by exact (hKp 0 18 rfl).trans hh3) (by (try rw [hKp.ei 0 19 rfl]); exact hh4)) (cwV 0 hts (gi_V (in_26 _ (zs1 (zs1 (zs0)))) (in_26 _ (zs1 (zs1 (zs1 (zs0))))) (in_26 _ (zs4 (zs0))) (in_24 _ (zs4 (zs4 (zs4 (zs1 (zs1 (zs1 (zs0)))))))) (in_26 _ (zs4 (zs1 (zs0))))) rfl rfl rfl ⟨rfl, hz_yX13_look_0⟩ ⟨(show 0 + 1 ≤ 7 * n + 7 from nl_1 (Nat.le_of_ble_eq_true rfl)), (show 8 + (1 + 11) + 40 * (0) ≤ 40 * (7 * n + 7) from nl_2 (Nat.le_of_ble_eq_true rfl))⟩) ⟨HW_bl, va_recv hK hP (ci := 14) (q0 := 0) rfl (hI.ob 0 (Nat.le_of_ble_eq_true rfl) rfl), (HW_wi hP hK (WX_D hD) hS hA hEV)⟩ rfl rfl hl.1 rfl (lv_room (Nat.le_of_ble_eq_true rfl)) dX13_sum_14 ⟨Nat.le_of_ble_eq_true rfl, Nat.le_of_ble_eq_true rfl⟩) (WX_D hD) hS hA (fun r21 E22 H locs hw hP hS => ?_)
        obtain ⟨hI, kq23, hw⟩ := hw
        have hKb := hKp
        have hKp := hKp.tr kq23 (wl_sub rfl rfl)
        obtain ⟨y24, ey24⟩ : ∃ y, xi (E22 0) 21 = y := ⟨_, rfl⟩
        have fy24 : xv (E22 0) 21 = .int y24 := (hI.fi 0 (Nat.le_of_ble_eq_true rfl) rfl (Nat.le_of_ble_eq_true rfl) rfl).trans (congrArg Value.int ey24)
        have iy24 : 0 ≤ y24.toInt ∧ y24.toInt ≤ 201 := by rw [← ey24]; exact hI.iv 0 (Nat.le_of_ble_eq_true rfl) rfl (Nat.le_of_ble_eq_true rfl) rfl
        obtain ⟨f25, f26, f27, f28⟩ := hw
        try rw [(show xi (E5_ 0) 21 = w5_0_21 from vi_e hs5_0_21)] at f26
        try rw [(show xi (E22 0) 21 = y24 from vi_e fy24)] at f26
        try rw [(show xi (E5_ 0) 21 = w5_0_21 from vi_e hs5_0_21)] at f27
        try rw [hKb.ei 0 20 rfl] at f27
        try rw [(show xi (E22 0) 21 = y24 from vi_e fy24)] at f27
        try rw [(show xi (E5_ 0) 21 = w5_0_21 from vi_e hs5_0_21)] at f28
        try rw [hKb.ei 0 20 rfl] at f28
        try rw [(show xi (E22 0) 21 = y24 from vi_e fy24)] at f28
        refine lv_bipush (v := 43) hx hb dX13_sum_17 (by decide) ?_
        refine lv_icmp_eq (tgt := 31) hx hb dX13_sum_19 (by decide) (fun c29 => ?_) (fun c29 => ?_)
        · --19 taken
          have t30 : r21.toInt = 43 := ti_eq c29
          have i31 : 43 ≤ r21.toInt ∧ r21.toInt ≤ 43 := iv_eqi t30 f25 (il_ 43) (by decide)
          refine lv_aload_n hx hb dX13_sum_31 rfl (lv_at hl 1 rfl) ?_
          refine th_i (va_runV (As := []) (rest := []) ⟨hx, hb, hml, hown, hts⟩ (q_look l dC dI cT ad E22 H.size k nl hI (by exact hh0) (by exact hh1) (by exact hh2) (by exact (hKp 0 18 rfl).trans hh3) (by (try rw [hKp.ei 0 19 rfl]); exact hh4)) (cwV 0 hts (gi_V (in_26 _ (zs1 (zs1 (zs0)))) (in_26 _ (zs1 (zs1 (zs1 (zs0))))) (in_26 _ (zs4 (zs0))) (in_24 _ (zs4 (zs4 (zs4 (zs1 (zs1 (zs1 (zs0)))))))) (in_26 _ (zs4 (zs1 (zs0))))) rfl rfl rfl ⟨rfl, hz_yX13_look_0⟩ ⟨(show 0 + 1 ≤ 7 * n + 7 from nl_1 (Nat.le_of_ble_eq_true rfl)), (show 8 + (1 + 11) + 40 * (0) ≤ 40 * (7 * n + 7) from nl_2 (Nat.le_of_ble_eq_true rfl))⟩) ⟨HW_bl, va_recv hK hP (ci := 14) (q0 := 0) rfl (hI.ob 0 (Nat.le_of_ble_eq_true rfl) rfl), (HW_wi hP hK (WX_D hD) hS hA hEV)⟩ rfl rfl hl.1 rfl (lv_room (Nat.le_of_ble_eq_true rfl)) dX13_sum_32 ⟨Nat.le_of_ble_eq_true rfl, Nat.le_of_ble_eq_true rfl⟩) (WX_D hD) hS hA (fun r32 E33 H locs hw hP hS => ?_)
          obtain ⟨hI, kq34, hw⟩ := hw
          have hKb := hKp
          have hKp := hKp.tr kq34 (wl_sub rfl rfl)
          obtain ⟨y35, ey35⟩ : ∃ y, xi (E33 0) 21 = y := ⟨_, rfl⟩
          have fy35 : xv (E33 0) 21 = .int y35 := (hI.fi 0 (Nat.le_of_ble_eq_true rfl) rfl (Nat.le_of_ble_eq_true rfl) rfl).trans (congrArg Value.int ey35)
          have iy35 : 0 ≤ y35.toInt ∧ y35.toInt ≤ 201 := by rw [← ey35]; exact hI.iv 0 (Nat.le_of_ble_eq_true rfl) rfl (Nat.le_of_ble_eq_true rfl) rfl
          obtain ⟨f36, f37, f38, f39⟩ := hw
          try rw [(show xi (E22 0) 21 = y24 from vi_e fy24)] at f37
          try rw [(show xi (E33 0) 21 = y35 from vi_e fy35)] at f37
          try rw [(show xi (E22 0) 21 = y24 from vi_e fy24)] at f38
          try rw [hKb.ei 0 20 rfl] at f38
          try rw [(show xi (E33 0) 21 = y35 from vi_e fy35)] at f38
          try rw [(show xi (E22 0) 21 = y24 from vi_e fy24)] at f39
          try rw [hKb.ei 0 20 rfl] at f39
          try rw [(show xi (E33 0) 21 = y35 from vi_e fy35)] at f39
          refine lv_bipush (v := 43) hx hb dX13_sum_35 (by decide) ?_
          have hJ45 : ∀ (s45_0 : Int32) (H : Heap) (locs : List Loc) (ls : Array Slot), 0 ≤ s45_0.toInt ∧ s45_0.toInt ≤ 1 → va_P (dC, dI) vwCl (WX 72 ad E33) H → va_S A s.heap H locs → lv_has ls 5 [(1, .int v5_1), (0, .ref (ad 0))] → W p l e (headSpec v_sum (rm_sum n)).room s m args below meth c H locs 0 0 Q (F0 m 45 ls [.int s45_0]) := by
            intro s45_0 H locs ls hs45_0 hP hS hl
            refine lv_istore_n (lv' := [(2, .int s45_0), (1, .int v5_1), (0, .ref (ad 0))]) hx hb dX13_sum_45 rfl hl (by decide) rfl (fun ls hl => ?_)
            refine lv_aload_n hx hb dX13_sum_46 rfl (lv_at hl 2 rfl) ?_
            refine lv_dup hx hb dX13_sum_47 rfl ?_
            refine th_get (ci := 14) (C := RX13) (T := TX13) (N := 97) (v := .int y35) hx hb hts hinX13 hown hK hP hI 0 (Nat.le_of_ble_eq_true rfl) rfl rfl 21 (Nat.le_of_ble_eq_true rfl) (hts _ (vA_in _ _ (in_25 _ (zs16 (zs16 (zs4 (zs0))))))) (fun _ h9 => h9) fy35 dX13_sum_48 ?_
            refine lv_iconst (v := 1) hx hb dX13_sum_51 (by decide) ?_
            refine lv_iadd hx hb dX13_sum_52 ?_
            refine lv_topi (fun y40 ey40 => ?_)
            obtain ⟨ty40, iy40⟩ := ti_add (e := 1) (f := 202) iy35 ln_1 ey40 (by decide)
            have ty40 : y40.toInt = y35.toInt + 1 := ty40
            have iy40 : 1 ≤ y40.toInt ∧ y40.toInt ≤ 202 := iy40
            have i41 : 1 ≤ y40.toInt ∧ y40.toInt ≤ 201 := by omega
            refine th_put (ci := 14) (C := RX13) (T := TX13) (N := 97) (v := .int y40) (ty := .int) hx hb hts hinX13 tyX13 tyX13_ok nmX13 hown hK hP (WX_D hD) hS hI 0 (Nat.le_of_ble_eq_true rfl) rfl rfl 21 (Nat.le_of_ble_eq_true rfl) (hts _ (vA_in _ _ (in_25 _ (zs16 (zs16 (zs4 (zs0))))))) (fun _ h9 => h9) rfl (by decide +kernel) rfl rfl (okI rfl (iv_w i41 (by decide))) dX13_sum_53 (fun H locs E42 pw43 hI hP hS => ?_)
            have hKp := hKp.pw pw43 rfl
            refine lv_aload_n hx hb dX13_sum_56 rfl (lv_at hl 2 rfl) ?_
            refine th_i (va_runV (As := []) (rest := []) ⟨hx, hb, hml, hown, hts⟩ (gT dC dI cT ad E42 H.size k nl hI (by exact hh0) (by exact hh1) (by exact hh2) (by exact (hKp 0 18 rfl).trans hh3) (by (try rw [hKp.ei 0 19 rfl]); exact hh4) (by (try rw [(show xi (E42 0) 23 = w5_0_23 from vi_e ((pw43.2 0 23 (fun q9 => absurd q9.2 (Nat.ne_of_beq_eq_false rfl))).trans ((kq34 0 23 rfl).trans ((kq23 0 23 rfl).trans hs5_0_23))))]); omega)) (cwV 0 hts (gi_V (in_26 _ (zs16 (zs4 (zs4 (zs4 (zs0)))))) (in_26 _ (zs16 (zs4 (zs4 (zs4 (zs1 (zs0))))))) (in_26 _ (zs16 (zs4 (zs4 (zs4 (zs1 (zs1 (zs0)))))))) (in_24 _ (zs4 (zs4 (zs4 (zs1 (zs1 (zs1 (zs0)))))))) (in_27 _ (zs1 (zs1 (zs0))))) rfl rfl rfl (by decide +kernel) ⟨(show 7 * n + 6 + 1 ≤ 7 * n + 7 from nl_4 (Nat.le_of_ble_eq_true rfl) (Nat.le_of_ble_eq_true rfl)), (show 8 + (5 + 11) + 40 * (7 * n + 6) ≤ 40 * (7 * n + 7) from nl_3 (Nat.le_of_ble_eq_true rfl) (Nat.le_of_ble_eq_true rfl))⟩) ⟨HW_bl, va_recv hK hP (ci := 14) (q0 := 0) rfl (hI.ob 0 (Nat.le_of_ble_eq_true rfl) rfl), (HW_wi hP hK (WX_D hD) hS hA hEV)⟩ rfl rfl hl.1 rfl (lv_room (Nat.le_of_ble_eq_true rfl)) dX13_sum_57 ⟨Nat.le_of_ble_eq_true rfl, Nat.le_of_ble_eq_true rfl⟩) (WX_D hD) hS hA (fun r44 E45 H locs hw hP hS => ?_)
            obtain ⟨hI, kq46, hw⟩ := hw
            have hKb := hKp
            have hKp := hKp.tr kq46 (wl_sub rfl rfl)
            obtain ⟨y47, ey47⟩ : ∃ y, xi (E45 0) 21 = y := ⟨_, rfl⟩
            have fy47 : xv (E45 0) 21 = .int y47 := (hI.fi 0 (Nat.le_of_ble_eq_true rfl) rfl (Nat.le_of_ble_eq_true rfl) rfl).trans (congrArg Value.int ey47)
            have iy47 : 0 ≤ y47.toInt ∧ y47.toInt ≤ 201 := by rw [← ey47]; exact hI.iv 0 (Nat.le_of_ble_eq_true rfl) rfl (Nat.le_of_ble_eq_true rfl) rfl
            obtain ⟨y48, ey48⟩ : ∃ y, xi (E45 0) 22 = y := ⟨_, rfl⟩
            have fy48 : xv (E45 0) 22 = .int y48 := (hI.fi 0 (Nat.le_of_ble_eq_true rfl) rfl (Nat.le_of_ble_eq_true rfl) rfl).trans (congrArg Value.int ey48)
            have iy48 : -1 ≤ y48.toInt ∧ y48.toInt ≤ 201 := by rw [← ey48]; exact hI.iv 0 (Nat.le_of_ble_eq_true rfl) rfl (Nat.le_of_ble_eq_true rfl) rfl
            obtain ⟨y49, ey49⟩ : ∃ y, xi (E45 0) 23 = y := ⟨_, rfl⟩
            have fy49 : xv (E45 0) 23 = .int y49 := (hI.fi 0 (Nat.le_of_ble_eq_true rfl) rfl (Nat.le_of_ble_eq_true rfl) rfl).trans (congrArg Value.int ey49)
            have iy49 : 0 ≤ y49.toInt ∧ y49.toInt ≤ 8 := by rw [← ey49]; exact hI.iv 0 (Nat.le_of_ble_eq_true rfl) rfl (Nat.le_of_ble_eq_true rfl) rfl
            obtain ⟨f50, f51, f52, f53⟩ := hw
            try rw [(show xi (E42 0) 21 = y40 from vi_e pw43.1)] at f50
            try rw [(show xi (E45 0) 21 = y47 from vi_e fy47)] at f50
            try rw [(show xi (E42 0) 23 = w5_0_23 from vi_e ((pw43.2 0 23 (fun q9 => absurd q9.2 (Nat.ne_of_beq_eq_false rfl))).trans ((kq34 0 23 rfl).trans ((kq23 0 23 rfl).trans hs5_0_23))))] at f51
            try rw [(show xi (E45 0) 23 = y49 from vi_e fy49)] at f51
            try rw [(show xi (E42 0) 22 = w5_0_22 from vi_e ((pw43.2 0 22 (fun q9 => absurd q9.2 (Nat.ne_of_beq_eq_false rfl))).trans ((kq34 0 22 rfl).trans ((kq23 0 22 rfl).trans hs5_0_22))))] at f52
            try rw [(show xi (E42 0) 23 = w5_0_23 from vi_e ((pw43.2 0 23 (fun q9 => absurd q9.2 (Nat.ne_of_beq_eq_false rfl))).trans ((kq34 0 23 rfl).trans ((kq23 0 23 rfl).trans hs5_0_23))))] at f52
            try rw [(show xi (E45 0) 22 = y48 from vi_e fy48)] at f52
            try rw [(show xi (E45 0) 23 = y49 from vi_e fy49)] at f52
            try rw [(show xi (E42 0) 22 = w5_0_22 from vi_e ((pw43.2 0 22 (fun q9 => absurd q9.2 (Nat.ne_of_beq_eq_false rfl))).trans ((kq34 0 22 rfl).trans ((kq23 0 22 rfl).trans hs5_0_22))))] at f53
            try rw [(show xi (E45 0) 22 = y48 from vi_e fy48)] at f53
            refine lv_i2l hx hb dX13_sum_60 rfl ?_
            refine lv_topl (fun y54 ey54 => ?_)
            refine lv_lstore_n (lv' := [(3, .long y54), (2, .int s45_0), (1, .int v5_1), (0, .ref (ad 0))]) hx hb dX13_sum_61 rfl hl (by decide) rfl (fun ls hl => ?_)
            refine lv_iload_n hx hb dX13_sum_62 rfl (lv_at hl 1 rfl) ?_
            have hJ77 : ∀ (s77_0 : Int64) (H : Heap) (locs : List Loc) (ls : Array Slot), va_P (dC, dI) vwCl (WX 72 ad E45) H → va_S A s.heap H locs → lv_has ls 5 [(3, .long y54), (2, .int s45_0), (1, .int v5_1), (0, .ref (ad 0))] → W p l e (headSpec v_sum (rm_sum n)).room s m args below meth c H locs 0 0 Q (F0 m 77 ls [.long s77_0]) := by
              intro s77_0 H locs ls hP hS hl
              refine th_pi (va_runS (As := [.long s77_0]) (rest := []) ⟨hx, hb, hml, hown, hts⟩ (q_bound l s77_0) (va_cwS 1 hts (gi_S (in_26 _ (zs16 (zs4 (zs4 (zs4 (zs1 (zs1 (zs1 (zs0))))))))) (in_26 _ (zs16 (zs16 (zs0)))) (in_24 _ (zs4 (zs4 (zs4 (zs1 (zs1 (zs1 (zs0)))))))) (in_26 _ (zs16 (zs16 (zs1 (zs0)))))) rfl rfl rfl hz_yX13_bound_1 ⟨(show 1 + 1 ≤ 7 * n + 7 from nl_1 (Nat.le_of_ble_eq_true rfl)), (show 8 + (2 + 11) + 40 * (1) ≤ 40 * (7 * n + 7) from nl_2 (Nat.le_of_ble_eq_true rfl))⟩) ⟨fun _ _ _ _ q => q, fun _ _ _ => ⟨rfl, trivial⟩⟩ rfl rfl hl.1 rfl (lv_room (Nat.le_of_ble_eq_true rfl)) dX13_sum_77 ⟨Nat.le_of_ble_eq_true rfl, Nat.le_of_ble_eq_true rfl⟩) hS (fun r55 H1 locs1 hw hk1 hS => ?_)
              have hP := ub_keep hP hk1
              generalize H1 = H at hP hS ⊢
              generalize locs1 = locs at hS ⊢
              refine lv_istore_n (lv' := [(1, .int r55), (3, .long y54), (2, .int s45_0), (0, .ref (ad 0))]) hx hb dX13_sum_80 rfl hl (by decide) rfl (fun ls hl => ?_)
              refine lv_goto (tgt := 5) hx hb dX13_sum_81 (by decide) ?_
              exact ih5 y47 y48 y49 r55 E45 _ _ _ iy47 iy48 iy49 (by  first | exact (Int.le_trans (Int.le_trans (Int.le_trans (Int.le_trans hx5_0 f26) f37) (Int.le_trans (Int.le_add_of_nonneg_right (by decide)) (Int.le_of_eq ty40.symm))) f50) | omega) (by  first | exact (Int.le_trans hx5_1 f51) | omega) (by  first | exact fun q9 => ((f52 (q9)).trans (hx5_2 (f53 (q9)))) | omega) (by  first | exact fun q9 => hx5_3 (f53 (q9)) | omega) (by omega) hI hKp fy47 fy48 fy49 hP hS (lv_sub hl [0, 3] rfl)
            refine lv_if_eq (tgt := 73) hx hb dX13_sum_63 (by decide) (fun c56 => ?_) (fun c56 => ?_)
            · --63 taken
              have t57 : s45_0.toInt = 0 := ti_eq c56
              have i58 : 0 ≤ s45_0.toInt ∧ s45_0.toInt ≤ 0 := iv_eqi t57 hs45_0 (il_ 0) (by decide)
              refine lv_iload_n hx hb dX13_sum_73 rfl (lv_at hl 2 rfl) ?_
              refine lv_i2l hx hb dX13_sum_74 rfl ?_
              refine lv_topl (fun y59 ey59 => ?_)
              refine lv_lload_n hx hb dX13_sum_75 rfl (lv_at hl 0 rfl) ?_
              refine lv_lsub hx hb dX13_sum_76 ?_
              refine lv_topl (fun y60 ey60 => ?_)
              exact hJ77 y60 _ _ _ hP hS (lv_sub hl [0, 1, 2, 3] rfl)
            · --63 not
              have t61 : ¬ s45_0.toInt = 0 := ti_ne c56
              have i62 : 1 ≤ s45_0.toInt ∧ s45_0.toInt ≤ 1 := iv_ne_l t61 hs45_0 (il_ 0)
              refine lv_iload_n hx hb dX13_sum_66 rfl (lv_at hl 2 rfl) ?_
              refine lv_i2l hx hb dX13_sum_67 rfl ?_
              refine lv_topl (fun y63 ey63 => ?_)
              refine lv_lload_n hx hb dX13_sum_68 rfl (lv_at hl 0 rfl) ?_
              refine lv_ladd hx hb dX13_sum_69 ?_
              refine lv_topl (fun y64 ey64 => ?_)
              refine lv_goto (tgt := 77) hx hb dX13_sum_70 (by decide) ?_
              exact hJ77 y64 _ _ _ hP hS (lv_sub hl [0, 1, 2, 3] rfl)
          refine lv_icmp_ne (tgt := 44) hx hb dX13_sum_37 (by decide) (fun c65 => ?_) (fun c65 => ?_)
          · --37 taken
            have t66 : ¬ r32.toInt = 43 := ti_ne c65
            refine lv_iconst (v := 0) hx hb dX13_sum_44 (by decide) ?_
            exact hJ45 (0 : Int32) _ _ _ (iv_w ln_0 (by decide)) hP hS (lv_sub hl [0, 1] rfl)
          · --37 not
            have t67 : r32.toInt = 43 := ti_eq c65
            have i68 : 43 ≤ r32.toInt ∧ r32.toInt ≤ 43 := iv_eqi t67 f36 (il_ 43) (by decide)
            refine lv_iconst (v := 1) hx hb dX13_sum_40 (by decide) ?_
            refine lv_goto (tgt := 45) hx hb dX13_sum_41 (by decide) ?_
            exact hJ45 (1 : Int32) _ _ _ (iv_w ln_1 (by decide)) hP hS (lv_sub hl [0, 1] rfl)
        · --19 not
          have t69 : ¬ r21.toInt = 43 := ti_ne c29
          refine lv_aload_n hx hb dX13_sum_22 rfl (lv_at hl 1 rfl) ?_
          refine th_i (va_runV (As := []) (rest := []) ⟨hx, hb, hml, hown, hts⟩ (q_look l dC dI cT ad E22 H.size k nl hI (by exact hh0) (by exact hh1) (by exact hh2) (by exact (hKp 0 18 rfl).trans hh3) (by (try rw [hKp.ei 0 19 rfl]); exact hh4)) (cwV 0 hts (gi_V (in_26 _ (zs1 (zs1 (zs0)))) (in_26 _ (zs1 (zs1 (zs1 (zs0))))) (in_26 _ (zs4 (zs0))) (in_24 _ (zs4 (zs4 (zs4 (zs1 (zs1 (zs1 (zs0)))))))) (in_26 _ (zs4 (zs1 (zs0))))) rfl rfl rfl ⟨rfl, hz_yX13_look_0⟩ ⟨(show 0 + 1 ≤ 7 * n + 7 from nl_1 (Nat.le_of_ble_eq_true rfl)), (show 8 + (1 + 11) + 40 * (0) ≤ 40 * (7 * n + 7) from nl_2 (Nat.le_of_ble_eq_true rfl))⟩) ⟨HW_bl, va_recv hK hP (ci := 14) (q0 := 0) rfl (hI.ob 0 (Nat.le_of_ble_eq_true rfl) rfl), (HW_wi hP hK (WX_D hD) hS hA hEV)⟩ rfl rfl hl.1 rfl (lv_room (Nat.le_of_ble_eq_true rfl)) dX13_sum_23 ⟨Nat.le_of_ble_eq_true rfl, Nat.le_of_ble_eq_true rfl⟩) (WX_D hD) hS hA (fun r70 E71 H locs hw hP hS => ?_)
          obtain ⟨hI, kq72, hw⟩ := hw
          have hKb := hKp
          have hKp := hKp.tr kq72 (wl_sub rfl rfl)
          obtain ⟨y73, ey73⟩ : ∃ y, xi (E71 0) 21 = y := ⟨_, rfl⟩
          have fy73 : xv (E71 0) 21 = .int y73 := (hI.fi 0 (Nat.le_of_ble_eq_true rfl) rfl (Nat.le_of_ble_eq_true rfl) rfl).trans (congrArg Value.int ey73)
          have iy73 : 0 ≤ y73.toInt ∧ y73.toInt ≤ 201 := by rw [← ey73]; exact hI.iv 0 (Nat.le_of_ble_eq_true rfl) rfl (Nat.le_of_ble_eq_true rfl) rfl
          obtain ⟨f74, f75, f76, f77⟩ := hw
          try rw [(show xi (E22 0) 21 = y24 from vi_e fy24)] at f75
          try rw [(show xi (E71 0) 21 = y73 from vi_e fy73)] at f75
          try rw [(show xi (E22 0) 21 = y24 from vi_e fy24)] at f76
          try rw [hKb.ei 0 20 rfl] at f76
          try rw [(show xi (E71 0) 21 = y73 from vi_e fy73)] at f76
          try rw [(show xi (E22 0) 21 = y24 from vi_e fy24)] at f77
          try rw [hKb.ei 0 20 rfl] at f77
          try rw [(show xi (E71 0) 21 = y73 from vi_e fy73)] at f77
          refine lv_bipush (v := 45) hx hb dX13_sum_26 (by decide) ?_
          refine lv_icmp_ne (tgt := 84) hx hb dX13_sum_28 (by decide) (fun c78 => ?_) (fun c78 => ?_)
          · --28 taken
            have t79 : ¬ r70.toInt = 45 := ti_ne c78
            refine lv_iload_n hx hb dX13_sum_84 rfl (lv_at hl 0 rfl) ?_
            rw [hQ]
            exact W.iret (v := v5_1) hx hb hr (fun t ht hW => ⟨⟨v5_1, E71, rfl, ⟨hI, hKp, ⟨by (try rw [(show xi (E71 0) 21 = y73 from vi_e fy73)]); (try rw [ey1]); first | done | exact (Int.le_trans (Int.le_trans hx5_0 f26) f75) | all_goals omega, by (try rw [(show xi (E71 0) 23 = w5_0_23 from vi_e ((kq72 0 23 rfl).trans ((kq23 0 23 rfl).trans hs5_0_23)))]); (try rw [ey3]); first | done | exact hx5_1 | all_goals omega, by (try rw [(show xi (E71 0) 22 = w5_0_22 from vi_e ((kq72 0 22 rfl).trans ((kq23 0 22 rfl).trans hs5_0_22)))]); (try rw [(show xi (E71 0) 23 = w5_0_23 from vi_e ((kq72 0 23 rfl).trans ((kq23 0 23 rfl).trans hs5_0_23)))]); (try rw [ey2]); (try rw [ey3]); first | done | exact fun q9 => (hx5_2 (q9)) | all_goals omega, by (try rw [(show xi (E71 0) 22 = w5_0_22 from vi_e ((kq72 0 22 rfl).trans ((kq23 0 22 rfl).trans hs5_0_22)))]); (try rw [ey2]); first | done | exact fun q9 => hx5_3 (q9) | all_goals omega⟩⟩, by show va_P (dC, dI) vwCl (WX 72 ad E71) t.heap; rw [ht]; exact hP⟩, hS.F ht⟩) hS.2.2 dX13_sum_85
          · --28 not
            have t80 : r70.toInt = 45 := ti_eq c78
            have i81 : 45 ≤ r70.toInt ∧ r70.toInt ≤ 45 := iv_eqi t80 f74 (il_ 45) (by decide)
            refine lv_aload_n hx hb dX13_sum_31 rfl (lv_at hl 1 rfl) ?_
            refine th_i (va_runV (As := []) (rest := []) ⟨hx, hb, hml, hown, hts⟩ (q_look l dC dI cT ad E71 H.size k nl hI (by exact hh0) (by exact hh1) (by exact hh2) (by exact (hKp 0 18 rfl).trans hh3) (by (try rw [hKp.ei 0 19 rfl]); exact hh4)) (cwV 0 hts (gi_V (in_26 _ (zs1 (zs1 (zs0)))) (in_26 _ (zs1 (zs1 (zs1 (zs0))))) (in_26 _ (zs4 (zs0))) (in_24 _ (zs4 (zs4 (zs4 (zs1 (zs1 (zs1 (zs0)))))))) (in_26 _ (zs4 (zs1 (zs0))))) rfl rfl rfl ⟨rfl, hz_yX13_look_0⟩ ⟨(show 0 + 1 ≤ 7 * n + 7 from nl_1 (Nat.le_of_ble_eq_true rfl)), (show 8 + (1 + 11) + 40 * (0) ≤ 40 * (7 * n + 7) from nl_2 (Nat.le_of_ble_eq_true rfl))⟩) ⟨HW_bl, va_recv hK hP (ci := 14) (q0 := 0) rfl (hI.ob 0 (Nat.le_of_ble_eq_true rfl) rfl), (HW_wi hP hK (WX_D hD) hS hA hEV)⟩ rfl rfl hl.1 rfl (lv_room (Nat.le_of_ble_eq_true rfl)) dX13_sum_32 ⟨Nat.le_of_ble_eq_true rfl, Nat.le_of_ble_eq_true rfl⟩) (WX_D hD) hS hA (fun r82 E83 H locs hw hP hS => ?_)
            obtain ⟨hI, kq84, hw⟩ := hw
            have hKb := hKp
            have hKp := hKp.tr kq84 (wl_sub rfl rfl)
            obtain ⟨y85, ey85⟩ : ∃ y, xi (E83 0) 21 = y := ⟨_, rfl⟩
            have fy85 : xv (E83 0) 21 = .int y85 := (hI.fi 0 (Nat.le_of_ble_eq_true rfl) rfl (Nat.le_of_ble_eq_true rfl) rfl).trans (congrArg Value.int ey85)
            have iy85 : 0 ≤ y85.toInt ∧ y85.toInt ≤ 201 := by rw [← ey85]; exact hI.iv 0 (Nat.le_of_ble_eq_true rfl) rfl (Nat.le_of_ble_eq_true rfl) rfl
            obtain ⟨f86, f87, f88, f89⟩ := hw
            try rw [(show xi (E71 0) 21 = y73 from vi_e fy73)] at f87
            try rw [(show xi (E83 0) 21 = y85 from vi_e fy85)] at f87
            try rw [(show xi (E71 0) 21 = y73 from vi_e fy73)] at f88
            try rw [hKb.ei 0 20 rfl] at f88
            try rw [(show xi (E83 0) 21 = y85 from vi_e fy85)] at f88
            try rw [(show xi (E71 0) 21 = y73 from vi_e fy73)] at f89
            try rw [hKb.ei 0 20 rfl] at f89
            try rw [(show xi (E83 0) 21 = y85 from vi_e fy85)] at f89
            refine lv_bipush (v := 43) hx hb dX13_sum_35 (by decide) ?_
            have hJ45 : ∀ (s45_0 : Int32) (H : Heap) (locs : List Loc) (ls : Array Slot), 0 ≤ s45_0.toInt ∧ s45_0.toInt ≤ 1 → va_P (dC, dI) vwCl (WX 72 ad E83) H → va_S A s.heap H locs → lv_has ls 5 [(1, .int v5_1), (0, .ref (ad 0))] → W p l e (headSpec v_sum (rm_sum n)).room s m args below meth c H locs 0 0 Q (F0 m 45 ls [.int s45_0]) := by
              intro s45_0 H locs ls hs45_0 hP hS hl
              refine lv_istore_n (lv' := [(2, .int s45_0), (1, .int v5_1), (0, .ref (ad 0))]) hx hb dX13_sum_45 rfl hl (by decide) rfl (fun ls hl => ?_)
              refine lv_aload_n hx hb dX13_sum_46 rfl (lv_at hl 2 rfl) ?_
              refine lv_dup hx hb dX13_sum_47 rfl ?_
              refine th_get (ci := 14) (C := RX13) (T := TX13) (N := 97) (v := .int y85) hx hb hts hinX13 hown hK hP hI 0 (Nat.le_of_ble_eq_true rfl) rfl rfl 21 (Nat.le_of_ble_eq_true rfl) (hts _ (vA_in _ _ (in_25 _ (zs16 (zs16 (zs4 (zs0))))))) (fun _ h9 => h9) fy85 dX13_sum_48 ?_
              refine lv_iconst (v := 1) hx hb dX13_sum_51 (by decide) ?_
              refine lv_iadd hx hb dX13_sum_52 ?_
              refine lv_topi (fun y90 ey90 => ?_)
              obtain ⟨ty90, iy90⟩ := ti_add (e := 1) (f := 202) iy85 ln_1 ey90 (by decide)
              have ty90 : y90.toInt = y85.toInt + 1 := ty90
              have iy90 : 1 ≤ y90.toInt ∧ y90.toInt ≤ 202 := iy90
              have i91 : 1 ≤ y90.toInt ∧ y90.toInt ≤ 201 := by omega
              refine th_put (ci := 14) (C := RX13) (T := TX13) (N := 97) (v := .int y90) (ty := .int) hx hb hts hinX13 tyX13 tyX13_ok nmX13 hown hK hP (WX_D hD) hS hI 0 (Nat.le_of_ble_eq_true rfl) rfl rfl 21 (Nat.le_of_ble_eq_true rfl) (hts _ (vA_in _ _ (in_25 _ (zs16 (zs16 (zs4 (zs0))))))) (fun _ h9 => h9) rfl (by decide +kernel) rfl rfl (okI rfl (iv_w i91 (by decide))) dX13_sum_53 (fun H locs E92 pw93 hI hP hS => ?_)
              have hKp := hKp.pw pw93 rfl
              refine lv_aload_n hx hb dX13_sum_56 rfl (lv_at hl 2 rfl) ?_
              refine th_i (va_runV (As := []) (rest := []) ⟨hx, hb, hml, hown, hts⟩ (gT dC dI cT ad E92 H.size k nl hI (by exact hh0) (by exact hh1) (by exact hh2) (by exact (hKp 0 18 rfl).trans hh3) (by (try rw [hKp.ei 0 19 rfl]); exact hh4) (by (try rw [(show xi (E92 0) 23 = w5_0_23 from vi_e ((pw93.2 0 23 (fun q9 => absurd q9.2 (Nat.ne_of_beq_eq_false rfl))).trans ((kq84 0 23 rfl).trans ((kq72 0 23 rfl).trans ((kq23 0 23 rfl).trans hs5_0_23)))))]); omega)) (cwV 0 hts (gi_V (in_26 _ (zs16 (zs4 (zs4 (zs4 (zs0)))))) (in_26 _ (zs16 (zs4 (zs4 (zs4 (zs1 (zs0))))))) (in_26 _ (zs16 (zs4 (zs4 (zs4 (zs1 (zs1 (zs0)))))))) (in_24 _ (zs4 (zs4 (zs4 (zs1 (zs1 (zs1 (zs0)))))))) (in_27 _ (zs1 (zs1 (zs0))))) rfl rfl rfl (by decide +kernel) ⟨(show 7 * n + 6 + 1 ≤ 7 * n + 7 from nl_4 (Nat.le_of_ble_eq_true rfl) (Nat.le_of_ble_eq_true rfl)), (show 8 + (5 + 11) + 40 * (7 * n + 6) ≤ 40 * (7 * n + 7) from nl_3 (Nat.le_of_ble_eq_true rfl) (Nat.le_of_ble_eq_true rfl))⟩) ⟨HW_bl, va_recv hK hP (ci := 14) (q0 := 0) rfl (hI.ob 0 (Nat.le_of_ble_eq_true rfl) rfl), (HW_wi hP hK (WX_D hD) hS hA hEV)⟩ rfl rfl hl.1 rfl (lv_room (Nat.le_of_ble_eq_true rfl)) dX13_sum_57 ⟨Nat.le_of_ble_eq_true rfl, Nat.le_of_ble_eq_true rfl⟩) (WX_D hD) hS hA (fun r94 E95 H locs hw hP hS => ?_)
              obtain ⟨hI, kq96, hw⟩ := hw
              have hKb := hKp
              have hKp := hKp.tr kq96 (wl_sub rfl rfl)
              obtain ⟨y97, ey97⟩ : ∃ y, xi (E95 0) 21 = y := ⟨_, rfl⟩
              have fy97 : xv (E95 0) 21 = .int y97 := (hI.fi 0 (Nat.le_of_ble_eq_true rfl) rfl (Nat.le_of_ble_eq_true rfl) rfl).trans (congrArg Value.int ey97)
              have iy97 : 0 ≤ y97.toInt ∧ y97.toInt ≤ 201 := by rw [← ey97]; exact hI.iv 0 (Nat.le_of_ble_eq_true rfl) rfl (Nat.le_of_ble_eq_true rfl) rfl
              obtain ⟨y98, ey98⟩ : ∃ y, xi (E95 0) 22 = y := ⟨_, rfl⟩
              have fy98 : xv (E95 0) 22 = .int y98 := (hI.fi 0 (Nat.le_of_ble_eq_true rfl) rfl (Nat.le_of_ble_eq_true rfl) rfl).trans (congrArg Value.int ey98)
              have iy98 : -1 ≤ y98.toInt ∧ y98.toInt ≤ 201 := by rw [← ey98]; exact hI.iv 0 (Nat.le_of_ble_eq_true rfl) rfl (Nat.le_of_ble_eq_true rfl) rfl
              obtain ⟨y99, ey99⟩ : ∃ y, xi (E95 0) 23 = y := ⟨_, rfl⟩
              have fy99 : xv (E95 0) 23 = .int y99 := (hI.fi 0 (Nat.le_of_ble_eq_true rfl) rfl (Nat.le_of_ble_eq_true rfl) rfl).trans (congrArg Value.int ey99)
              have iy99 : 0 ≤ y99.toInt ∧ y99.toInt ≤ 8 := by rw [← ey99]; exact hI.iv 0 (Nat.le_of_ble_eq_true rfl) rfl (Nat.le_of_ble_eq_true rfl) rfl
              obtain ⟨f100, f101, f102, f103⟩ := hw
              try rw [(show xi (E92 0) 21 = y90 from vi_e pw93.1)] at f100
              try rw [(show xi (E95 0) 21 = y97 from vi_e fy97)] at f100
              try rw [(show xi (E92 0) 23 = w5_0_23 from vi_e ((pw93.2 0 23 (fun q9 => absurd q9.2 (Nat.ne_of_beq_eq_false rfl))).trans ((kq84 0 23 rfl).trans ((kq72 0 23 rfl).trans ((kq23 0 23 rfl).trans hs5_0_23)))))] at f101
              try rw [(show xi (E95 0) 23 = y99 from vi_e fy99)] at f101
              try rw [(show xi (E92 0) 22 = w5_0_22 from vi_e ((pw93.2 0 22 (fun q9 => absurd q9.2 (Nat.ne_of_beq_eq_false rfl))).trans ((kq84 0 22 rfl).trans ((kq72 0 22 rfl).trans ((kq23 0 22 rfl).trans hs5_0_22)))))] at f102
              try rw [(show xi (E92 0) 23 = w5_0_23 from vi_e ((pw93.2 0 23 (fun q9 => absurd q9.2 (Nat.ne_of_beq_eq_false rfl))).trans ((kq84 0 23 rfl).trans ((kq72 0 23 rfl).trans ((kq23 0 23 rfl).trans hs5_0_23)))))] at f102
              try rw [(show xi (E95 0) 22 = y98 from vi_e fy98)] at f102
              try rw [(show xi (E95 0) 23 = y99 from vi_e fy99)] at f102
              try rw [(show xi (E92 0) 22 = w5_0_22 from vi_e ((pw93.2 0 22 (fun q9 => absurd q9.2 (Nat.ne_of_beq_eq_false rfl))).trans ((kq84 0 22 rfl).trans ((kq72 0 22 rfl).trans ((kq23 0 22 rfl).trans hs5_0_22)))))] at f103
              try rw [(show xi (E95 0) 22 = y98 from vi_e fy98)] at f103
              refine lv_i2l hx hb dX13_sum_60 rfl ?_
              refine lv_topl (fun y104 ey104 => ?_)
              refine lv_lstore_n (lv' := [(3, .long y104), (2, .int s45_0), (1, .int v5_1), (0, .ref (ad 0))]) hx hb dX13_sum_61 rfl hl (by decide) rfl (fun ls hl => ?_)
              refine lv_iload_n hx hb dX13_sum_62 rfl (lv_at hl 1 rfl) ?_
              have hJ77 : ∀ (s77_0 : Int64) (H : Heap) (locs : List Loc) (ls : Array Slot), va_P (dC, dI) vwCl (WX 72 ad E95) H → va_S A s.heap H locs → lv_has ls 5 [(3, .long y104), (2, .int s45_0), (1, .int v5_1), (0, .ref (ad 0))] → W p l e (headSpec v_sum (rm_sum n)).room s m args below meth c H locs 0 0 Q (F0 m 77 ls [.long s77_0]) := by
                intro s77_0 H locs ls hP hS hl
                refine th_pi (va_runS (As := [.long s77_0]) (rest := []) ⟨hx, hb, hml, hown, hts⟩ (q_bound l s77_0) (va_cwS 1 hts (gi_S (in_26 _ (zs16 (zs4 (zs4 (zs4 (zs1 (zs1 (zs1 (zs0))))))))) (in_26 _ (zs16 (zs16 (zs0)))) (in_24 _ (zs4 (zs4 (zs4 (zs1 (zs1 (zs1 (zs0)))))))) (in_26 _ (zs16 (zs16 (zs1 (zs0)))))) rfl rfl rfl hz_yX13_bound_1 ⟨(show 1 + 1 ≤ 7 * n + 7 from nl_1 (Nat.le_of_ble_eq_true rfl)), (show 8 + (2 + 11) + 40 * (1) ≤ 40 * (7 * n + 7) from nl_2 (Nat.le_of_ble_eq_true rfl))⟩) ⟨fun _ _ _ _ q => q, fun _ _ _ => ⟨rfl, trivial⟩⟩ rfl rfl hl.1 rfl (lv_room (Nat.le_of_ble_eq_true rfl)) dX13_sum_77 ⟨Nat.le_of_ble_eq_true rfl, Nat.le_of_ble_eq_true rfl⟩) hS (fun r105 H1 locs1 hw hk1 hS => ?_)
                have hP := ub_keep hP hk1
                generalize H1 = H at hP hS ⊢
                generalize locs1 = locs at hS ⊢
                refine lv_istore_n (lv' := [(1, .int r105), (3, .long y104), (2, .int s45_0), (0, .ref (ad 0))]) hx hb dX13_sum_80 rfl hl (by decide) rfl (fun ls hl => ?_)
                refine lv_goto (tgt := 5) hx hb dX13_sum_81 (by decide) ?_
                exact ih5 y97 y98 y99 r105 E95 _ _ _ iy97 iy98 iy99 (by  first | exact (Int.le_trans (Int.le_trans (Int.le_trans (Int.le_trans (Int.le_trans hx5_0 f26) f75) f87) (Int.le_trans (Int.le_add_of_nonneg_right (by decide)) (Int.le_of_eq ty90.symm))) f100) | omega) (by  first | exact (Int.le_trans hx5_1 f101) | omega) (by  first | exact fun q9 => ((f102 (q9)).trans (hx5_2 (f103 (q9)))) | omega) (by  first | exact fun q9 => hx5_3 (f103 (q9)) | omega) (by omega) hI hKp fy97 fy98 fy99 hP hS (lv_sub hl [0, 3] rfl)
              refine lv_if_eq (tgt := 73) hx hb dX13_sum_63 (by decide) (fun c106 => ?_) (fun c106 => ?_)
              · --63 taken
                have t107 : s45_0.toInt = 0 := ti_eq c106
                have i108 : 0 ≤ s45_0.toInt ∧ s45_0.toInt ≤ 0 := iv_eqi t107 hs45_0 (il_ 0) (by decide)
                refine lv_iload_n hx hb dX13_sum_73 rfl (lv_at hl 2 rfl) ?_
                refine lv_i2l hx hb dX13_sum_74 rfl ?_
                refine lv_topl (fun y109 ey109 => ?_)
                refine lv_lload_n hx hb dX13_sum_75 rfl (lv_at hl 0 rfl) ?_
                refine lv_lsub hx hb dX13_sum_76 ?_
                refine lv_topl (fun y110 ey110 => ?_)
                exact hJ77 y110 _ _ _ hP hS (lv_sub hl [0, 1, 2, 3] rfl)
              · --63 not
                have t111 : ¬ s45_0.toInt = 0 := ti_ne c106
                have i112 : 1 ≤ s45_0.toInt ∧ s45_0.toInt ≤ 1 := iv_ne_l t111 hs45_0 (il_ 0)
                refine lv_iload_n hx hb dX13_sum_66 rfl (lv_at hl 2 rfl) ?_
                refine lv_i2l hx hb dX13_sum_67 rfl ?_
                refine lv_topl (fun y113 ey113 => ?_)
                refine lv_lload_n hx hb dX13_sum_68 rfl (lv_at hl 0 rfl) ?_
                refine lv_ladd hx hb dX13_sum_69 ?_
                refine lv_topl (fun y114 ey114 => ?_)
                refine lv_goto (tgt := 77) hx hb dX13_sum_70 (by decide) ?_
                exact hJ77 y114 _ _ _ hP hS (lv_sub hl [0, 1, 2, 3] rfl)
            refine lv_icmp_ne (tgt := 44) hx hb dX13_sum_37 (by decide) (fun c115 => ?_) (fun c115 => ?_)
            · --37 taken
              have t116 : ¬ r82.toInt = 43 := ti_ne c115
              refine lv_iconst (v := 0) hx hb dX13_sum_44 (by decide) ?_
              exact hJ45 (0 : Int32) _ _ _ (iv_w ln_0 (by decide)) hP hS (lv_sub hl [0, 1] rfl)
            · --37 not
              have t117 : r82.toInt = 43 := ti_eq c115
              have i118 : 43 ≤ r82.toInt ∧ r82.toInt ≤ 43 := iv_eqi t117 f86 (il_ 43) (by decide)
              refine lv_iconst (v := 1) hx hb dX13_sum_40 (by decide) ?_
              refine lv_goto (tgt := 45) hx hb dX13_sum_41 (by decide) ?_
              exact hJ45 (1 : Int32) _ _ _ (iv_w ln_1 (by decide)) hP hS (lv_sub hl [0, 1] rfl)
  exact hL5 (202) y7 y8 y9 r4 E5 _ _ _ iy7 iy8 iy9 (by  first | exact f10 | omega) (by  first | exact f11 | omega) (by  first | exact fun q9 => (f12 (q9)) | omega) (by  first | exact fun q9 => f13 (q9) | omega) (by have h9 := iy7; omega) hI hKp fy7 fy8 fy9 hP hS (lv_sub hl [0, 1] rfl)
set_option maxHeartbeats 4000000 in
set_option maxRecDepth 100000 in
theorem q_compares (l : Launch) (n : Nat) (gS : C_sum l n) : C_compares l n := by
  intro dC dI cT ad E sz a0 a1 k nl hI0 hh0 hh1 hh2 hh3 hh4 hh5 hh6
  refine Met.ofW (cc := cX13_compares) (maxL := 6) (ret := (some .boolean)) (by decide) rfl ?_
  intro p e s m args below meth c s₁ B hml hv
  obtain ⟨hargs, hsz, hP, hK, hD0, hEV⟩ := hv
  subst hsz
  have hx := B.exec
  have hb := B.bytes
  have hr := B.returns
  have hts := atoms_spec (ws := v_compares) B.pre
  have hown : s.vm.findClass RX13 = some m.cls := findClass_of_methodNamed B.named
  have hlocks := B.notSynchronized
  have hinX13 : ∀ w ∈ u_ws RX13 TX13 97, w ∈ v_compares := fun w h => vA_in _ w (in_X13 w h)
  generalize hAe : va_A (WX 72 ad E) s.heap.size = A at hEV ⊢
  have hA : ∀ q : Nat, s.heap.size ≤ q → A q := fun q h => by rw [← hAe]; exact Or.inr h
  have hD : va_D A (WX 72 ad E) := by rw [← hAe]; exact hD0.self
  have hS : va_S A s.heap s.heap [] := va_S.rf
  have hI := hI0
  have hKp : Kp w_compares E E := Kp.rf
  have hl := lv_entry ([.ref (ad 0), .int a0, .int a1]) (n := 6) (Nat.le_of_ble_eq_true rfl)
  obtain ⟨Q, hQ⟩ : ∃ Q, Q = MQ below (va_Qi (S := Nat → va_E) (fun r u => IX cT shM spM 72 ad u ∧ Kp w_compares E u ∧ ((0 ≤ r.toInt ∧ r.toInt ≤ 1) ∧ ((xi (E 0) 21).toInt ≤ (xi (u 0) 21).toInt) ∧ ((xi (E 0) 23).toInt ≤ (xi (u 0) 23).toInt) ∧ ((xi (u 0) 22).toInt = -1 → (xi (u 0) 23).toInt = (xi (E 0) 23).toInt) ∧ ((xi (u 0) 22).toInt = -1 → (xi (E 0) 22).toInt = -1))) (HB dC dI 72 ad) (A)) args s 0 0 (A) := ⟨_, rfl⟩
  rw [← hQ, show entryFrame m args 6 = _ from (congrArg (fun z => entryFrame m z 6) hargs).trans (lg_entry_eq _ _ _)]
  generalize (lg_sl ([.ref (ad 0), .int a0, .int a1]) ++ List.replicate (6 - (lg_sl ([.ref (ad 0), .int a0, .int a1])).length) Slot.unset).toArray = ls at hl ⊢
  have hl : lv_has ls 6 [(0, .ref (ad 0)), (1, .int a0), (2, .int a1)] := hl
  obtain ⟨y1, ey1⟩ : ∃ y, xi (E 0) 21 = y := ⟨_, rfl⟩
  have fy1 : xv (E 0) 21 = .int y1 := (hI.fi 0 (Nat.le_of_ble_eq_true rfl) rfl (Nat.le_of_ble_eq_true rfl) rfl).trans (congrArg Value.int ey1)
  have iy1 : 0 ≤ y1.toInt ∧ y1.toInt ≤ 201 := by rw [← ey1]; exact hI.iv 0 (Nat.le_of_ble_eq_true rfl) rfl (Nat.le_of_ble_eq_true rfl) rfl
  obtain ⟨y2, ey2⟩ : ∃ y, xi (E 0) 22 = y := ⟨_, rfl⟩
  have fy2 : xv (E 0) 22 = .int y2 := (hI.fi 0 (Nat.le_of_ble_eq_true rfl) rfl (Nat.le_of_ble_eq_true rfl) rfl).trans (congrArg Value.int ey2)
  have iy2 : -1 ≤ y2.toInt ∧ y2.toInt ≤ 201 := by rw [← ey2]; exact hI.iv 0 (Nat.le_of_ble_eq_true rfl) rfl (Nat.le_of_ble_eq_true rfl) rfl
  obtain ⟨y3, ey3⟩ : ∃ y, xi (E 0) 23 = y := ⟨_, rfl⟩
  have fy3 : xv (E 0) 23 = .int y3 := (hI.fi 0 (Nat.le_of_ble_eq_true rfl) rfl (Nat.le_of_ble_eq_true rfl) rfl).trans (congrArg Value.int ey3)
  have iy3 : 0 ≤ y3.toInt ∧ y3.toInt ≤ 8 := by rw [← ey3]; exact hI.iv 0 (Nat.le_of_ble_eq_true rfl) rfl (Nat.le_of_ble_eq_true rfl) rfl
  rw [ey3] at hh5
  refine lv_iload_n hx hb dX13_compares_0 rfl (lv_at hl 1 rfl) ?_
  have hJ12 : ∀ (s12_0 : Int32) (w12_0_21 : Int32) (w12_0_22 : Int32) (w12_0_23 : Int32) (E12_ : Nat → va_E) (H : Heap) (locs : List Loc) (ls : Array Slot), 0 ≤ w12_0_21.toInt ∧ w12_0_21.toInt ≤ 201 → -1 ≤ w12_0_22.toInt ∧ w12_0_22.toInt ≤ 201 → 0 ≤ w12_0_23.toInt ∧ w12_0_23.toInt ≤ 8 → y1.toInt ≤ w12_0_21.toInt → y3.toInt ≤ w12_0_23.toInt → (w12_0_22.toInt = -1 → w12_0_23.toInt = y3.toInt) → (w12_0_22.toInt = -1 → y2.toInt = -1) → IX cT shM spM 72 ad E12_ → Kp w_compares E E12_ → xv (E12_ 0) 21 = .int w12_0_21 → xv (E12_ 0) 22 = .int w12_0_22 → xv (E12_ 0) 23 = .int w12_0_23 → va_P (dC, dI) vwCl (WX 72 ad E12_) H → va_S A s.heap H locs → lv_has ls 6 [(0, .ref (ad 0)), (1, .int a0), (2, .int a1)] → W p l e (headSpec v_compares (rm_compares n)).room s m args below meth c H locs 0 0 Q (F0 m 12 ls [.int s12_0]) := by
    intro s12_0 w12_0_21 w12_0_22 w12_0_23 E12_ H locs ls hw12_0_21 hw12_0_22 hw12_0_23 hx12_0 hx12_1 hx12_2 hx12_3 hI hKp hs12_0_21 hs12_0_22 hs12_0_23 hP hS hl
    refine lv_istore_n (lv' := [(3, .int s12_0), (0, .ref (ad 0)), (1, .int a0), (2, .int a1)]) hx hb dX13_compares_12 rfl hl (by decide) rfl (fun ls hl => ?_)
    refine lv_aload_n hx hb dX13_compares_13 rfl (lv_at hl 1 rfl) ?_
    refine th_get (ci := 14) (C := RX13) (T := TX13) (N := 97) (v := .int w12_0_22) hx hb hts hinX13 hown hK hP hI 0 (Nat.le_of_ble_eq_true rfl) rfl rfl 22 (Nat.le_of_ble_eq_true rfl) (hts _ (vA_in _ _ (in_25 _ (zs16 (zs16 (zs4 (zs1 (zs1 (zs1 (zs0)))))))))) (fun _ h9 => h9) hs12_0_22 dX13_compares_14 ?_
    refine lv_iconst (v := -1) hx hb dX13_compares_17 (by decide) ?_
    refine lv_icmp_eq (tgt := 23) hx hb dX13_compares_18 (by decide) (fun c4 => ?_) (fun c4 => ?_)
    · --18 taken
      have t5 : w12_0_22.toInt = -1 := ti_eq c4
      have i6 : -1 ≤ w12_0_22.toInt ∧ w12_0_22.toInt ≤ -1 := iv_eqi t5 hw12_0_22 (il_ (-1)) (by decide)
      refine lv_aload_n hx hb dX13_compares_23 rfl (lv_at hl 1 rfl) ?_
      refine th_i (va_runV (As := []) (rest := []) ⟨hx, hb, hml, hown, hts⟩ (q_look l dC dI cT ad E12_ H.size k nl hI (by exact hh0) (by exact hh1) (by exact hh2) (by exact (hKp 0 18 rfl).trans hh3) (by (try rw [hKp.ei 0 19 rfl]); exact hh4)) (cwV 0 hts (gi_V (in_26 _ (zs1 (zs1 (zs0)))) (in_26 _ (zs1 (zs1 (zs1 (zs0))))) (in_26 _ (zs4 (zs0))) (in_24 _ (zs4 (zs4 (zs4 (zs1 (zs1 (zs1 (zs0)))))))) (in_26 _ (zs4 (zs1 (zs0))))) rfl rfl rfl ⟨rfl, hz_yX13_look_0⟩ ⟨(show 0 + 1 ≤ 7 * n + 8 from nl_1 (Nat.le_of_ble_eq_true rfl)), (show 8 + (1 + 11) + 40 * (0) ≤ 40 * (7 * n + 8) from nl_2 (Nat.le_of_ble_eq_true rfl))⟩) ⟨HW_bl, va_recv hK hP (ci := 14) (q0 := 0) rfl (hI.ob 0 (Nat.le_of_ble_eq_true rfl) rfl), (HW_wi hP hK (WX_D hD) hS hA hEV)⟩ rfl rfl hl.1 rfl (lv_room (Nat.le_of_ble_eq_true rfl)) dX13_compares_24 ⟨Nat.le_of_ble_eq_true rfl, Nat.le_of_ble_eq_true rfl⟩) (WX_D hD) hS hA (fun r7 E8 H locs hw hP hS => ?_)
      obtain ⟨hI, kq9, hw⟩ := hw
      have hKb := hKp
      have hKp := hKp.tr kq9 (wl_sub rfl rfl)
      obtain ⟨y10, ey10⟩ : ∃ y, xi (E8 0) 21 = y := ⟨_, rfl⟩
      have fy10 : xv (E8 0) 21 = .int y10 := (hI.fi 0 (Nat.le_of_ble_eq_true rfl) rfl (Nat.le_of_ble_eq_true rfl) rfl).trans (congrArg Value.int ey10)
      have iy10 : 0 ≤ y10.toInt ∧ y10.toInt ≤ 201 := by rw [← ey10]; exact hI.iv 0 (Nat.le_of_ble_eq_true rfl) rfl (Nat.le_of_ble_eq_true rfl) rfl
      obtain ⟨f11, f12, f13, f14⟩ := hw
      have i15 : 0 ≤ (xi (E 0) 19).toInt ∧ (xi (E 0) 19).toInt ≤ 3000 := (show 0 ≤ (xi (E 0) 19).toInt ∧ (xi (E 0) 19).toInt ≤ 3000 from hI0.iv 0 (Nat.le_of_ble_eq_true rfl) rfl (Nat.le_of_ble_eq_true rfl) rfl)
      have i16 : 0 ≤ (xi (E 0) 20).toInt ∧ (xi (E 0) 20).toInt ≤ 200 := (show 0 ≤ (xi (E 0) 20).toInt ∧ (xi (E 0) 20).toInt ≤ 200 from hI0.iv 0 (Nat.le_of_ble_eq_true rfl) rfl (Nat.le_of_ble_eq_true rfl) rfl)
      try rw [(show xi (E12_ 0) 21 = w12_0_21 from vi_e hs12_0_21)] at f12
      try rw [(show xi (E8 0) 21 = y10 from vi_e fy10)] at f12
      try rw [(show xi (E12_ 0) 21 = w12_0_21 from vi_e hs12_0_21)] at f13
      try rw [hKb.ei 0 20 rfl] at f13
      try rw [(show xi (E8 0) 21 = y10 from vi_e fy10)] at f13
      try rw [(show xi (E12_ 0) 21 = w12_0_21 from vi_e hs12_0_21)] at f14
      try rw [hKb.ei 0 20 rfl] at f14
      try rw [(show xi (E8 0) 21 = y10 from vi_e fy10)] at f14
      refine lv_istore (lv' := [(4, .int r7), (3, .int s12_0), (0, .ref (ad 0)), (1, .int a0), (2, .int a1)]) hx hb dX13_compares_27 hl (by decide) rfl (fun ls hl => ?_)
      refine lv_iload hx hb dX13_compares_29 (lv_at hl 0 rfl) ?_
      refine th_pi (va_runS (As := [.int r7]) (rest := []) ⟨hx, hb, hml, hown, hts⟩ (q_isSign_ l r7) (va_cwS 1 hts (gi_S (in_29 _ (zs16 (zs4 (zs4 (zs4 (zs1 (zs1 (zs0)))))))) (in_29 _ (zs16 (zs4 (zs4 (zs4 (zs1 (zs1 (zs1 (zs0))))))))) (in_24 _ (zs4 (zs4 (zs4 (zs1 (zs1 (zs1 (zs0)))))))) (in_29 _ (zs16 (zs16 (zs0))))) rfl rfl rfl hz_yX13_isSign_1 ⟨(show 0 + 1 ≤ 7 * n + 8 from nl_1 (Nat.le_of_ble_eq_true rfl)), (show 8 + (1 + 11) + 40 * (0) ≤ 40 * (7 * n + 8) from nl_2 (Nat.le_of_ble_eq_true rfl))⟩) ⟨fun _ _ _ _ q => q, fun _ _ _ => ⟨rfl, trivial⟩⟩ rfl rfl hl.1 rfl (lv_room (Nat.le_of_ble_eq_true rfl)) dX13_compares_31 ⟨Nat.le_of_ble_eq_true rfl, Nat.le_of_ble_eq_true rfl⟩) hS (fun r17 H1 locs1 hw hk1 hS => ?_)
      have hP := ub_keep hP hk1
      generalize H1 = H at hP hS ⊢
      generalize locs1 = locs at hS ⊢
      rcases hw with hw | hw
      · -- isSign_, case 0
        obtain ⟨rfl, f18⟩ := hw
        refine lv_if_ne (tgt := 42) hx hb dX13_compares_34 (by decide) (fun c19 => ?_) (fun c19 => ?_)
        · --34 taken
          refine lv_aload_n hx hb dX13_compares_42 rfl (lv_at hl 2 rfl) ?_
          refine lv_dup hx hb dX13_compares_43 rfl ?_
          refine th_get (ci := 14) (C := RX13) (T := TX13) (N := 97) (v := .int y10) hx hb hts hinX13 hown hK hP hI 0 (Nat.le_of_ble_eq_true rfl) rfl rfl 21 (Nat.le_of_ble_eq_true rfl) (hts _ (vA_in _ _ (in_25 _ (zs16 (zs16 (zs4 (zs0))))))) (fun _ h9 => h9) fy10 dX13_compares_44 ?_
          refine lv_iconst (v := 1) hx hb dX13_compares_47 (by decide) ?_
          refine lv_iadd hx hb dX13_compares_48 ?_
          refine lv_topi (fun y20 ey20 => ?_)
          obtain ⟨ty20, iy20⟩ := ti_add (e := 1) (f := 202) iy10 ln_1 ey20 (by decide)
          have ty20 : y20.toInt = y10.toInt + 1 := ty20
          have iy20 : 1 ≤ y20.toInt ∧ y20.toInt ≤ 202 := iy20
          have i21 : 1 ≤ y20.toInt ∧ y20.toInt ≤ 201 := by omega
          refine th_put (ci := 14) (C := RX13) (T := TX13) (N := 97) (v := .int y20) (ty := .int) hx hb hts hinX13 tyX13 tyX13_ok nmX13 hown hK hP (WX_D hD) hS hI 0 (Nat.le_of_ble_eq_true rfl) rfl rfl 21 (Nat.le_of_ble_eq_true rfl) (hts _ (vA_in _ _ (in_25 _ (zs16 (zs16 (zs4 (zs0))))))) (fun _ h9 => h9) rfl (by decide +kernel) rfl rfl (okI rfl (iv_w i21 (by decide))) dX13_compares_49 (fun H locs E22 pw23 hI hP hS => ?_)
          have hKp := hKp.pw pw23 rfl
          refine lv_aload_n hx hb dX13_compares_52 rfl (lv_at hl 2 rfl) ?_
          refine th_i (va_runV (As := []) (rest := []) ⟨hx, hb, hml, hown, hts⟩ (gS dC dI cT ad E22 H.size k nl hI (by exact hh0) (by exact hh1) (by exact hh2) (by exact (hKp 0 18 rfl).trans hh3) (by (try rw [hKp.ei 0 19 rfl]); exact hh4) (by (try rw [(show xi (E22 0) 23 = w12_0_23 from vi_e ((pw23.2 0 23 (fun q9 => absurd q9.2 (Nat.ne_of_beq_eq_false rfl))).trans ((kq9 0 23 rfl).trans hs12_0_23)))]); omega)) (cwV 0 hts (gi_V (in_26 _ (zs16 (zs0))) (in_26 _ (zs16 (zs1 (zs0)))) (in_26 _ (zs16 (zs1 (zs1 (zs0))))) (in_24 _ (zs4 (zs4 (zs4 (zs1 (zs1 (zs1 (zs0)))))))) (in_26 _ (zs16 (zs4 (zs4 (zs1 (zs1 (zs1 (zs0))))))))) rfl rfl rfl (by decide +kernel) ⟨(show 7 * n + 7 + 1 ≤ 7 * n + 8 from nl_4 (Nat.le_of_ble_eq_true rfl) (Nat.le_of_ble_eq_true rfl)), (show 8 + (5 + 11) + 40 * (7 * n + 7) ≤ 40 * (7 * n + 8) from nl_3 (Nat.le_of_ble_eq_true rfl) (Nat.le_of_ble_eq_true rfl))⟩) ⟨HW_bl, va_recv hK hP (ci := 14) (q0 := 0) rfl (hI.ob 0 (Nat.le_of_ble_eq_true rfl) rfl), (HW_wi hP hK (WX_D hD) hS hA hEV)⟩ rfl rfl hl.1 rfl (lv_room (Nat.le_of_ble_eq_true rfl)) dX13_compares_53 ⟨Nat.le_of_ble_eq_true rfl, Nat.le_of_ble_eq_true rfl⟩) (WX_D hD) hS hA (fun r24 E25 H locs hw hP hS => ?_)
          obtain ⟨hI, kq26, hw⟩ := hw
          have hKb := hKp
          have hKp := hKp.tr kq26 (wl_sub rfl rfl)
          obtain ⟨y27, ey27⟩ : ∃ y, xi (E25 0) 21 = y := ⟨_, rfl⟩
          have fy27 : xv (E25 0) 21 = .int y27 := (hI.fi 0 (Nat.le_of_ble_eq_true rfl) rfl (Nat.le_of_ble_eq_true rfl) rfl).trans (congrArg Value.int ey27)
          have iy27 : 0 ≤ y27.toInt ∧ y27.toInt ≤ 201 := by rw [← ey27]; exact hI.iv 0 (Nat.le_of_ble_eq_true rfl) rfl (Nat.le_of_ble_eq_true rfl) rfl
          obtain ⟨y28, ey28⟩ : ∃ y, xi (E25 0) 22 = y := ⟨_, rfl⟩
          have fy28 : xv (E25 0) 22 = .int y28 := (hI.fi 0 (Nat.le_of_ble_eq_true rfl) rfl (Nat.le_of_ble_eq_true rfl) rfl).trans (congrArg Value.int ey28)
          have iy28 : -1 ≤ y28.toInt ∧ y28.toInt ≤ 201 := by rw [← ey28]; exact hI.iv 0 (Nat.le_of_ble_eq_true rfl) rfl (Nat.le_of_ble_eq_true rfl) rfl
          obtain ⟨y29, ey29⟩ : ∃ y, xi (E25 0) 23 = y := ⟨_, rfl⟩
          have fy29 : xv (E25 0) 23 = .int y29 := (hI.fi 0 (Nat.le_of_ble_eq_true rfl) rfl (Nat.le_of_ble_eq_true rfl) rfl).trans (congrArg Value.int ey29)
          have iy29 : 0 ≤ y29.toInt ∧ y29.toInt ≤ 8 := by rw [← ey29]; exact hI.iv 0 (Nat.le_of_ble_eq_true rfl) rfl (Nat.le_of_ble_eq_true rfl) rfl
          obtain ⟨f30, f31, f32, f33⟩ := hw
          try rw [(show xi (E22 0) 21 = y20 from vi_e pw23.1)] at f30
          try rw [(show xi (E25 0) 21 = y27 from vi_e fy27)] at f30
          try rw [(show xi (E22 0) 23 = w12_0_23 from vi_e ((pw23.2 0 23 (fun q9 => absurd q9.2 (Nat.ne_of_beq_eq_false rfl))).trans ((kq9 0 23 rfl).trans hs12_0_23)))] at f31
          try rw [(show xi (E25 0) 23 = y29 from vi_e fy29)] at f31
          try rw [(show xi (E22 0) 22 = w12_0_22 from vi_e ((pw23.2 0 22 (fun q9 => absurd q9.2 (Nat.ne_of_beq_eq_false rfl))).trans ((kq9 0 22 rfl).trans hs12_0_22)))] at f32
          try rw [(show xi (E22 0) 23 = w12_0_23 from vi_e ((pw23.2 0 23 (fun q9 => absurd q9.2 (Nat.ne_of_beq_eq_false rfl))).trans ((kq9 0 23 rfl).trans hs12_0_23)))] at f32
          try rw [(show xi (E25 0) 22 = y28 from vi_e fy28)] at f32
          try rw [(show xi (E25 0) 23 = y29 from vi_e fy29)] at f32
          try rw [(show xi (E22 0) 22 = w12_0_22 from vi_e ((pw23.2 0 22 (fun q9 => absurd q9.2 (Nat.ne_of_beq_eq_false rfl))).trans ((kq9 0 22 rfl).trans hs12_0_22)))] at f33
          try rw [(show xi (E25 0) 22 = y28 from vi_e fy28)] at f33
          refine lv_istore (lv' := [(5, .int r24), (4, .int r7), (3, .int s12_0), (0, .ref (ad 0)), (1, .int a0), (2, .int a1)]) hx hb dX13_compares_56 hl (by decide) rfl (fun ls hl => ?_)
          refine lv_iload hx hb dX13_compares_58 (lv_at hl 1 rfl) ?_
          refine lv_bipush (v := 61) hx hb dX13_compares_60 (by decide) ?_
          refine lv_icmp_ne (tgt := 79) hx hb dX13_compares_62 (by decide) (fun c34 => ?_) (fun c34 => ?_)
          · --62 taken
            have t35 : ¬ r7.toInt = 61 := ti_ne c34
            refine lv_iload hx hb dX13_compares_79 (lv_at hl 1 rfl) ?_
            refine lv_bipush (v := 60) hx hb dX13_compares_81 (by decide) ?_
            refine lv_icmp_ne (tgt := 100) hx hb dX13_compares_83 (by decide) (fun c36 => ?_) (fun c36 => ?_)
            · --83 taken
              have t37 : ¬ r7.toInt = 60 := ti_ne c36
              have i38 : 61 ≤ r7.toInt ∧ r7.toInt ≤ 62 := iv_ne_l t37 f18 (il_ 60)
              refine lv_iload_n hx hb dX13_compares_100 rfl (lv_at hl 2 rfl) ?_
              refine lv_iload hx hb dX13_compares_101 (lv_at hl 0 rfl) ?_
              refine lv_icmp_le (tgt := 110) hx hb dX13_compares_103 (by decide) (fun c39 => ?_) (fun c39 => ?_)
              · --103 taken
                have t40 : s12_0.toInt ≤ r24.toInt := ti_le c39
                refine lv_iconst (v := 0) hx hb dX13_compares_110 (by decide) ?_
                rw [hQ]
                exact W.zret (v := 0) hx hb hr rfl (fun t ht hW => ⟨⟨0, E25, rfl, ⟨hI, hKp, ⟨(iv_w ln_0 (by decide)), by (try rw [(show xi (E25 0) 21 = y27 from vi_e fy27)]); (try rw [ey1]); first | done | exact (Int.le_trans (Int.le_trans (Int.le_trans hx12_0 f12) (Int.le_trans (Int.le_add_of_nonneg_right (by decide)) (Int.le_of_eq ty20.symm))) f30) | have h8 := ln_0; all_goals omega, by (try rw [(show xi (E25 0) 23 = y29 from vi_e fy29)]); (try rw [ey3]); first | done | exact (Int.le_trans hx12_1 f31) | have h8 := ln_0; all_goals omega, by (try rw [(show xi (E25 0) 22 = y28 from vi_e fy28)]); (try rw [(show xi (E25 0) 23 = y29 from vi_e fy29)]); (try rw [ey2]); (try rw [ey3]); first | done | exact fun q9 => ((f32 (q9)).trans (hx12_2 (f33 (q9)))) | have h8 := ln_0; all_goals omega, by (try rw [(show xi (E25 0) 22 = y28 from vi_e fy28)]); (try rw [ey2]); first | done | exact fun q9 => hx12_3 (f33 (q9)) | have h8 := ln_0; all_goals omega⟩⟩, by show va_P (dC, dI) vwCl (WX 72 ad E25) t.heap; rw [ht]; exact hP⟩, hS.F ht⟩) hS.2.2 dX13_compares_111
              · --103 not
                have t41 : r24.toInt < s12_0.toInt := ti_nle c39
                have i42 : -2147483648 ≤ r24.toInt ∧ r24.toInt ≤ 2147483646 := iv_lt_l t41 (iv_all _) (iv_all _) (by decide)
                have i43 : -2147483647 ≤ s12_0.toInt ∧ s12_0.toInt ≤ 2147483647 := iv_lt_r t41 (iv_all _) (iv_all _) (by decide)
                refine lv_iconst (v := 1) hx hb dX13_compares_106 (by decide) ?_
                refine lv_goto (tgt := 111) hx hb dX13_compares_107 (by decide) ?_
                rw [hQ]
                exact W.zret (v := 1) hx hb hr rfl (fun t ht hW => ⟨⟨1, E25, rfl, ⟨hI, hKp, ⟨(iv_w ln_1 (by decide)), by (try rw [(show xi (E25 0) 21 = y27 from vi_e fy27)]); (try rw [ey1]); first | done | exact (Int.le_trans (Int.le_trans (Int.le_trans hx12_0 f12) (Int.le_trans (Int.le_add_of_nonneg_right (by decide)) (Int.le_of_eq ty20.symm))) f30) | have h8 := ln_1; all_goals omega, by (try rw [(show xi (E25 0) 23 = y29 from vi_e fy29)]); (try rw [ey3]); first | done | exact (Int.le_trans hx12_1 f31) | have h8 := ln_1; all_goals omega, by (try rw [(show xi (E25 0) 22 = y28 from vi_e fy28)]); (try rw [(show xi (E25 0) 23 = y29 from vi_e fy29)]); (try rw [ey2]); (try rw [ey3]); first | done | exact fun q9 => ((f32 (q9)).trans (hx12_2 (f33 (q9)))) | have h8 := ln_1; all_goals omega, by (try rw [(show xi (E25 0) 22 = y28 from vi_e fy28)]); (try rw [ey2]); first | done | exact fun q9 => hx12_3 (f33 (q9)) | have h8 := ln_1; all_goals omega⟩⟩, by show va_P (dC, dI) vwCl (WX 72 ad E25) t.heap; rw [ht]; exact hP⟩, hS.F ht⟩) hS.2.2 dX13_compares_111
            · --83 not
              have t44 : r7.toInt = 60 := ti_eq c36
              have i45 : 60 ≤ r7.toInt ∧ r7.toInt ≤ 60 := iv_eqi t44 f18 (il_ 60) (by decide)
              refine lv_iload_n hx hb dX13_compares_86 rfl (lv_at hl 2 rfl) ?_
              refine lv_iload hx hb dX13_compares_87 (lv_at hl 0 rfl) ?_
              refine lv_icmp_ge (tgt := 96) hx hb dX13_compares_89 (by decide) (fun c46 => ?_) (fun c46 => ?_)
              · --89 taken
                have t47 : r24.toInt ≤ s12_0.toInt := ti_le c46
                refine lv_iconst (v := 0) hx hb dX13_compares_96 (by decide) ?_
                refine lv_goto (tgt := 111) hx hb dX13_compares_97 (by decide) ?_
                rw [hQ]
                exact W.zret (v := 0) hx hb hr rfl (fun t ht hW => ⟨⟨0, E25, rfl, ⟨hI, hKp, ⟨(iv_w ln_0 (by decide)), by (try rw [(show xi (E25 0) 21 = y27 from vi_e fy27)]); (try rw [ey1]); first | done | exact (Int.le_trans (Int.le_trans (Int.le_trans hx12_0 f12) (Int.le_trans (Int.le_add_of_nonneg_right (by decide)) (Int.le_of_eq ty20.symm))) f30) | have h8 := ln_0; all_goals omega, by (try rw [(show xi (E25 0) 23 = y29 from vi_e fy29)]); (try rw [ey3]); first | done | exact (Int.le_trans hx12_1 f31) | have h8 := ln_0; all_goals omega, by (try rw [(show xi (E25 0) 22 = y28 from vi_e fy28)]); (try rw [(show xi (E25 0) 23 = y29 from vi_e fy29)]); (try rw [ey2]); (try rw [ey3]); first | done | exact fun q9 => ((f32 (q9)).trans (hx12_2 (f33 (q9)))) | have h8 := ln_0; all_goals omega, by (try rw [(show xi (E25 0) 22 = y28 from vi_e fy28)]); (try rw [ey2]); first | done | exact fun q9 => hx12_3 (f33 (q9)) | have h8 := ln_0; all_goals omega⟩⟩, by show va_P (dC, dI) vwCl (WX 72 ad E25) t.heap; rw [ht]; exact hP⟩, hS.F ht⟩) hS.2.2 dX13_compares_111
              · --89 not
                have t48 : s12_0.toInt < r24.toInt := ti_nle c46
                have i49 : -2147483648 ≤ s12_0.toInt ∧ s12_0.toInt ≤ 2147483646 := iv_lt_l t48 (iv_all _) (iv_all _) (by decide)
                have i50 : -2147483647 ≤ r24.toInt ∧ r24.toInt ≤ 2147483647 := iv_lt_r t48 (iv_all _) (iv_all _) (by decide)
                refine lv_iconst (v := 1) hx hb dX13_compares_92 (by decide) ?_
                refine lv_goto (tgt := 111) hx hb dX13_compares_93 (by decide) ?_
                rw [hQ]
                exact W.zret (v := 1) hx hb hr rfl (fun t ht hW => ⟨⟨1, E25, rfl, ⟨hI, hKp, ⟨(iv_w ln_1 (by decide)), by (try rw [(show xi (E25 0) 21 = y27 from vi_e fy27)]); (try rw [ey1]); first | done | exact (Int.le_trans (Int.le_trans (Int.le_trans hx12_0 f12) (Int.le_trans (Int.le_add_of_nonneg_right (by decide)) (Int.le_of_eq ty20.symm))) f30) | have h8 := ln_1; all_goals omega, by (try rw [(show xi (E25 0) 23 = y29 from vi_e fy29)]); (try rw [ey3]); first | done | exact (Int.le_trans hx12_1 f31) | have h8 := ln_1; all_goals omega, by (try rw [(show xi (E25 0) 22 = y28 from vi_e fy28)]); (try rw [(show xi (E25 0) 23 = y29 from vi_e fy29)]); (try rw [ey2]); (try rw [ey3]); first | done | exact fun q9 => ((f32 (q9)).trans (hx12_2 (f33 (q9)))) | have h8 := ln_1; all_goals omega, by (try rw [(show xi (E25 0) 22 = y28 from vi_e fy28)]); (try rw [ey2]); first | done | exact fun q9 => hx12_3 (f33 (q9)) | have h8 := ln_1; all_goals omega⟩⟩, by show va_P (dC, dI) vwCl (WX 72 ad E25) t.heap; rw [ht]; exact hP⟩, hS.F ht⟩) hS.2.2 dX13_compares_111
          · --62 not
            have t51 : r7.toInt = 61 := ti_eq c34
            have i52 : 61 ≤ r7.toInt ∧ r7.toInt ≤ 61 := iv_eqi t51 f18 (il_ 61) (by decide)
            refine lv_iload_n hx hb dX13_compares_65 rfl (lv_at hl 2 rfl) ?_
            refine lv_iload hx hb dX13_compares_66 (lv_at hl 0 rfl) ?_
            refine lv_icmp_ne (tgt := 75) hx hb dX13_compares_68 (by decide) (fun c53 => ?_) (fun c53 => ?_)
            · --68 taken
              have t54 : ¬ s12_0.toInt = r24.toInt := ti_ne c53
              refine lv_iconst (v := 0) hx hb dX13_compares_75 (by decide) ?_
              refine lv_goto (tgt := 111) hx hb dX13_compares_76 (by decide) ?_
              rw [hQ]
              exact W.zret (v := 0) hx hb hr rfl (fun t ht hW => ⟨⟨0, E25, rfl, ⟨hI, hKp, ⟨(iv_w ln_0 (by decide)), by (try rw [(show xi (E25 0) 21 = y27 from vi_e fy27)]); (try rw [ey1]); first | done | exact (Int.le_trans (Int.le_trans (Int.le_trans hx12_0 f12) (Int.le_trans (Int.le_add_of_nonneg_right (by decide)) (Int.le_of_eq ty20.symm))) f30) | have h8 := ln_0; all_goals omega, by (try rw [(show xi (E25 0) 23 = y29 from vi_e fy29)]); (try rw [ey3]); first | done | exact (Int.le_trans hx12_1 f31) | have h8 := ln_0; all_goals omega, by (try rw [(show xi (E25 0) 22 = y28 from vi_e fy28)]); (try rw [(show xi (E25 0) 23 = y29 from vi_e fy29)]); (try rw [ey2]); (try rw [ey3]); first | done | exact fun q9 => ((f32 (q9)).trans (hx12_2 (f33 (q9)))) | have h8 := ln_0; all_goals omega, by (try rw [(show xi (E25 0) 22 = y28 from vi_e fy28)]); (try rw [ey2]); first | done | exact fun q9 => hx12_3 (f33 (q9)) | have h8 := ln_0; all_goals omega⟩⟩, by show va_P (dC, dI) vwCl (WX 72 ad E25) t.heap; rw [ht]; exact hP⟩, hS.F ht⟩) hS.2.2 dX13_compares_111
            · --68 not
              have t55 : s12_0.toInt = r24.toInt := ti_eq c53
              refine lv_iconst (v := 1) hx hb dX13_compares_71 (by decide) ?_
              refine lv_goto (tgt := 111) hx hb dX13_compares_72 (by decide) ?_
              rw [hQ]
              exact W.zret (v := 1) hx hb hr rfl (fun t ht hW => ⟨⟨1, E25, rfl, ⟨hI, hKp, ⟨(iv_w ln_1 (by decide)), by (try rw [(show xi (E25 0) 21 = y27 from vi_e fy27)]); (try rw [ey1]); first | done | exact (Int.le_trans (Int.le_trans (Int.le_trans hx12_0 f12) (Int.le_trans (Int.le_add_of_nonneg_right (by decide)) (Int.le_of_eq ty20.symm))) f30) | have h8 := ln_1; all_goals omega, by (try rw [(show xi (E25 0) 23 = y29 from vi_e fy29)]); (try rw [ey3]); first | done | exact (Int.le_trans hx12_1 f31) | have h8 := ln_1; all_goals omega, by (try rw [(show xi (E25 0) 22 = y28 from vi_e fy28)]); (try rw [(show xi (E25 0) 23 = y29 from vi_e fy29)]); (try rw [ey2]); (try rw [ey3]); first | done | exact fun q9 => ((f32 (q9)).trans (hx12_2 (f33 (q9)))) | have h8 := ln_1; all_goals omega, by (try rw [(show xi (E25 0) 22 = y28 from vi_e fy28)]); (try rw [ey2]); first | done | exact fun q9 => hx12_3 (f33 (q9)) | have h8 := ln_1; all_goals omega⟩⟩, by show va_P (dC, dI) vwCl (WX 72 ad E25) t.heap; rw [ht]; exact hP⟩, hS.F ht⟩) hS.2.2 dX13_compares_111
        · --34 not
          exact absurd c19 (by decide)
      · -- isSign_, case 1
        obtain rfl := hw
        refine lv_if_ne (tgt := 42) hx hb dX13_compares_34 (by decide) (fun c56 => ?_) (fun c56 => ?_)
        · --34 taken
          exact absurd c56 (by decide)
        · --34 not
          refine lv_aload_n hx hb dX13_compares_37 rfl (lv_at hl 2 rfl) ?_
          refine th_i (va_runV (As := []) (rest := []) ⟨hx, hb, hml, hown, hts⟩ (q_stop l dC dI cT ad E8 H.size hI) (cwV 0 hts (gi_V (in_26 _ (zs4 (zs4 (zs4 (zs0))))) (in_26 _ (zs4 (zs4 (zs4 (zs1 (zs0)))))) (in_26 _ (zs4 (zs4 (zs4 (zs1 (zs1 (zs0))))))) (in_24 _ (zs4 (zs4 (zs4 (zs1 (zs1 (zs1 (zs0)))))))) (in_26 _ (zs4 (zs4 (zs4 (zs1 (zs1 (zs1 (zs0))))))))) rfl rfl rfl ⟨rfl, hz_yX13_stop_0⟩ ⟨(show 0 + 1 ≤ 7 * n + 8 from nl_1 (Nat.le_of_ble_eq_true rfl)), (show 8 + (1 + 11) + 40 * (0) ≤ 40 * (7 * n + 8) from nl_2 (Nat.le_of_ble_eq_true rfl))⟩) ⟨HW_bl, va_recv hK hP (ci := 14) (q0 := 0) rfl (hI.ob 0 (Nat.le_of_ble_eq_true rfl) rfl), (HW_wi hP hK (WX_D hD) hS hA hEV)⟩ rfl rfl hl.1 rfl (lv_room (Nat.le_of_ble_eq_true rfl)) dX13_compares_38 ⟨Nat.le_of_ble_eq_true rfl, Nat.le_of_ble_eq_true rfl⟩) (WX_D hD) hS hA (fun r57 E58 H locs hw hP hS => ?_)
          obtain ⟨hI, kq59, hw⟩ := hw
          have hKb := hKp
          have hKp := hKp.tr kq59 (wl_sub rfl rfl)
          obtain ⟨y60, ey60⟩ : ∃ y, xi (E58 0) 22 = y := ⟨_, rfl⟩
          have fy60 : xv (E58 0) 22 = .int y60 := (hI.fi 0 (Nat.le_of_ble_eq_true rfl) rfl (Nat.le_of_ble_eq_true rfl) rfl).trans (congrArg Value.int ey60)
          have iy60 : -1 ≤ y60.toInt ∧ y60.toInt ≤ 201 := by rw [← ey60]; exact hI.iv 0 (Nat.le_of_ble_eq_true rfl) rfl (Nat.le_of_ble_eq_true rfl) rfl
          obtain ⟨rfl, f61⟩ := hw
          try rw [(show xi (E8 0) 22 = w12_0_22 from vi_e ((kq9 0 22 rfl).trans hs12_0_22))] at f61
          try rw [(show xi (E58 0) 22 = y60 from vi_e fy60)] at f61
          rw [hQ]
          exact W.zret (v := 0) hx hb hr rfl (fun t ht hW => ⟨⟨0, E58, rfl, ⟨hI, hKp, ⟨(iv_w ln_0 (by decide)), by (try rw [(show xi (E58 0) 21 = y10 from vi_e ((kq59 0 21 rfl).trans fy10))]); (try rw [ey1]); first | done | exact (Int.le_trans hx12_0 f12) | have h8 := ln_0; all_goals omega, by (try rw [(show xi (E58 0) 23 = w12_0_23 from vi_e ((kq59 0 23 rfl).trans ((kq9 0 23 rfl).trans hs12_0_23)))]); (try rw [ey3]); first | done | exact hx12_1 | have h8 := ln_0; all_goals omega, by (try rw [(show xi (E58 0) 22 = y60 from vi_e fy60)]); (try rw [(show xi (E58 0) 23 = w12_0_23 from vi_e ((kq59 0 23 rfl).trans ((kq9 0 23 rfl).trans hs12_0_23)))]); (try rw [ey2]); (try rw [ey3]); first | done | exact fun q9 => absurd (q9) f61 | have h8 := ln_0; all_goals omega, by (try rw [(show xi (E58 0) 22 = y60 from vi_e fy60)]); (try rw [ey2]); first | done | exact fun q9 => absurd (q9) f61 | have h8 := ln_0; all_goals omega⟩⟩, by show va_P (dC, dI) vwCl (WX 72 ad E58) t.heap; rw [ht]; exact hP⟩, hS.F ht⟩) hS.2.2 dX13_compares_41
    · --18 not
      have t62 : ¬ w12_0_22.toInt = -1 := ti_ne c4
      have i63 : 0 ≤ w12_0_22.toInt ∧ w12_0_22.toInt ≤ 201 := iv_ne_l t62 hw12_0_22 (il_ (-1))
      refine lv_iconst (v := 0) hx hb dX13_compares_21 (by decide) ?_
      rw [hQ]
      exact W.zret (v := 0) hx hb hr rfl (fun t ht hW => ⟨⟨0, E12_, rfl, ⟨hI, hKp, ⟨(iv_w ln_0 (by decide)), by (try rw [(show xi (E12_ 0) 21 = w12_0_21 from vi_e hs12_0_21)]); (try rw [ey1]); first | done | exact hx12_0 | have h8 := ln_0; all_goals omega, by (try rw [(show xi (E12_ 0) 23 = w12_0_23 from vi_e hs12_0_23)]); (try rw [ey3]); first | done | exact hx12_1 | have h8 := ln_0; all_goals omega, by (try rw [(show xi (E12_ 0) 22 = w12_0_22 from vi_e hs12_0_22)]); (try rw [(show xi (E12_ 0) 23 = w12_0_23 from vi_e hs12_0_23)]); (try rw [ey2]); (try rw [ey3]); first | done | exact fun q9 => absurd (q9) t62 | have h8 := ln_0; all_goals omega, by (try rw [(show xi (E12_ 0) 22 = w12_0_22 from vi_e hs12_0_22)]); (try rw [ey2]); first | done | exact fun q9 => absurd (q9) t62 | have h8 := ln_0; all_goals omega⟩⟩, by show va_P (dC, dI) vwCl (WX 72 ad E12_) t.heap; rw [ht]; exact hP⟩, hS.F ht⟩) hS.2.2 dX13_compares_22
  refine lv_if_eq (tgt := 8) hx hb dX13_compares_1 (by decide) (fun c64 => ?_) (fun c64 => ?_)
  · --1 taken
    have t65 : a0.toInt = 0 := ti_eq c64
    have i66 : 0 ≤ a0.toInt ∧ a0.toInt ≤ 0 := iv_eqi t65 hh6 (il_ 0) (by decide)
    refine lv_aload_n hx hb dX13_compares_8 rfl (lv_at hl 0 rfl) ?_
    refine th_i (va_runV (As := []) (rest := []) ⟨hx, hb, hml, hown, hts⟩ (gS dC dI cT ad E s.heap.size k nl hI (by exact hh0) (by exact hh1) (by exact hh2) (by exact hh3) (by exact hh4) (by (try rw [(show xi (E 0) 23 = y3 from vi_e fy3)]); omega)) (cwV 0 hts (gi_V (in_26 _ (zs16 (zs0))) (in_26 _ (zs16 (zs1 (zs0)))) (in_26 _ (zs16 (zs1 (zs1 (zs0))))) (in_24 _ (zs4 (zs4 (zs4 (zs1 (zs1 (zs1 (zs0)))))))) (in_26 _ (zs16 (zs4 (zs4 (zs1 (zs1 (zs1 (zs0))))))))) rfl rfl rfl (by decide +kernel) ⟨(show 7 * n + 7 + 1 ≤ 7 * n + 8 from nl_4 (Nat.le_of_ble_eq_true rfl) (Nat.le_of_ble_eq_true rfl)), (show 8 + (5 + 11) + 40 * (7 * n + 7) ≤ 40 * (7 * n + 8) from nl_3 (Nat.le_of_ble_eq_true rfl) (Nat.le_of_ble_eq_true rfl))⟩) ⟨HW_bl, va_recv hK hP (ci := 14) (q0 := 0) rfl (hI.ob 0 (Nat.le_of_ble_eq_true rfl) rfl), (HW_wi hP hK (WX_D hD) hS hA hEV)⟩ rfl rfl hl.1 rfl (lv_room (Nat.le_of_ble_eq_true rfl)) dX13_compares_9 ⟨Nat.le_of_ble_eq_true rfl, Nat.le_of_ble_eq_true rfl⟩) (WX_D hD) hS hA (fun r67 E68 H locs hw hP hS => ?_)
    obtain ⟨hI, kq69, hw⟩ := hw
    have hKb := hKp
    have hKp := hKp.tr kq69 (wl_sub rfl rfl)
    obtain ⟨y70, ey70⟩ : ∃ y, xi (E68 0) 21 = y := ⟨_, rfl⟩
    have fy70 : xv (E68 0) 21 = .int y70 := (hI.fi 0 (Nat.le_of_ble_eq_true rfl) rfl (Nat.le_of_ble_eq_true rfl) rfl).trans (congrArg Value.int ey70)
    have iy70 : 0 ≤ y70.toInt ∧ y70.toInt ≤ 201 := by rw [← ey70]; exact hI.iv 0 (Nat.le_of_ble_eq_true rfl) rfl (Nat.le_of_ble_eq_true rfl) rfl
    obtain ⟨y71, ey71⟩ : ∃ y, xi (E68 0) 22 = y := ⟨_, rfl⟩
    have fy71 : xv (E68 0) 22 = .int y71 := (hI.fi 0 (Nat.le_of_ble_eq_true rfl) rfl (Nat.le_of_ble_eq_true rfl) rfl).trans (congrArg Value.int ey71)
    have iy71 : -1 ≤ y71.toInt ∧ y71.toInt ≤ 201 := by rw [← ey71]; exact hI.iv 0 (Nat.le_of_ble_eq_true rfl) rfl (Nat.le_of_ble_eq_true rfl) rfl
    obtain ⟨y72, ey72⟩ : ∃ y, xi (E68 0) 23 = y := ⟨_, rfl⟩
    have fy72 : xv (E68 0) 23 = .int y72 := (hI.fi 0 (Nat.le_of_ble_eq_true rfl) rfl (Nat.le_of_ble_eq_true rfl) rfl).trans (congrArg Value.int ey72)
    have iy72 : 0 ≤ y72.toInt ∧ y72.toInt ≤ 8 := by rw [← ey72]; exact hI.iv 0 (Nat.le_of_ble_eq_true rfl) rfl (Nat.le_of_ble_eq_true rfl) rfl
    obtain ⟨f73, f74, f75, f76⟩ := hw
    have i77 : 0 ≤ (xi (E 0) 19).toInt ∧ (xi (E 0) 19).toInt ≤ 3000 := (show 0 ≤ (xi (E 0) 19).toInt ∧ (xi (E 0) 19).toInt ≤ 3000 from hI0.iv 0 (Nat.le_of_ble_eq_true rfl) rfl (Nat.le_of_ble_eq_true rfl) rfl)
    have i78 : 0 ≤ (xi (E 0) 20).toInt ∧ (xi (E 0) 20).toInt ≤ 200 := (show 0 ≤ (xi (E 0) 20).toInt ∧ (xi (E 0) 20).toInt ≤ 200 from hI0.iv 0 (Nat.le_of_ble_eq_true rfl) rfl (Nat.le_of_ble_eq_true rfl) rfl)
    try rw [(show xi (E 0) 21 = y1 from vi_e fy1)] at f73
    try rw [(show xi (E68 0) 21 = y70 from vi_e fy70)] at f73
    try rw [(show xi (E 0) 23 = y3 from vi_e fy3)] at f74
    try rw [(show xi (E68 0) 23 = y72 from vi_e fy72)] at f74
    try rw [(show xi (E 0) 22 = y2 from vi_e fy2)] at f75
    try rw [(show xi (E 0) 23 = y3 from vi_e fy3)] at f75
    try rw [(show xi (E68 0) 22 = y71 from vi_e fy71)] at f75
    try rw [(show xi (E68 0) 23 = y72 from vi_e fy72)] at f75
    try rw [(show xi (E 0) 22 = y2 from vi_e fy2)] at f76
    try rw [(show xi (E68 0) 22 = y71 from vi_e fy71)] at f76
    exact hJ12 r67 y70 y71 y72 E68 _ _ _ iy70 iy71 iy72 (by  first | exact f73 | omega) (by  first | exact f74 | omega) (by  first | exact fun q9 => (f75 (q9)) | omega) (by  first | exact fun q9 => f76 (q9) | omega) hI hKp fy70 fy71 fy72 hP hS (lv_sub hl [0, 1, 2] rfl)
  · --1 not
    have t79 : ¬ a0.toInt = 0 := ti_ne c64
    have i80 : 1 ≤ a0.toInt ∧ a0.toInt ≤ 1 := iv_ne_l t79 hh6 (il_ 0)
    refine lv_iload_n hx hb dX13_compares_4 rfl (lv_at hl 2 rfl) ?_
    refine lv_goto (tgt := 12) hx hb dX13_compares_5 (by decide) ?_
    exact hJ12 a1 y1 y2 y3 E _ _ _ iy1 iy2 iy3 (by  first | exact Int.le_refl _ | omega) (by  first | exact Int.le_refl _ | omega) (by  first | exact fun q9 => rfl | omega) (by  first | exact fun q9 => q9 | omega) hI hKp fy1 fy2 fy3 hP hS (lv_sub hl [0, 1, 2] rfl)
set_option maxHeartbeats 4000000 in
set_option maxRecDepth 100000 in
theorem q_unit (l : Launch) (n : Nat) (gC : C_compares l n) (gU : ∀ k, k < n → C_unit l k) (gO : ∀ k, k < n → C_condition l k) : C_unit l n := by
  intro dC dI cT ad E sz k nl hI0 hh0 hh1 hh2 hh3 hh4 hh5
  refine Met.ofW (cc := cX13_unit) (maxL := 3) (ret := (some .boolean)) (by decide) rfl ?_
  intro p e s m args below meth c s₁ B hml hv
  obtain ⟨hargs, hsz, hP, hK, hD0, hEV⟩ := hv
  subst hsz
  have hx := B.exec
  have hb := B.bytes
  have hr := B.returns
  have hts := atoms_spec (ws := v_unit) B.pre
  have hown : s.vm.findClass RX13 = some m.cls := findClass_of_methodNamed B.named
  have hlocks := B.notSynchronized
  have hinX13 : ∀ w ∈ u_ws RX13 TX13 97, w ∈ v_unit := fun w h => vA_in _ w (in_X13 w h)
  generalize hAe : va_A (WX 72 ad E) s.heap.size = A at hEV ⊢
  have hA : ∀ q : Nat, s.heap.size ≤ q → A q := fun q h => by rw [← hAe]; exact Or.inr h
  have hD : va_D A (WX 72 ad E) := by rw [← hAe]; exact hD0.self
  have hS : va_S A s.heap s.heap [] := va_S.rf
  have hI := hI0
  have hKp : Kp w_unit E E := Kp.rf
  have hl := lv_entry ([.ref (ad 0)]) (n := 3) (Nat.le_of_ble_eq_true rfl)
  obtain ⟨Q, hQ⟩ : ∃ Q, Q = MQ below (va_Qi (S := Nat → va_E) (fun r u => IX cT shM spM 72 ad u ∧ Kp w_unit E u ∧ ((0 ≤ r.toInt ∧ r.toInt ≤ 1) ∧ ((xi (E 0) 21).toInt ≤ (xi (u 0) 21).toInt) ∧ ((xi (E 0) 23).toInt ≤ (xi (u 0) 23).toInt) ∧ ((xi (u 0) 22).toInt = -1 → (xi (u 0) 23).toInt = (xi (E 0) 23).toInt) ∧ ((xi (u 0) 22).toInt = -1 → (xi (E 0) 22).toInt = -1))) (HB dC dI 72 ad) (A)) args s 0 0 (A) := ⟨_, rfl⟩
  rw [← hQ, show entryFrame m args 3 = _ from (congrArg (fun z => entryFrame m z 3) hargs).trans (lg_entry_eq _ _ _)]
  generalize (lg_sl ([.ref (ad 0)]) ++ List.replicate (3 - (lg_sl ([.ref (ad 0)])).length) Slot.unset).toArray = ls at hl ⊢
  have hl : lv_has ls 3 [(0, .ref (ad 0))] := hl
  obtain ⟨y1, ey1⟩ : ∃ y, xi (E 0) 21 = y := ⟨_, rfl⟩
  have fy1 : xv (E 0) 21 = .int y1 := (hI.fi 0 (Nat.le_of_ble_eq_true rfl) rfl (Nat.le_of_ble_eq_true rfl) rfl).trans (congrArg Value.int ey1)
  have iy1 : 0 ≤ y1.toInt ∧ y1.toInt ≤ 201 := by rw [← ey1]; exact hI.iv 0 (Nat.le_of_ble_eq_true rfl) rfl (Nat.le_of_ble_eq_true rfl) rfl
  obtain ⟨y2, ey2⟩ : ∃ y, xi (E 0) 22 = y := ⟨_, rfl⟩
  have fy2 : xv (E 0) 22 = .int y2 := (hI.fi 0 (Nat.le_of_ble_eq_true rfl) rfl (Nat.le_of_ble_eq_true rfl) rfl).trans (congrArg Value.int ey2)
  have iy2 : -1 ≤ y2.toInt ∧ y2.toInt ≤ 201 := by rw [← ey2]; exact hI.iv 0 (Nat.le_of_ble_eq_true rfl) rfl (Nat.le_of_ble_eq_true rfl) rfl
  obtain ⟨y3, ey3⟩ : ∃ y, xi (E 0) 23 = y := ⟨_, rfl⟩
  have fy3 : xv (E 0) 23 = .int y3 := (hI.fi 0 (Nat.le_of_ble_eq_true rfl) rfl (Nat.le_of_ble_eq_true rfl) rfl).trans (congrArg Value.int ey3)
  have iy3 : 0 ≤ y3.toInt ∧ y3.toInt ≤ 8 := by rw [← ey3]; exact hI.iv 0 (Nat.le_of_ble_eq_true rfl) rfl (Nat.le_of_ble_eq_true rfl) rfl
  rw [ey3] at hh5
  refine lv_aload_n hx hb dX13_unit_0 rfl (lv_at hl 0 rfl) ?_
  refine th_i (va_runV (As := []) (rest := []) ⟨hx, hb, hml, hown, hts⟩ (q_look l dC dI cT ad E s.heap.size k nl hI (by exact hh0) (by exact hh1) (by exact hh2) (by exact hh3) (by exact hh4)) (cwV 0 hts (gi_V (in_26 _ (zs1 (zs1 (zs0)))) (in_26 _ (zs1 (zs1 (zs1 (zs0))))) (in_26 _ (zs4 (zs0))) (in_24 _ (zs4 (zs4 (zs4 (zs1 (zs1 (zs1 (zs0)))))))) (in_26 _ (zs4 (zs1 (zs0))))) rfl rfl rfl ⟨rfl, hz_yX13_look_0⟩ ⟨(show 0 + 1 ≤ 7 * n + 9 from nl_1 (Nat.le_of_ble_eq_true rfl)), (show 8 + (1 + 11) + 40 * (0) ≤ 40 * (7 * n + 9) from nl_2 (Nat.le_of_ble_eq_true rfl))⟩) ⟨HW_bl, va_recv hK hP (ci := 14) (q0 := 0) rfl (hI.ob 0 (Nat.le_of_ble_eq_true rfl) rfl), (HW_wi hP hK (WX_D hD) hS hA hEV)⟩ rfl rfl hl.1 rfl (lv_room (Nat.le_of_ble_eq_true rfl)) dX13_unit_1 ⟨Nat.le_of_ble_eq_true rfl, Nat.le_of_ble_eq_true rfl⟩) (WX_D hD) hS hA (fun r4 E5 H locs hw hP hS => ?_)
  obtain ⟨hI, kq6, hw⟩ := hw
  have hKb := hKp
  have hKp := hKp.tr kq6 (wl_sub rfl rfl)
  obtain ⟨y7, ey7⟩ : ∃ y, xi (E5 0) 21 = y := ⟨_, rfl⟩
  have fy7 : xv (E5 0) 21 = .int y7 := (hI.fi 0 (Nat.le_of_ble_eq_true rfl) rfl (Nat.le_of_ble_eq_true rfl) rfl).trans (congrArg Value.int ey7)
  have iy7 : 0 ≤ y7.toInt ∧ y7.toInt ≤ 201 := by rw [← ey7]; exact hI.iv 0 (Nat.le_of_ble_eq_true rfl) rfl (Nat.le_of_ble_eq_true rfl) rfl
  obtain ⟨f8, f9, f10, f11⟩ := hw
  have i12 : 0 ≤ (xi (E 0) 19).toInt ∧ (xi (E 0) 19).toInt ≤ 3000 := (show 0 ≤ (xi (E 0) 19).toInt ∧ (xi (E 0) 19).toInt ≤ 3000 from hI0.iv 0 (Nat.le_of_ble_eq_true rfl) rfl (Nat.le_of_ble_eq_true rfl) rfl)
  have i13 : 0 ≤ (xi (E 0) 20).toInt ∧ (xi (E 0) 20).toInt ≤ 200 := (show 0 ≤ (xi (E 0) 20).toInt ∧ (xi (E 0) 20).toInt ≤ 200 from hI0.iv 0 (Nat.le_of_ble_eq_true rfl) rfl (Nat.le_of_ble_eq_true rfl) rfl)
  try rw [(show xi (E 0) 21 = y1 from vi_e fy1)] at f9
  try rw [(show xi (E5 0) 21 = y7 from vi_e fy7)] at f9
  try rw [(show xi (E 0) 21 = y1 from vi_e fy1)] at f10
  try rw [(show xi (E5 0) 21 = y7 from vi_e fy7)] at f10
  try rw [(show xi (E 0) 21 = y1 from vi_e fy1)] at f11
  try rw [(show xi (E5 0) 21 = y7 from vi_e fy7)] at f11
  refine lv_istore_n (lv' := [(1, .int r4), (0, .ref (ad 0))]) hx hb dX13_unit_4 rfl hl (by decide) rfl (fun ls hl => ?_)
  refine lv_iload_n hx hb dX13_unit_5 rfl (lv_at hl 0 rfl) ?_
  refine lv_bipush (v := 33) hx hb dX13_unit_6 (by decide) ?_
  refine lv_icmp_ne (tgt := 45) hx hb dX13_unit_8 (by decide) (fun c14 => ?_) (fun c14 => ?_)
  · --8 taken
    have t15 : ¬ r4.toInt = 33 := ti_ne c14
    refine lv_iload_n hx hb dX13_unit_45 rfl (lv_at hl 0 rfl) ?_
    refine lv_bipush (v := 40) hx hb dX13_unit_46 (by decide) ?_
    refine lv_icmp_ne (tgt := 90) hx hb dX13_unit_48 (by decide) (fun c16 => ?_) (fun c16 => ?_)
    · --48 taken
      have t17 : ¬ r4.toInt = 40 := ti_ne c16
      refine lv_aload_n hx hb dX13_unit_90 rfl (lv_at hl 1 rfl) ?_
      refine lv_iconst (v := 0) hx hb dX13_unit_91 (by decide) ?_
      refine lv_iconst (v := 0) hx hb dX13_unit_92 (by decide) ?_
      have z0 := ln_0
      refine th_i (va_runV (As := [.int 0, .int 0]) (rest := []) ⟨hx, hb, hml, hown, hts⟩ (gC dC dI cT ad E5 H.size (0 : Int32) (0 : Int32) k nl hI (by exact hh0) (by exact hh1) (by exact hh2) (by exact (hKp 0 18 rfl).trans hh3) (by (try rw [hKp.ei 0 19 rfl]); exact hh4) (by (try rw [(show xi (E5 0) 23 = y3 from vi_e ((kq6 0 23 rfl).trans fy3))]); omega) (iv_w ln_0 (by decide))) (cwV 2 hts (gi_V (in_29 _ (zs16 (zs4 (zs4 (zs1 (zs1 (zs0))))))) (in_29 _ (zs16 (zs4 (zs4 (zs1 (zs1 (zs1 (zs0)))))))) (in_29 _ (zs16 (zs4 (zs4 (zs4 (zs0)))))) (in_24 _ (zs4 (zs4 (zs4 (zs1 (zs1 (zs1 (zs0)))))))) (in_29 _ (zs16 (zs4 (zs4 (zs4 (zs1 (zs0)))))))) rfl rfl rfl (by decide +kernel) ⟨(show 7 * n + 8 + 1 ≤ 7 * n + 9 from nl_4 (Nat.le_of_ble_eq_true rfl) (Nat.le_of_ble_eq_true rfl)), (show 8 + (6 + 11) + 40 * (7 * n + 8) ≤ 40 * (7 * n + 9) from nl_3 (Nat.le_of_ble_eq_true rfl) (Nat.le_of_ble_eq_true rfl))⟩) ⟨HW_bl, va_recv hK hP (ci := 14) (q0 := 0) rfl (hI.ob 0 (Nat.le_of_ble_eq_true rfl) rfl), (HW_wi hP hK (WX_D hD) hS hA hEV)⟩ rfl rfl hl.1 rfl (lv_room (Nat.le_of_ble_eq_true rfl)) dX13_unit_93 ⟨Nat.le_of_ble_eq_true rfl, Nat.le_of_ble_eq_true rfl⟩) (WX_D hD) hS hA (fun r18 E19 H locs hw hP hS => ?_)
      obtain ⟨hI, kq20, hw⟩ := hw
      have hKb := hKp
      have hKp := hKp.tr kq20 (wl_sub rfl rfl)
      obtain ⟨y21, ey21⟩ : ∃ y, xi (E19 0) 21 = y := ⟨_, rfl⟩
      have fy21 : xv (E19 0) 21 = .int y21 := (hI.fi 0 (Nat.le_of_ble_eq_true rfl) rfl (Nat.le_of_ble_eq_true rfl) rfl).trans (congrArg Value.int ey21)
      have iy21 : 0 ≤ y21.toInt ∧ y21.toInt ≤ 201 := by rw [← ey21]; exact hI.iv 0 (Nat.le_of_ble_eq_true rfl) rfl (Nat.le_of_ble_eq_true rfl) rfl
      obtain ⟨y22, ey22⟩ : ∃ y, xi (E19 0) 22 = y := ⟨_, rfl⟩
      have fy22 : xv (E19 0) 22 = .int y22 := (hI.fi 0 (Nat.le_of_ble_eq_true rfl) rfl (Nat.le_of_ble_eq_true rfl) rfl).trans (congrArg Value.int ey22)
      have iy22 : -1 ≤ y22.toInt ∧ y22.toInt ≤ 201 := by rw [← ey22]; exact hI.iv 0 (Nat.le_of_ble_eq_true rfl) rfl (Nat.le_of_ble_eq_true rfl) rfl
      obtain ⟨y23, ey23⟩ : ∃ y, xi (E19 0) 23 = y := ⟨_, rfl⟩
      have fy23 : xv (E19 0) 23 = .int y23 := (hI.fi 0 (Nat.le_of_ble_eq_true rfl) rfl (Nat.le_of_ble_eq_true rfl) rfl).trans (congrArg Value.int ey23)
      have iy23 : 0 ≤ y23.toInt ∧ y23.toInt ≤ 8 := by rw [← ey23]; exact hI.iv 0 (Nat.le_of_ble_eq_true rfl) rfl (Nat.le_of_ble_eq_true rfl) rfl
      obtain ⟨f24, f25, f26, f27, f28⟩ := hw
      try rw [(show xi (E5 0) 21 = y7 from vi_e fy7)] at f25
      try rw [(show xi (E19 0) 21 = y21 from vi_e fy21)] at f25
      try rw [(show xi (E5 0) 23 = y3 from vi_e ((kq6 0 23 rfl).trans fy3))] at f26
      try rw [(show xi (E19 0) 23 = y23 from vi_e fy23)] at f26
      try rw [(show xi (E5 0) 22 = y2 from vi_e ((kq6 0 22 rfl).trans fy2))] at f27
      try rw [(show xi (E5 0) 23 = y3 from vi_e ((kq6 0 23 rfl).trans fy3))] at f27
      try rw [(show xi (E19 0) 22 = y22 from vi_e fy22)] at f27
      try rw [(show xi (E19 0) 23 = y23 from vi_e fy23)] at f27
      try rw [(show xi (E5 0) 22 = y2 from vi_e ((kq6 0 22 rfl).trans fy2))] at f28
      try rw [(show xi (E19 0) 22 = y22 from vi_e fy22)] at f28
      rw [hQ]
      exact W.zret (v := r18) hx hb hr (nar_b1 f24) (fun t ht hW => ⟨⟨r18, E19, rfl, ⟨hI, hKp, ⟨f24, by (try rw [(show xi (E19 0) 21 = y21 from vi_e fy21)]); (try rw [ey1]); first | done | exact (Int.le_trans f9 f25) | all_goals omega, by (try rw [(show xi (E19 0) 23 = y23 from vi_e fy23)]); (try rw [ey3]); first | done | exact f26 | all_goals omega, by (try rw [(show xi (E19 0) 22 = y22 from vi_e fy22)]); (try rw [(show xi (E19 0) 23 = y23 from vi_e fy23)]); (try rw [ey2]); (try rw [ey3]); first | done | exact fun q9 => (f27 (q9)) | all_goals omega, by (try rw [(show xi (E19 0) 22 = y22 from vi_e fy22)]); (try rw [ey2]); first | done | exact fun q9 => f28 (q9) | all_goals omega⟩⟩, by show va_P (dC, dI) vwCl (WX 72 ad E19) t.heap; rw [ht]; exact hP⟩, hS.F ht⟩) hS.2.2 dX13_unit_96
    · --48 not
      have t29 : r4.toInt = 40 := ti_eq c16
      have i30 : 40 ≤ r4.toInt ∧ r4.toInt ≤ 40 := iv_eqi t29 f8 (il_ 40) (by decide)
      refine lv_aload_n hx hb dX13_unit_51 rfl (lv_at hl 1 rfl) ?_
      refine th_i (va_runV (As := []) (rest := []) ⟨hx, hb, hml, hown, hts⟩ (q_goesIn l dC dI cT ad E5 H.size hI (by (try rw [(show xi (E5 0) 21 = y7 from vi_e fy7)]); omega)) (cwV 0 hts (gi_V (in_26 _ (zs4 (zs4 (zs0)))) (in_26 _ (zs4 (zs4 (zs1 (zs0))))) (in_26 _ (zs4 (zs4 (zs1 (zs1 (zs0)))))) (in_24 _ (zs4 (zs4 (zs4 (zs1 (zs1 (zs1 (zs0)))))))) (in_26 _ (zs4 (zs4 (zs1 (zs1 (zs1 (zs0)))))))) rfl rfl rfl ⟨rfl, hz_yX13_goesIn_0⟩ ⟨(show 1 + 1 ≤ 7 * n + 9 from nl_1 (Nat.le_of_ble_eq_true rfl)), (show 8 + (1 + 11) + 40 * (1) ≤ 40 * (7 * n + 9) from nl_2 (Nat.le_of_ble_eq_true rfl))⟩) ⟨HW_bl, va_recv hK hP (ci := 14) (q0 := 0) rfl (hI.ob 0 (Nat.le_of_ble_eq_true rfl) rfl), (HW_wi hP hK (WX_D hD) hS hA hEV)⟩ rfl rfl hl.1 rfl (lv_room (Nat.le_of_ble_eq_true rfl)) dX13_unit_52 ⟨Nat.le_of_ble_eq_true rfl, Nat.le_of_ble_eq_true rfl⟩) (WX_D hD) hS hA (fun r31 E32 H locs hw hP hS => ?_)
      obtain ⟨hI, kq33, hw⟩ := hw
      have hKb := hKp
      have hKp := hKp.tr kq33 (wl_sub rfl rfl)
      obtain ⟨y34, ey34⟩ : ∃ y, xi (E32 0) 21 = y := ⟨_, rfl⟩
      have fy34 : xv (E32 0) 21 = .int y34 := (hI.fi 0 (Nat.le_of_ble_eq_true rfl) rfl (Nat.le_of_ble_eq_true rfl) rfl).trans (congrArg Value.int ey34)
      have iy34 : 0 ≤ y34.toInt ∧ y34.toInt ≤ 201 := by rw [← ey34]; exact hI.iv 0 (Nat.le_of_ble_eq_true rfl) rfl (Nat.le_of_ble_eq_true rfl) rfl
      obtain ⟨y35, ey35⟩ : ∃ y, xi (E32 0) 22 = y := ⟨_, rfl⟩
      have fy35 : xv (E32 0) 22 = .int y35 := (hI.fi 0 (Nat.le_of_ble_eq_true rfl) rfl (Nat.le_of_ble_eq_true rfl) rfl).trans (congrArg Value.int ey35)
      have iy35 : -1 ≤ y35.toInt ∧ y35.toInt ≤ 201 := by rw [← ey35]; exact hI.iv 0 (Nat.le_of_ble_eq_true rfl) rfl (Nat.le_of_ble_eq_true rfl) rfl
      obtain ⟨y36, ey36⟩ : ∃ y, xi (E32 0) 23 = y := ⟨_, rfl⟩
      have fy36 : xv (E32 0) 23 = .int y36 := (hI.fi 0 (Nat.le_of_ble_eq_true rfl) rfl (Nat.le_of_ble_eq_true rfl) rfl).trans (congrArg Value.int ey36)
      have iy36 : 0 ≤ y36.toInt ∧ y36.toInt ≤ 8 := by rw [← ey36]; exact hI.iv 0 (Nat.le_of_ble_eq_true rfl) rfl (Nat.le_of_ble_eq_true rfl) rfl
      rcases hw with hw | hw
      · -- goesIn, case 0
        obtain ⟨rfl, f37, f38, f39, f40⟩ := hw
        try rw [(show xi (E5 0) 21 = y7 from vi_e fy7)] at f37
        try rw [(show xi (E32 0) 21 = y34 from vi_e fy34)] at f37
        try rw [(show xi (E5 0) 23 = y3 from vi_e ((kq6 0 23 rfl).trans fy3))] at f38
        try rw [(show xi (E32 0) 23 = y36 from vi_e fy36)] at f38
        try rw [(show xi (E5 0) 22 = y2 from vi_e ((kq6 0 22 rfl).trans fy2))] at f39
        try rw [(show xi (E32 0) 22 = y35 from vi_e fy35)] at f39
        try rw [(show xi (E5 0) 23 = y3 from vi_e ((kq6 0 23 rfl).trans fy3))] at f40
        try rw [(show xi (E32 0) 23 = y36 from vi_e fy36)] at f40
        obtain ⟨k9, hk9⟩ : ∃ k9, n = k9 + 1 := ⟨n - 1, by omega⟩
        refine lv_if_ne (tgt := 60) hx hb dX13_unit_55 (by decide) (fun c41 => ?_) (fun c41 => ?_)
        · --55 taken
          refine lv_aload_n hx hb dX13_unit_60 rfl (lv_at hl 1 rfl) ?_
          refine lv_iconst (v := 0) hx hb dX13_unit_61 (by decide) ?_
          refine lv_iconst (v := 0) hx hb dX13_unit_62 (by decide) ?_
          have z0 := ln_0
          refine th_i (va_runV (As := [.int 0, .int 0]) (rest := []) ⟨hx, hb, hml, hown, hts⟩ ((gO k9 (by omega)) dC dI cT ad E32 H.size (0 : Int32) (0 : Int32) k nl hI (by exact hh0) (by exact hh1) (by exact hh2) (by exact (hKp 0 18 rfl).trans hh3) (by (try rw [hKp.ei 0 19 rfl]); exact hh4) (by (try rw [(show xi (E32 0) 23 = y36 from vi_e fy36)]); omega) (iv_w ln_0 (by decide))) (cwV 2 hts (gi_V (in_29 _ (zs16 (zs1 (zs1 (zs0))))) (in_29 _ (zs16 (zs1 (zs1 (zs1 (zs0)))))) (in_29 _ (zs16 (zs4 (zs0)))) (in_24 _ (zs4 (zs4 (zs4 (zs1 (zs1 (zs1 (zs0)))))))) (in_29 _ (zs16 (zs4 (zs1 (zs0)))))) rfl rfl rfl (by decide +kernel) ⟨(show 7 * k9 + 11 + 1 ≤ 7 * n + 9 by omega), (show 8 + (5 + 11) + 40 * (7 * k9 + 11) ≤ 40 * (7 * n + 9) by omega)⟩) ⟨HW_bl, va_recv hK hP (ci := 14) (q0 := 0) rfl (hI.ob 0 (Nat.le_of_ble_eq_true rfl) rfl), (HW_wi hP hK (WX_D hD) hS hA hEV)⟩ rfl rfl hl.1 rfl (lv_room (Nat.le_of_ble_eq_true rfl)) dX13_unit_63 ⟨Nat.le_of_ble_eq_true rfl, Nat.le_of_ble_eq_true rfl⟩) (WX_D hD) hS hA (fun r42 E43 H locs hw hP hS => ?_)
          obtain ⟨hI, kq44, hw⟩ := hw
          have hKb := hKp
          have hKp := hKp.tr kq44 (wl_sub rfl rfl)
          obtain ⟨y45, ey45⟩ : ∃ y, xi (E43 0) 21 = y := ⟨_, rfl⟩
          have fy45 : xv (E43 0) 21 = .int y45 := (hI.fi 0 (Nat.le_of_ble_eq_true rfl) rfl (Nat.le_of_ble_eq_true rfl) rfl).trans (congrArg Value.int ey45)
          have iy45 : 0 ≤ y45.toInt ∧ y45.toInt ≤ 201 := by rw [← ey45]; exact hI.iv 0 (Nat.le_of_ble_eq_true rfl) rfl (Nat.le_of_ble_eq_true rfl) rfl
          obtain ⟨y46, ey46⟩ : ∃ y, xi (E43 0) 22 = y := ⟨_, rfl⟩
          have fy46 : xv (E43 0) 22 = .int y46 := (hI.fi 0 (Nat.le_of_ble_eq_true rfl) rfl (Nat.le_of_ble_eq_true rfl) rfl).trans (congrArg Value.int ey46)
          have iy46 : -1 ≤ y46.toInt ∧ y46.toInt ≤ 201 := by rw [← ey46]; exact hI.iv 0 (Nat.le_of_ble_eq_true rfl) rfl (Nat.le_of_ble_eq_true rfl) rfl
          obtain ⟨y47, ey47⟩ : ∃ y, xi (E43 0) 23 = y := ⟨_, rfl⟩
          have fy47 : xv (E43 0) 23 = .int y47 := (hI.fi 0 (Nat.le_of_ble_eq_true rfl) rfl (Nat.le_of_ble_eq_true rfl) rfl).trans (congrArg Value.int ey47)
          have iy47 : 0 ≤ y47.toInt ∧ y47.toInt ≤ 8 := by rw [← ey47]; exact hI.iv 0 (Nat.le_of_ble_eq_true rfl) rfl (Nat.le_of_ble_eq_true rfl) rfl
          obtain ⟨f48, f49, f50, f51, f52⟩ := hw
          try rw [(show xi (E32 0) 21 = y34 from vi_e fy34)] at f49
          try rw [(show xi (E43 0) 21 = y45 from vi_e fy45)] at f49
          try rw [(show xi (E32 0) 23 = y36 from vi_e fy36)] at f50
          try rw [(show xi (E43 0) 23 = y47 from vi_e fy47)] at f50
          try rw [(show xi (E32 0) 22 = y35 from vi_e fy35)] at f51
          try rw [(show xi (E32 0) 23 = y36 from vi_e fy36)] at f51
          try rw [(show xi (E43 0) 22 = y46 from vi_e fy46)] at f51
          try rw [(show xi (E43 0) 23 = y47 from vi_e fy47)] at f51
          try rw [(show xi (E32 0) 22 = y35 from vi_e fy35)] at f52
          try rw [(show xi (E43 0) 22 = y46 from vi_e fy46)] at f52
          refine lv_istore_n (lv' := [(2, .int r42), (1, .int r4), (0, .ref (ad 0))]) hx hb dX13_unit_66 rfl hl (by decide) rfl (fun ls hl => ?_)
          refine lv_aload_n hx hb dX13_unit_67 rfl (lv_at hl 2 rfl) ?_
          refine lv_bipush (v := 41) hx hb dX13_unit_68 (by decide) ?_
          have z41 := ln_41
          refine th_i (va_runV (As := [.int 41]) (rest := []) ⟨hx, hb, hml, hown, hts⟩ (q_takes l dC dI cT ad E43 H.size (41 : Int32) k nl hI (by exact hh0) (by exact hh1) (by exact hh2) (by exact (hKp 0 18 rfl).trans hh3) (by (try rw [hKp.ei 0 19 rfl]); exact hh4) (iv_w ln_41 (by decide))) (cwV 1 hts (gi_V (in_26 _ (zs16 (zs1 (zs1 (zs1 (zs0)))))) (in_26 _ (zs16 (zs4 (zs0)))) (in_26 _ (zs16 (zs4 (zs1 (zs0))))) (in_24 _ (zs4 (zs4 (zs4 (zs1 (zs1 (zs1 (zs0)))))))) (in_26 _ (zs16 (zs4 (zs1 (zs1 (zs0))))))) rfl rfl rfl ⟨rfl, hz_yX13_takes_1⟩ ⟨(show 1 + 1 ≤ 7 * n + 9 from nl_1 (Nat.le_of_ble_eq_true rfl)), (show 8 + (2 + 11) + 40 * (1) ≤ 40 * (7 * n + 9) from nl_2 (Nat.le_of_ble_eq_true rfl))⟩) ⟨HW_bl, va_recv hK hP (ci := 14) (q0 := 0) rfl (hI.ob 0 (Nat.le_of_ble_eq_true rfl) rfl), (HW_wi hP hK (WX_D hD) hS hA hEV)⟩ rfl rfl hl.1 rfl (lv_room (Nat.le_of_ble_eq_true rfl)) dX13_unit_70 ⟨Nat.le_of_ble_eq_true rfl, Nat.le_of_ble_eq_true rfl⟩) (WX_D hD) hS hA (fun r53 E54 H locs hw hP hS => ?_)
          obtain ⟨hI, kq55, hw⟩ := hw
          have hKb := hKp
          have hKp := hKp.tr kq55 (wl_sub rfl rfl)
          obtain ⟨y56, ey56⟩ : ∃ y, xi (E54 0) 21 = y := ⟨_, rfl⟩
          have fy56 : xv (E54 0) 21 = .int y56 := (hI.fi 0 (Nat.le_of_ble_eq_true rfl) rfl (Nat.le_of_ble_eq_true rfl) rfl).trans (congrArg Value.int ey56)
          have iy56 : 0 ≤ y56.toInt ∧ y56.toInt ≤ 201 := by rw [← ey56]; exact hI.iv 0 (Nat.le_of_ble_eq_true rfl) rfl (Nat.le_of_ble_eq_true rfl) rfl
          obtain ⟨y57, ey57⟩ : ∃ y, xi (E54 0) 22 = y := ⟨_, rfl⟩
          have fy57 : xv (E54 0) 22 = .int y57 := (hI.fi 0 (Nat.le_of_ble_eq_true rfl) rfl (Nat.le_of_ble_eq_true rfl) rfl).trans (congrArg Value.int ey57)
          have iy57 : -1 ≤ y57.toInt ∧ y57.toInt ≤ 201 := by rw [← ey57]; exact hI.iv 0 (Nat.le_of_ble_eq_true rfl) rfl (Nat.le_of_ble_eq_true rfl) rfl
          rcases hw with hw | hw
          · -- takes, case 0
            obtain ⟨rfl, f58, f59, f60, f61⟩ := hw
            try rw [(show xi (E43 0) 21 = y45 from vi_e fy45)] at f58
            try rw [(show xi (E54 0) 21 = y56 from vi_e fy56)] at f58
            try rw [(show xi (E43 0) 22 = y46 from vi_e fy46)] at f59
            try rw [(show xi (E54 0) 22 = y57 from vi_e fy57)] at f59
            try rw [(show xi (E43 0) 22 = y46 from vi_e fy46)] at f60
            try rw [(show xi (E54 0) 22 = y57 from vi_e fy57)] at f60
            try rw [(show xi (E43 0) 21 = y45 from vi_e fy45)] at f61
            try rw [(show xi (E54 0) 21 = y56 from vi_e fy56)] at f61
            refine lv_if_ne (tgt := 78) hx hb dX13_unit_73 (by decide) (fun c62 => ?_) (fun c62 => ?_)
            · --73 taken
              refine lv_aload_n hx hb dX13_unit_78 rfl (lv_at hl 2 rfl) ?_
              refine lv_dup hx hb dX13_unit_79 rfl ?_
              refine th_get (ci := 14) (C := RX13) (T := TX13) (N := 97) (v := .int y47) hx hb hts hinX13 hown hK hP hI 0 (Nat.le_of_ble_eq_true rfl) rfl rfl 23 (Nat.le_of_ble_eq_true rfl) (hts _ (vA_in _ _ (in_25 _ (zs16 (zs16 (zs4 (zs1 (zs1 (zs0))))))))) (fun _ h9 => h9) ((kq55 0 23 rfl).trans fy47) dX13_unit_80 ?_
              refine lv_iconst (v := 1) hx hb dX13_unit_83 (by decide) ?_
              refine lv_isub hx hb dX13_unit_84 ?_
              refine lv_topi (fun y63 ey63 => ?_)
              obtain ⟨ty63, iy63⟩ := ti_sub (e := (-1)) (f := 7) iy47 ln_1 ey63 (by decide)
              have ty63 : y63.toInt = y47.toInt - 1 := ty63
              have iy63 : -1 ≤ y63.toInt ∧ y63.toInt ≤ 7 := iy63
              have i64 : 0 ≤ y63.toInt ∧ y63.toInt ≤ 7 := by omega
              refine th_put (ci := 14) (C := RX13) (T := TX13) (N := 97) (v := .int y63) (ty := .int) hx hb hts hinX13 tyX13 tyX13_ok nmX13 hown hK hP (WX_D hD) hS hI 0 (Nat.le_of_ble_eq_true rfl) rfl rfl 23 (Nat.le_of_ble_eq_true rfl) (hts _ (vA_in _ _ (in_25 _ (zs16 (zs16 (zs4 (zs1 (zs1 (zs0))))))))) (fun _ h9 => h9) rfl (by decide +kernel) rfl rfl (okI rfl (iv_w i64 (by decide))) dX13_unit_85 (fun H locs E65 pw66 hI hP hS => ?_)
              have hKp := hKp.pw pw66 rfl
              refine lv_iload_n hx hb dX13_unit_88 rfl (lv_at hl 0 rfl) ?_
              rw [hQ]
              exact W.zret (v := r42) hx hb hr (nar_b1 f48) (fun t ht hW => ⟨⟨r42, E65, rfl, ⟨hI, hKp, ⟨f48, by (try rw [(show xi (E65 0) 21 = y56 from vi_e ((pw66.2 0 21 (fun q9 => absurd q9.2 (Nat.ne_of_beq_eq_false rfl))).trans fy56))]); (try rw [ey1]); first | done | exact (Int.le_trans (Int.le_trans (Int.le_trans f9 (Int.le_trans (Int.le_add_of_nonneg_right (by decide)) (Int.le_of_eq f37.symm))) f49) f58) | all_goals omega, by (try rw [(show xi (E65 0) 23 = y63 from vi_e pw66.1)]); (try rw [ey1]); (try rw [ey2]); (try rw [ey3]); all_goals omega, by (try rw [(show xi (E65 0) 22 = y57 from vi_e ((pw66.2 0 22 (fun q9 => absurd q9.2 (Nat.ne_of_beq_eq_false rfl))).trans fy57))]); (try rw [(show xi (E65 0) 23 = y63 from vi_e pw66.1)]); (try rw [ey1]); (try rw [ey2]); (try rw [ey3]); all_goals omega, by (try rw [(show xi (E65 0) 22 = y57 from vi_e ((pw66.2 0 22 (fun q9 => absurd q9.2 (Nat.ne_of_beq_eq_false rfl))).trans fy57))]); (try rw [ey1]); (try rw [ey2]); (try rw [ey3]); all_goals omega⟩⟩, by show va_P (dC, dI) vwCl (WX 72 ad E65) t.heap; rw [ht]; exact hP⟩, hS.F ht⟩) hS.2.2 dX13_unit_89
            · --73 not
              exact absurd c62 (by decide)
          · -- takes, case 1
            obtain ⟨rfl, f67, f68⟩ := hw
            try rw [(show xi (E43 0) 21 = y45 from vi_e fy45)] at f67
            try rw [(show xi (E54 0) 21 = y56 from vi_e fy56)] at f67
            try rw [(show xi (E43 0) 22 = y46 from vi_e fy46)] at f68
            try rw [(show xi (E54 0) 22 = y57 from vi_e fy57)] at f68
            refine lv_if_ne (tgt := 78) hx hb dX13_unit_73 (by decide) (fun c69 => ?_) (fun c69 => ?_)
            · --73 taken
              exact absurd c69 (by decide)
            · --73 not
              refine lv_iconst (v := 0) hx hb dX13_unit_76 (by decide) ?_
              rw [hQ]
              exact W.zret (v := 0) hx hb hr rfl (fun t ht hW => ⟨⟨0, E54, rfl, ⟨hI, hKp, ⟨(iv_w ln_0 (by decide)), by (try rw [(show xi (E54 0) 21 = y56 from vi_e fy56)]); (try rw [ey1]); first | done | exact (Int.le_trans (Int.le_trans (Int.le_trans f9 (Int.le_trans (Int.le_add_of_nonneg_right (by decide)) (Int.le_of_eq f37.symm))) f49) f67) | have h8 := ln_0; all_goals omega, by (try rw [(show xi (E54 0) 23 = y47 from vi_e ((kq55 0 23 rfl).trans fy47))]); (try rw [ey3]); first | done | exact (Int.le_trans (Int.le_trans (Int.le_add_of_nonneg_right (by decide)) (Int.le_of_eq f38.symm)) f50) | have h8 := ln_0; all_goals omega, by (try rw [(show xi (E54 0) 22 = y57 from vi_e fy57)]); (try rw [(show xi (E54 0) 23 = y47 from vi_e ((kq55 0 23 rfl).trans fy47))]); (try rw [ey2]); (try rw [ey3]); first | done | exact fun q9 => absurd (q9) f68 | have h8 := ln_0; all_goals omega, by (try rw [(show xi (E54 0) 22 = y57 from vi_e fy57)]); (try rw [ey2]); first | done | exact fun q9 => absurd (q9) f68 | have h8 := ln_0; all_goals omega⟩⟩, by show va_P (dC, dI) vwCl (WX 72 ad E54) t.heap; rw [ht]; exact hP⟩, hS.F ht⟩) hS.2.2 dX13_unit_77
        · --55 not
          exact absurd c41 (by decide)
      · -- goesIn, case 1
        obtain ⟨rfl, f70, f71, f72⟩ := hw
        try rw [(show xi (E5 0) 21 = y7 from vi_e fy7)] at f70
        try rw [(show xi (E32 0) 21 = y34 from vi_e fy34)] at f70
        try rw [(show xi (E5 0) 23 = y3 from vi_e ((kq6 0 23 rfl).trans fy3))] at f71
        try rw [(show xi (E32 0) 23 = y36 from vi_e fy36)] at f71
        try rw [(show xi (E5 0) 22 = y2 from vi_e ((kq6 0 22 rfl).trans fy2))] at f72
        try rw [(show xi (E32 0) 22 = y35 from vi_e fy35)] at f72
        refine lv_if_ne (tgt := 60) hx hb dX13_unit_55 (by decide) (fun c73 => ?_) (fun c73 => ?_)
        · --55 taken
          exact absurd c73 (by decide)
        · --55 not
          refine lv_iconst (v := 0) hx hb dX13_unit_58 (by decide) ?_
          rw [hQ]
          exact W.zret (v := 0) hx hb hr rfl (fun t ht hW => ⟨⟨0, E32, rfl, ⟨hI, hKp, ⟨(iv_w ln_0 (by decide)), by (try rw [(show xi (E32 0) 21 = y34 from vi_e fy34)]); (try rw [ey1]); first | done | exact (Int.le_trans f9 (Int.le_of_eq f70.symm)) | have h8 := ln_0; all_goals omega, by (try rw [(show xi (E32 0) 23 = y36 from vi_e fy36)]); (try rw [ey3]); first | done | exact (Int.le_of_eq f71.symm) | have h8 := ln_0; all_goals omega, by (try rw [(show xi (E32 0) 22 = y35 from vi_e fy35)]); (try rw [(show xi (E32 0) 23 = y36 from vi_e fy36)]); (try rw [ey2]); (try rw [ey3]); first | done | exact fun q9 => absurd (q9) f72 | have h8 := ln_0; all_goals omega, by (try rw [(show xi (E32 0) 22 = y35 from vi_e fy35)]); (try rw [ey2]); first | done | exact fun q9 => absurd (q9) f72 | have h8 := ln_0; all_goals omega⟩⟩, by show va_P (dC, dI) vwCl (WX 72 ad E32) t.heap; rw [ht]; exact hP⟩, hS.F ht⟩) hS.2.2 dX13_unit_59
  · --8 not
    have t74 : r4.toInt = 33 := ti_eq c14
    have i75 : 33 ≤ r4.toInt ∧ r4.toInt ≤ 33 := iv_eqi t74 f8 (il_ 33) (by decide)
    refine lv_aload_n hx hb dX13_unit_11 rfl (lv_at hl 1 rfl) ?_
    refine th_i (va_runV (As := []) (rest := []) ⟨hx, hb, hml, hown, hts⟩ (q_goesIn l dC dI cT ad E5 H.size hI (by (try rw [(show xi (E5 0) 21 = y7 from vi_e fy7)]); omega)) (cwV 0 hts (gi_V (in_26 _ (zs4 (zs4 (zs0)))) (in_26 _ (zs4 (zs4 (zs1 (zs0))))) (in_26 _ (zs4 (zs4 (zs1 (zs1 (zs0)))))) (in_24 _ (zs4 (zs4 (zs4 (zs1 (zs1 (zs1 (zs0)))))))) (in_26 _ (zs4 (zs4 (zs1 (zs1 (zs1 (zs0)))))))) rfl rfl rfl ⟨rfl, hz_yX13_goesIn_0⟩ ⟨(show 1 + 1 ≤ 7 * n + 9 from nl_1 (Nat.le_of_ble_eq_true rfl)), (show 8 + (1 + 11) + 40 * (1) ≤ 40 * (7 * n + 9) from nl_2 (Nat.le_of_ble_eq_true rfl))⟩) ⟨HW_bl, va_recv hK hP (ci := 14) (q0 := 0) rfl (hI.ob 0 (Nat.le_of_ble_eq_true rfl) rfl), (HW_wi hP hK (WX_D hD) hS hA hEV)⟩ rfl rfl hl.1 rfl (lv_room (Nat.le_of_ble_eq_true rfl)) dX13_unit_12 ⟨Nat.le_of_ble_eq_true rfl, Nat.le_of_ble_eq_true rfl⟩) (WX_D hD) hS hA (fun r76 E77 H locs hw hP hS => ?_)
    obtain ⟨hI, kq78, hw⟩ := hw
    have hKb := hKp
    have hKp := hKp.tr kq78 (wl_sub rfl rfl)
    obtain ⟨y79, ey79⟩ : ∃ y, xi (E77 0) 21 = y := ⟨_, rfl⟩
    have fy79 : xv (E77 0) 21 = .int y79 := (hI.fi 0 (Nat.le_of_ble_eq_true rfl) rfl (Nat.le_of_ble_eq_true rfl) rfl).trans (congrArg Value.int ey79)
    have iy79 : 0 ≤ y79.toInt ∧ y79.toInt ≤ 201 := by rw [← ey79]; exact hI.iv 0 (Nat.le_of_ble_eq_true rfl) rfl (Nat.le_of_ble_eq_true rfl) rfl
    obtain ⟨y80, ey80⟩ : ∃ y, xi (E77 0) 22 = y := ⟨_, rfl⟩
    have fy80 : xv (E77 0) 22 = .int y80 := (hI.fi 0 (Nat.le_of_ble_eq_true rfl) rfl (Nat.le_of_ble_eq_true rfl) rfl).trans (congrArg Value.int ey80)
    have iy80 : -1 ≤ y80.toInt ∧ y80.toInt ≤ 201 := by rw [← ey80]; exact hI.iv 0 (Nat.le_of_ble_eq_true rfl) rfl (Nat.le_of_ble_eq_true rfl) rfl
    obtain ⟨y81, ey81⟩ : ∃ y, xi (E77 0) 23 = y := ⟨_, rfl⟩
    have fy81 : xv (E77 0) 23 = .int y81 := (hI.fi 0 (Nat.le_of_ble_eq_true rfl) rfl (Nat.le_of_ble_eq_true rfl) rfl).trans (congrArg Value.int ey81)
    have iy81 : 0 ≤ y81.toInt ∧ y81.toInt ≤ 8 := by rw [← ey81]; exact hI.iv 0 (Nat.le_of_ble_eq_true rfl) rfl (Nat.le_of_ble_eq_true rfl) rfl
    rcases hw with hw | hw
    · -- goesIn, case 0
      obtain ⟨rfl, f82, f83, f84, f85⟩ := hw
      try rw [(show xi (E5 0) 21 = y7 from vi_e fy7)] at f82
      try rw [(show xi (E77 0) 21 = y79 from vi_e fy79)] at f82
      try rw [(show xi (E5 0) 23 = y3 from vi_e ((kq6 0 23 rfl).trans fy3))] at f83
      try rw [(show xi (E77 0) 23 = y81 from vi_e fy81)] at f83
      try rw [(show xi (E5 0) 22 = y2 from vi_e ((kq6 0 22 rfl).trans fy2))] at f84
      try rw [(show xi (E77 0) 22 = y80 from vi_e fy80)] at f84
      try rw [(show xi (E5 0) 23 = y3 from vi_e ((kq6 0 23 rfl).trans fy3))] at f85
      try rw [(show xi (E77 0) 23 = y81 from vi_e fy81)] at f85
      obtain ⟨k9, hk9⟩ : ∃ k9, n = k9 + 1 := ⟨n - 1, by omega⟩
      refine lv_if_ne (tgt := 20) hx hb dX13_unit_15 (by decide) (fun c86 => ?_) (fun c86 => ?_)
      · --15 taken
        refine lv_aload_n hx hb dX13_unit_20 rfl (lv_at hl 1 rfl) ?_
        refine th_i (va_runV (As := []) (rest := []) ⟨hx, hb, hml, hown, hts⟩ ((gU k9 (by omega)) dC dI cT ad E77 H.size k nl hI (by exact hh0) (by exact hh1) (by exact hh2) (by exact (hKp 0 18 rfl).trans hh3) (by (try rw [hKp.ei 0 19 rfl]); exact hh4) (by (try rw [(show xi (E77 0) 23 = y81 from vi_e fy81)]); omega)) (cwV 0 hts (gi_V (in_29 _ (zs16 (zs16 (zs1 (zs0))))) (in_29 _ (zs16 (zs16 (zs1 (zs1 (zs0)))))) (in_29 _ (zs16 (zs16 (zs1 (zs1 (zs1 (zs0))))))) (in_24 _ (zs4 (zs4 (zs4 (zs1 (zs1 (zs1 (zs0)))))))) (in_29 _ (zs16 (zs16 (zs4 (zs0)))))) rfl rfl rfl (by decide +kernel) ⟨(show 7 * k9 + 9 + 1 ≤ 7 * n + 9 by omega), (show 8 + (3 + 11) + 40 * (7 * k9 + 9) ≤ 40 * (7 * n + 9) by omega)⟩) ⟨HW_bl, va_recv hK hP (ci := 14) (q0 := 0) rfl (hI.ob 0 (Nat.le_of_ble_eq_true rfl) rfl), (HW_wi hP hK (WX_D hD) hS hA hEV)⟩ rfl rfl hl.1 rfl (lv_room (Nat.le_of_ble_eq_true rfl)) dX13_unit_21 ⟨Nat.le_of_ble_eq_true rfl, Nat.le_of_ble_eq_true rfl⟩) (WX_D hD) hS hA (fun r87 E88 H locs hw hP hS => ?_)
        obtain ⟨hI, kq89, hw⟩ := hw
        have hKb := hKp
        have hKp := hKp.tr kq89 (wl_sub rfl rfl)
        obtain ⟨y90, ey90⟩ : ∃ y, xi (E88 0) 21 = y := ⟨_, rfl⟩
        have fy90 : xv (E88 0) 21 = .int y90 := (hI.fi 0 (Nat.le_of_ble_eq_true rfl) rfl (Nat.le_of_ble_eq_true rfl) rfl).trans (congrArg Value.int ey90)
        have iy90 : 0 ≤ y90.toInt ∧ y90.toInt ≤ 201 := by rw [← ey90]; exact hI.iv 0 (Nat.le_of_ble_eq_true rfl) rfl (Nat.le_of_ble_eq_true rfl) rfl
        obtain ⟨y91, ey91⟩ : ∃ y, xi (E88 0) 22 = y := ⟨_, rfl⟩
        have fy91 : xv (E88 0) 22 = .int y91 := (hI.fi 0 (Nat.le_of_ble_eq_true rfl) rfl (Nat.le_of_ble_eq_true rfl) rfl).trans (congrArg Value.int ey91)
        have iy91 : -1 ≤ y91.toInt ∧ y91.toInt ≤ 201 := by rw [← ey91]; exact hI.iv 0 (Nat.le_of_ble_eq_true rfl) rfl (Nat.le_of_ble_eq_true rfl) rfl
        obtain ⟨y92, ey92⟩ : ∃ y, xi (E88 0) 23 = y := ⟨_, rfl⟩
        have fy92 : xv (E88 0) 23 = .int y92 := (hI.fi 0 (Nat.le_of_ble_eq_true rfl) rfl (Nat.le_of_ble_eq_true rfl) rfl).trans (congrArg Value.int ey92)
        have iy92 : 0 ≤ y92.toInt ∧ y92.toInt ≤ 8 := by rw [← ey92]; exact hI.iv 0 (Nat.le_of_ble_eq_true rfl) rfl (Nat.le_of_ble_eq_true rfl) rfl
        obtain ⟨f93, f94, f95, f96, f97⟩ := hw
        try rw [(show xi (E77 0) 21 = y79 from vi_e fy79)] at f94
        try rw [(show xi (E88 0) 21 = y90 from vi_e fy90)] at f94
        try rw [(show xi (E77 0) 23 = y81 from vi_e fy81)] at f95
        try rw [(show xi (E88 0) 23 = y92 from vi_e fy92)] at f95
        try rw [(show xi (E77 0) 22 = y80 from vi_e fy80)] at f96
        try rw [(show xi (E77 0) 23 = y81 from vi_e fy81)] at f96
        try rw [(show xi (E88 0) 22 = y91 from vi_e fy91)] at f96
        try rw [(show xi (E88 0) 23 = y92 from vi_e fy92)] at f96
        try rw [(show xi (E77 0) 22 = y80 from vi_e fy80)] at f97
        try rw [(show xi (E88 0) 22 = y91 from vi_e fy91)] at f97
        refine lv_istore_n (lv' := [(2, .int r87), (1, .int r4), (0, .ref (ad 0))]) hx hb dX13_unit_24 rfl hl (by decide) rfl (fun ls hl => ?_)
        refine lv_aload_n hx hb dX13_unit_25 rfl (lv_at hl 2 rfl) ?_
        refine lv_dup hx hb dX13_unit_26 rfl ?_
        refine th_get (ci := 14) (C := RX13) (T := TX13) (N := 97) (v := .int y92) hx hb hts hinX13 hown hK hP hI 0 (Nat.le_of_ble_eq_true rfl) rfl rfl 23 (Nat.le_of_ble_eq_true rfl) (hts _ (vA_in _ _ (in_25 _ (zs16 (zs16 (zs4 (zs1 (zs1 (zs0))))))))) (fun _ h9 => h9) fy92 dX13_unit_27 ?_
        refine lv_iconst (v := 1) hx hb dX13_unit_30 (by decide) ?_
        refine lv_isub hx hb dX13_unit_31 ?_
        refine lv_topi (fun y98 ey98 => ?_)
        obtain ⟨ty98, iy98⟩ := ti_sub (e := (-1)) (f := 7) iy92 ln_1 ey98 (by decide)
        have ty98 : y98.toInt = y92.toInt - 1 := ty98
        have iy98 : -1 ≤ y98.toInt ∧ y98.toInt ≤ 7 := iy98
        have i99 : 0 ≤ y98.toInt ∧ y98.toInt ≤ 7 := by omega
        refine th_put (ci := 14) (C := RX13) (T := TX13) (N := 97) (v := .int y98) (ty := .int) hx hb hts hinX13 tyX13 tyX13_ok nmX13 hown hK hP (WX_D hD) hS hI 0 (Nat.le_of_ble_eq_true rfl) rfl rfl 23 (Nat.le_of_ble_eq_true rfl) (hts _ (vA_in _ _ (in_25 _ (zs16 (zs16 (zs4 (zs1 (zs1 (zs0))))))))) (fun _ h9 => h9) rfl (by decide +kernel) rfl rfl (okI rfl (iv_w i99 (by decide))) dX13_unit_32 (fun H locs E100 pw101 hI hP hS => ?_)
        have hKp := hKp.pw pw101 rfl
        refine lv_iload_n hx hb dX13_unit_35 rfl (lv_at hl 0 rfl) ?_
        refine lv_if_ne (tgt := 43) hx hb dX13_unit_36 (by decide) (fun c102 => ?_) (fun c102 => ?_)
        · --36 taken
          have t103 : ¬ r87.toInt = 0 := ti_ne c102
          have i104 : 1 ≤ r87.toInt ∧ r87.toInt ≤ 1 := iv_ne_l t103 f93 (il_ 0)
          refine lv_iconst (v := 0) hx hb dX13_unit_43 (by decide) ?_
          rw [hQ]
          exact W.zret (v := 0) hx hb hr rfl (fun t ht hW => ⟨⟨0, E100, rfl, ⟨hI, hKp, ⟨(iv_w ln_0 (by decide)), by (try rw [(show xi (E100 0) 21 = y90 from vi_e ((pw101.2 0 21 (fun q9 => absurd q9.2 (Nat.ne_of_beq_eq_false rfl))).trans fy90))]); (try rw [ey1]); first | done | exact (Int.le_trans (Int.le_trans f9 (Int.le_trans (Int.le_add_of_nonneg_right (by decide)) (Int.le_of_eq f82.symm))) f94) | have h8 := ln_0; all_goals omega, by have h8 := ln_0; (try rw [(show xi (E100 0) 23 = y98 from vi_e pw101.1)]); (try rw [ey1]); (try rw [ey2]); (try rw [ey3]); all_goals omega, by have h8 := ln_0; (try rw [(show xi (E100 0) 22 = y91 from vi_e ((pw101.2 0 22 (fun q9 => absurd q9.2 (Nat.ne_of_beq_eq_false rfl))).trans fy91))]); (try rw [(show xi (E100 0) 23 = y98 from vi_e pw101.1)]); (try rw [ey1]); (try rw [ey2]); (try rw [ey3]); all_goals omega, by have h8 := ln_0; (try rw [(show xi (E100 0) 22 = y91 from vi_e ((pw101.2 0 22 (fun q9 => absurd q9.2 (Nat.ne_of_beq_eq_false rfl))).trans fy91))]); (try rw [ey1]); (try rw [ey2]); (try rw [ey3]); all_goals omega⟩⟩, by show va_P (dC, dI) vwCl (WX 72 ad E100) t.heap; rw [ht]; exact hP⟩, hS.F ht⟩) hS.2.2 dX13_unit_44
        · --36 not
          have t105 : r87.toInt = 0 := ti_eq c102
          have i106 : 0 ≤ r87.toInt ∧ r87.toInt ≤ 0 := iv_eqi t105 f93 (il_ 0) (by decide)
          refine lv_iconst (v := 1) hx hb dX13_unit_39 (by decide) ?_
          refine lv_goto (tgt := 44) hx hb dX13_unit_40 (by decide) ?_
          rw [hQ]
          exact W.zret (v := 1) hx hb hr rfl (fun t ht hW => ⟨⟨1, E100, rfl, ⟨hI, hKp, ⟨(iv_w ln_1 (by decide)), by (try rw [(show xi (E100 0) 21 = y90 from vi_e ((pw101.2 0 21 (fun q9 => absurd q9.2 (Nat.ne_of_beq_eq_false rfl))).trans fy90))]); (try rw [ey1]); first | done | exact (Int.le_trans (Int.le_trans f9 (Int.le_trans (Int.le_add_of_nonneg_right (by decide)) (Int.le_of_eq f82.symm))) f94) | have h8 := ln_1; all_goals omega, by have h8 := ln_1; (try rw [(show xi (E100 0) 23 = y98 from vi_e pw101.1)]); (try rw [ey1]); (try rw [ey2]); (try rw [ey3]); all_goals omega, by have h8 := ln_1; (try rw [(show xi (E100 0) 22 = y91 from vi_e ((pw101.2 0 22 (fun q9 => absurd q9.2 (Nat.ne_of_beq_eq_false rfl))).trans fy91))]); (try rw [(show xi (E100 0) 23 = y98 from vi_e pw101.1)]); (try rw [ey1]); (try rw [ey2]); (try rw [ey3]); all_goals omega, by have h8 := ln_1; (try rw [(show xi (E100 0) 22 = y91 from vi_e ((pw101.2 0 22 (fun q9 => absurd q9.2 (Nat.ne_of_beq_eq_false rfl))).trans fy91))]); (try rw [ey1]); (try rw [ey2]); (try rw [ey3]); all_goals omega⟩⟩, by show va_P (dC, dI) vwCl (WX 72 ad E100) t.heap; rw [ht]; exact hP⟩, hS.F ht⟩) hS.2.2 dX13_unit_44
      · --15 not
        exact absurd c86 (by decide)
    · -- goesIn, case 1
      obtain ⟨rfl, f107, f108, f109⟩ := hw
      try rw [(show xi (E5 0) 21 = y7 from vi_e fy7)] at f107
      try rw [(show xi (E77 0) 21 = y79 from vi_e fy79)] at f107
      try rw [(show xi (E5 0) 23 = y3 from vi_e ((kq6 0 23 rfl).trans fy3))] at f108
      try rw [(show xi (E77 0) 23 = y81 from vi_e fy81)] at f108
      try rw [(show xi (E5 0) 22 = y2 from vi_e ((kq6 0 22 rfl).trans fy2))] at f109
      try rw [(show xi (E77 0) 22 = y80 from vi_e fy80)] at f109
      refine lv_if_ne (tgt := 20) hx hb dX13_unit_15 (by decide) (fun c110 => ?_) (fun c110 => ?_)
      · --15 taken
        exact absurd c110 (by decide)
      · --15 not
        refine lv_iconst (v := 0) hx hb dX13_unit_18 (by decide) ?_
        rw [hQ]
        exact W.zret (v := 0) hx hb hr rfl (fun t ht hW => ⟨⟨0, E77, rfl, ⟨hI, hKp, ⟨(iv_w ln_0 (by decide)), by (try rw [(show xi (E77 0) 21 = y79 from vi_e fy79)]); (try rw [ey1]); first | done | exact (Int.le_trans f9 (Int.le_of_eq f107.symm)) | have h8 := ln_0; all_goals omega, by (try rw [(show xi (E77 0) 23 = y81 from vi_e fy81)]); (try rw [ey3]); first | done | exact (Int.le_of_eq f108.symm) | have h8 := ln_0; all_goals omega, by (try rw [(show xi (E77 0) 22 = y80 from vi_e fy80)]); (try rw [(show xi (E77 0) 23 = y81 from vi_e fy81)]); (try rw [ey2]); (try rw [ey3]); first | done | exact fun q9 => absurd (q9) f109 | have h8 := ln_0; all_goals omega, by (try rw [(show xi (E77 0) 22 = y80 from vi_e fy80)]); (try rw [ey2]); first | done | exact fun q9 => absurd (q9) f109 | have h8 := ln_0; all_goals omega⟩⟩, by show va_P (dC, dI) vwCl (WX 72 ad E77) t.heap; rw [ht]; exact hP⟩, hS.F ht⟩) hS.2.2 dX13_unit_19
set_option maxHeartbeats 4000000 in
set_option maxRecDepth 100000 in
theorem q_part (l : Launch) (n : Nat) (gC : C_compares l n) (gU : C_unit l n) : C_part l n := by
  intro dC dI cT ad E sz a0 a1 k nl hI0 hh0 hh1 hh2 hh3 hh4 hh5 hh6
  refine Met.ofW (cc := cX13_part) (maxL := 5) (ret := (some .boolean)) (by decide) rfl ?_
  intro p e s m args below meth c s₁ B hml hv
  obtain ⟨hargs, hsz, hP, hK, hD0, hEV⟩ := hv
  subst hsz
  have hx := B.exec
  have hb := B.bytes
  have hr := B.returns
  have hts := atoms_spec (ws := v_part) B.pre
  have hown : s.vm.findClass RX13 = some m.cls := findClass_of_methodNamed B.named
  have hlocks := B.notSynchronized
  have hinX13 : ∀ w ∈ u_ws RX13 TX13 97, w ∈ v_part := fun w h => vA_in _ w (in_X13 w h)
  generalize hAe : va_A (WX 72 ad E) s.heap.size = A at hEV ⊢
  have hA : ∀ q : Nat, s.heap.size ≤ q → A q := fun q h => by rw [← hAe]; exact Or.inr h
  have hD : va_D A (WX 72 ad E) := by rw [← hAe]; exact hD0.self
  have hS : va_S A s.heap s.heap [] := va_S.rf
  have hI := hI0
  have hKp : Kp w_part E E := Kp.rf
  have hl := lv_entry ([.ref (ad 0), .int a0, .int a1]) (n := 5) (Nat.le_of_ble_eq_true rfl)
  obtain ⟨Q, hQ⟩ : ∃ Q, Q = MQ below (va_Qi (S := Nat → va_E) (fun r u => IX cT shM spM 72 ad u ∧ Kp w_part E u ∧ ((0 ≤ r.toInt ∧ r.toInt ≤ 1) ∧ ((xi (E 0) 21).toInt ≤ (xi (u 0) 21).toInt) ∧ ((xi (E 0) 23).toInt ≤ (xi (u 0) 23).toInt) ∧ ((xi (u 0) 22).toInt = -1 → (xi (u 0) 23).toInt = (xi (E 0) 23).toInt) ∧ ((xi (u 0) 22).toInt = -1 → (xi (E 0) 22).toInt = -1))) (HB dC dI 72 ad) (A)) args s 0 0 (A) := ⟨_, rfl⟩
  rw [← hQ, show entryFrame m args 5 = _ from (congrArg (fun z => entryFrame m z 5) hargs).trans (lg_entry_eq _ _ _)]
  generalize (lg_sl ([.ref (ad 0), .int a0, .int a1]) ++ List.replicate (5 - (lg_sl ([.ref (ad 0), .int a0, .int a1])).length) Slot.unset).toArray = ls at hl ⊢
  have hl : lv_has ls 5 [(0, .ref (ad 0)), (1, .int a0), (2, .int a1)] := hl
  obtain ⟨y1, ey1⟩ : ∃ y, xi (E 0) 21 = y := ⟨_, rfl⟩
  have fy1 : xv (E 0) 21 = .int y1 := (hI.fi 0 (Nat.le_of_ble_eq_true rfl) rfl (Nat.le_of_ble_eq_true rfl) rfl).trans (congrArg Value.int ey1)
  have iy1 : 0 ≤ y1.toInt ∧ y1.toInt ≤ 201 := by rw [← ey1]; exact hI.iv 0 (Nat.le_of_ble_eq_true rfl) rfl (Nat.le_of_ble_eq_true rfl) rfl
  obtain ⟨y2, ey2⟩ : ∃ y, xi (E 0) 22 = y := ⟨_, rfl⟩
  have fy2 : xv (E 0) 22 = .int y2 := (hI.fi 0 (Nat.le_of_ble_eq_true rfl) rfl (Nat.le_of_ble_eq_true rfl) rfl).trans (congrArg Value.int ey2)
  have iy2 : -1 ≤ y2.toInt ∧ y2.toInt ≤ 201 := by rw [← ey2]; exact hI.iv 0 (Nat.le_of_ble_eq_true rfl) rfl (Nat.le_of_ble_eq_true rfl) rfl
  obtain ⟨y3, ey3⟩ : ∃ y, xi (E 0) 23 = y := ⟨_, rfl⟩
  have fy3 : xv (E 0) 23 = .int y3 := (hI.fi 0 (Nat.le_of_ble_eq_true rfl) rfl (Nat.le_of_ble_eq_true rfl) rfl).trans (congrArg Value.int ey3)
  have iy3 : 0 ≤ y3.toInt ∧ y3.toInt ≤ 8 := by rw [← ey3]; exact hI.iv 0 (Nat.le_of_ble_eq_true rfl) rfl (Nat.le_of_ble_eq_true rfl) rfl
  rw [ey3] at hh5
  refine lv_iload_n hx hb dX13_part_0 rfl (lv_at hl 1 rfl) ?_
  have hJ17 : ∀ (s17_0 : Int32) (w17_0_21 : Int32) (w17_0_22 : Int32) (w17_0_23 : Int32) (E17_ : Nat → va_E) (H : Heap) (locs : List Loc) (ls : Array Slot), 0 ≤ s17_0.toInt ∧ s17_0.toInt ≤ 1 → 0 ≤ w17_0_21.toInt ∧ w17_0_21.toInt ≤ 201 → -1 ≤ w17_0_22.toInt ∧ w17_0_22.toInt ≤ 201 → 0 ≤ w17_0_23.toInt ∧ w17_0_23.toInt ≤ 8 → y1.toInt ≤ w17_0_21.toInt → y3.toInt ≤ w17_0_23.toInt → (w17_0_22.toInt = -1 → w17_0_23.toInt = y3.toInt) → (w17_0_22.toInt = -1 → y2.toInt = -1) → IX cT shM spM 72 ad E17_ → Kp w_part E E17_ → xv (E17_ 0) 21 = .int w17_0_21 → xv (E17_ 0) 22 = .int w17_0_22 → xv (E17_ 0) 23 = .int w17_0_23 → va_P (dC, dI) vwCl (WX 72 ad E17_) H → va_S A s.heap H locs → lv_has ls 5 [(0, .ref (ad 0)), (1, .int a0), (2, .int a1)] → W p l e (headSpec v_part (rm_part n)).room s m args below meth c H locs 0 0 Q (F0 m 17 ls [.int s17_0]) := by
    intro s17_0 w17_0_21 w17_0_22 w17_0_23 E17_ H locs ls hs17_0 hw17_0_21 hw17_0_22 hw17_0_23 hx17_0 hx17_1 hx17_2 hx17_3 hI hKp hs17_0_21 hs17_0_22 hs17_0_23 hP hS hl
    refine lv_istore_n (lv' := [(3, .int s17_0), (0, .ref (ad 0)), (1, .int a0), (2, .int a1)]) hx hb dX13_part_17 rfl hl (by decide) rfl (fun ls hl => ?_)
    have hL18 : ∀ d : Nat, ∀ (w18_0_21 : Int32) (w18_0_22 : Int32) (w18_0_23 : Int32) (v18_3 : Int32) (E18_ : Nat → va_E) (H : Heap) (locs : List Loc) (ls : Array Slot), 0 ≤ w18_0_21.toInt ∧ w18_0_21.toInt ≤ 201 → -1 ≤ w18_0_22.toInt ∧ w18_0_22.toInt ≤ 201 → 0 ≤ w18_0_23.toInt ∧ w18_0_23.toInt ≤ 8 → 0 ≤ v18_3.toInt ∧ v18_3.toInt ≤ 1 → y1.toInt ≤ w18_0_21.toInt → y3.toInt ≤ w18_0_23.toInt → (w18_0_22.toInt = -1 → w18_0_23.toInt = y3.toInt) → (w18_0_22.toInt = -1 → y2.toInt = -1) → 201 - w18_0_21.toInt < (d : Int) → IX cT shM spM 72 ad E18_ → Kp w_part E E18_ → xv (E18_ 0) 21 = .int w18_0_21 → xv (E18_ 0) 22 = .int w18_0_22 → xv (E18_ 0) 23 = .int w18_0_23 → va_P (dC, dI) vwCl (WX 72 ad E18_) H → va_S A s.heap H locs → lv_has ls 5 [(3, .int v18_3), (0, .ref (ad 0)), (1, .int a0), (2, .int a1)] → W p l e (headSpec v_part (rm_part n)).room s m args below meth c H locs 0 0 Q (F0 m 18 ls []) := by
      intro d
      induction d with
      | zero =>
        intro w18_0_21 w18_0_22 w18_0_23 v18_3 E18_ H locs ls hw18_0_21 hw18_0_22 hw18_0_23 hv18_3 hx18_0 hx18_1 hx18_2 hx18_3 hx18_4 hI hKp hs18_0_21 hs18_0_22 hs18_0_23 hP hS hl
        exact absurd hx18_4 (by omega)
      | succ d ih18 =>
        intro w18_0_21 w18_0_22 w18_0_23 v18_3 E18_ H locs ls hw18_0_21 hw18_0_22 hw18_0_23 hv18_3 hx18_0 hx18_1 hx18_2 hx18_3 hx18_4 hI hKp hs18_0_21 hs18_0_22 hs18_0_23 hP hS hl
        refine lv_aload_n hx hb dX13_part_18 rfl (lv_at hl 1 rfl) ?_
        refine th_get (ci := 14) (C := RX13) (T := TX13) (N := 97) (v := .int w18_0_22) hx hb hts hinX13 hown hK hP hI 0 (Nat.le_of_ble_eq_true rfl) rfl rfl 22 (Nat.le_of_ble_eq_true rfl) (hts _ (vA_in _ _ (in_25 _ (zs16 (zs16 (zs4 (zs1 (zs1 (zs1 (zs0)))))))))) (fun _ h9 => h9) hs18_0_22 dX13_part_19 ?_
        refine lv_iconst (v := -1) hx hb dX13_part_22 (by decide) ?_
        refine lv_icmp_ne (tgt := 69) hx hb dX13_part_23 (by decide) (fun c4 => ?_) (fun c4 => ?_)
        · --23 taken
          have t5 : ¬ w18_0_22.toInt = -1 := ti_ne c4
          have i6 : 0 ≤ w18_0_22.toInt ∧ w18_0_22.toInt ≤ 201 := iv_ne_l t5 hw18_0_22 (il_ (-1))
          refine lv_iload_n hx hb dX13_part_69 rfl (lv_at hl 0 rfl) ?_
          rw [hQ]
          exact W.zret (v := v18_3) hx hb hr (nar_b1 hv18_3) (fun t ht hW => ⟨⟨v18_3, E18_, rfl, ⟨hI, hKp, ⟨hv18_3, by (try rw [(show xi (E18_ 0) 21 = w18_0_21 from vi_e hs18_0_21)]); (try rw [ey1]); first | done | exact hx18_0 | all_goals omega, by (try rw [(show xi (E18_ 0) 23 = w18_0_23 from vi_e hs18_0_23)]); (try rw [ey3]); first | done | exact hx18_1 | all_goals omega, by (try rw [(show xi (E18_ 0) 22 = w18_0_22 from vi_e hs18_0_22)]); (try rw [(show xi (E18_ 0) 23 = w18_0_23 from vi_e hs18_0_23)]); (try rw [ey2]); (try rw [ey3]); first | done | exact fun q9 => absurd (q9) t5 | all_goals omega, by (try rw [(show xi (E18_ 0) 22 = w18_0_22 from vi_e hs18_0_22)]); (try rw [ey2]); first | done | exact fun q9 => absurd (q9) t5 | all_goals omega⟩⟩, by show va_P (dC, dI) vwCl (WX 72 ad E18_) t.heap; rw [ht]; exact hP⟩, hS.F ht⟩) hS.2.2 dX13_part_70
        · --23 not
          have t7 : w18_0_22.toInt = -1 := ti_eq c4
          have i8 : -1 ≤ w18_0_22.toInt ∧ w18_0_22.toInt ≤ -1 := iv_eqi t7 hw18_0_22 (il_ (-1)) (by decide)
          refine lv_aload_n hx hb dX13_part_26 rfl (lv_at hl 1 rfl) ?_
          refine th_i (va_runV (As := []) (rest := []) ⟨hx, hb, hml, hown, hts⟩ (q_look l dC dI cT ad E18_ H.size k nl hI (by exact hh0) (by exact hh1) (by exact hh2) (by exact (hKp 0 18 rfl).trans hh3) (by (try rw [hKp.ei 0 19 rfl]); exact hh4)) (cwV 0 hts (gi_V (in_26 _ (zs1 (zs1 (zs0)))) (in_26 _ (zs1 (zs1 (zs1 (zs0))))) (in_26 _ (zs4 (zs0))) (in_24 _ (zs4 (zs4 (zs4 (zs1 (zs1 (zs1 (zs0)))))))) (in_26 _ (zs4 (zs1 (zs0))))) rfl rfl rfl ⟨rfl, hz_yX13_look_0⟩ ⟨(show 0 + 1 ≤ 7 * n + 10 from nl_1 (Nat.le_of_ble_eq_true rfl)), (show 8 + (1 + 11) + 40 * (0) ≤ 40 * (7 * n + 10) from nl_2 (Nat.le_of_ble_eq_true rfl))⟩) ⟨HW_bl, va_recv hK hP (ci := 14) (q0 := 0) rfl (hI.ob 0 (Nat.le_of_ble_eq_true rfl) rfl), (HW_wi hP hK (WX_D hD) hS hA hEV)⟩ rfl rfl hl.1 rfl (lv_room (Nat.le_of_ble_eq_true rfl)) dX13_part_27 ⟨Nat.le_of_ble_eq_true rfl, Nat.le_of_ble_eq_true rfl⟩) (WX_D hD) hS hA (fun r9 E10 H locs hw hP hS => ?_)
          obtain ⟨hI, kq11, hw⟩ := hw
          have hKb := hKp
          have hKp := hKp.tr kq11 (wl_sub rfl rfl)
          obtain ⟨y12, ey12⟩ : ∃ y, xi (E10 0) 21 = y := ⟨_, rfl⟩
          have fy12 : xv (E10 0) 21 = .int y12 := (hI.fi 0 (Nat.le_of_ble_eq_true rfl) rfl (Nat.le_of_ble_eq_true rfl) rfl).trans (congrArg Value.int ey12)
          have iy12 : 0 ≤ y12.toInt ∧ y12.toInt ≤ 201 := by rw [← ey12]; exact hI.iv 0 (Nat.le_of_ble_eq_true rfl) rfl (Nat.le_of_ble_eq_true rfl) rfl
          obtain ⟨f13, f14, f15, f16⟩ := hw
          have i17 : 0 ≤ (xi (E 0) 19).toInt ∧ (xi (E 0) 19).toInt ≤ 3000 := (show 0 ≤ (xi (E 0) 19).toInt ∧ (xi (E 0) 19).toInt ≤ 3000 from hI0.iv 0 (Nat.le_of_ble_eq_true rfl) rfl (Nat.le_of_ble_eq_true rfl) rfl)
          have i18 : 0 ≤ (xi (E 0) 20).toInt ∧ (xi (E 0) 20).toInt ≤ 200 := (show 0 ≤ (xi (E 0) 20).toInt ∧ (xi (E 0) 20).toInt ≤ 200 from hI0.iv 0 (Nat.le_of_ble_eq_true rfl) rfl (Nat.le_of_ble_eq_true rfl) rfl)
          try rw [(show xi (E18_ 0) 21 = w18_0_21 from vi_e hs18_0_21)] at f14
          try rw [(show xi (E10 0) 21 = y12 from vi_e fy12)] at f14
          try rw [(show xi (E18_ 0) 21 = w18_0_21 from vi_e hs18_0_21)] at f15
          try rw [hKb.ei 0 20 rfl] at f15
          try rw [(show xi (E10 0) 21 = y12 from vi_e fy12)] at f15
          try rw [(show xi (E18_ 0) 21 = w18_0_21 from vi_e hs18_0_21)] at f16
          try rw [hKb.ei 0 20 rfl] at f16
          try rw [(show xi (E10 0) 21 = y12 from vi_e fy12)] at f16
          refine lv_bipush (v := 38) hx hb dX13_part_30 (by decide) ?_
          refine lv_icmp_ne (tgt := 69) hx hb dX13_part_32 (by decide) (fun c19 => ?_) (fun c19 => ?_)
          · --32 taken
            have t20 : ¬ r9.toInt = 38 := ti_ne c19
            refine lv_iload_n hx hb dX13_part_69 rfl (lv_at hl 0 rfl) ?_
            rw [hQ]
            exact W.zret (v := v18_3) hx hb hr (nar_b1 hv18_3) (fun t ht hW => ⟨⟨v18_3, E10, rfl, ⟨hI, hKp, ⟨hv18_3, by (try rw [(show xi (E10 0) 21 = y12 from vi_e fy12)]); (try rw [ey1]); first | done | exact (Int.le_trans hx18_0 f14) | all_goals omega, by (try rw [(show xi (E10 0) 23 = w18_0_23 from vi_e ((kq11 0 23 rfl).trans hs18_0_23))]); (try rw [ey3]); first | done | exact hx18_1 | all_goals omega, by (try rw [(show xi (E10 0) 22 = w18_0_22 from vi_e ((kq11 0 22 rfl).trans hs18_0_22))]); (try rw [(show xi (E10 0) 23 = w18_0_23 from vi_e ((kq11 0 23 rfl).trans hs18_0_23))]); (try rw [ey2]); (try rw [ey3]); first | done | exact fun q9 => (hx18_2 (q9)) | all_goals omega, by (try rw [(show xi (E10 0) 22 = w18_0_22 from vi_e ((kq11 0 22 rfl).trans hs18_0_22))]); (try rw [ey2]); first | done | exact fun q9 => hx18_3 (q9) | all_goals omega⟩⟩, by show va_P (dC, dI) vwCl (WX 72 ad E10) t.heap; rw [ht]; exact hP⟩, hS.F ht⟩) hS.2.2 dX13_part_70
          · --32 not
            have t21 : r9.toInt = 38 := ti_eq c19
            have i22 : 38 ≤ r9.toInt ∧ r9.toInt ≤ 38 := iv_eqi t21 f13 (il_ 38) (by decide)
            refine lv_aload_n hx hb dX13_part_35 rfl (lv_at hl 1 rfl) ?_
            refine lv_dup hx hb dX13_part_36 rfl ?_
            refine th_get (ci := 14) (C := RX13) (T := TX13) (N := 97) (v := .int y12) hx hb hts hinX13 hown hK hP hI 0 (Nat.le_of_ble_eq_true rfl) rfl rfl 21 (Nat.le_of_ble_eq_true rfl) (hts _ (vA_in _ _ (in_25 _ (zs16 (zs16 (zs4 (zs0))))))) (fun _ h9 => h9) fy12 dX13_part_37 ?_
            refine lv_iconst (v := 1) hx hb dX13_part_40 (by decide) ?_
            refine lv_iadd hx hb dX13_part_41 ?_
            refine lv_topi (fun y23 ey23 => ?_)
            obtain ⟨ty23, iy23⟩ := ti_add (e := 1) (f := 202) iy12 ln_1 ey23 (by decide)
            have ty23 : y23.toInt = y12.toInt + 1 := ty23
            have iy23 : 1 ≤ y23.toInt ∧ y23.toInt ≤ 202 := iy23
            have i24 : 1 ≤ y23.toInt ∧ y23.toInt ≤ 201 := by omega
            refine th_put (ci := 14) (C := RX13) (T := TX13) (N := 97) (v := .int y23) (ty := .int) hx hb hts hinX13 tyX13 tyX13_ok nmX13 hown hK hP (WX_D hD) hS hI 0 (Nat.le_of_ble_eq_true rfl) rfl rfl 21 (Nat.le_of_ble_eq_true rfl) (hts _ (vA_in _ _ (in_25 _ (zs16 (zs16 (zs4 (zs0))))))) (fun _ h9 => h9) rfl (by decide +kernel) rfl rfl (okI rfl (iv_w i24 (by decide))) dX13_part_42 (fun H locs E25 pw26 hI hP hS => ?_)
            have hKp := hKp.pw pw26 rfl
            refine lv_aload_n hx hb dX13_part_45 rfl (lv_at hl 1 rfl) ?_
            refine th_i (va_runV (As := []) (rest := []) ⟨hx, hb, hml, hown, hts⟩ (gU dC dI cT ad E25 H.size k nl hI (by exact hh0) (by exact hh1) (by exact hh2) (by exact (hKp 0 18 rfl).trans hh3) (by (try rw [hKp.ei 0 19 rfl]); exact hh4) (by (try rw [(show xi (E25 0) 23 = w18_0_23 from vi_e ((pw26.2 0 23 (fun q9 => absurd q9.2 (Nat.ne_of_beq_eq_false rfl))).trans ((kq11 0 23 rfl).trans hs18_0_23)))]); omega)) (cwV 0 hts (gi_V (in_29 _ (zs16 (zs16 (zs1 (zs0))))) (in_29 _ (zs16 (zs16 (zs1 (zs1 (zs0)))))) (in_29 _ (zs16 (zs16 (zs1 (zs1 (zs1 (zs0))))))) (in_24 _ (zs4 (zs4 (zs4 (zs1 (zs1 (zs1 (zs0)))))))) (in_29 _ (zs16 (zs16 (zs4 (zs0)))))) rfl rfl rfl (by decide +kernel) ⟨(show 7 * n + 9 + 1 ≤ 7 * n + 10 from nl_4 (Nat.le_of_ble_eq_true rfl) (Nat.le_of_ble_eq_true rfl)), (show 8 + (3 + 11) + 40 * (7 * n + 9) ≤ 40 * (7 * n + 10) from nl_3 (Nat.le_of_ble_eq_true rfl) (Nat.le_of_ble_eq_true rfl))⟩) ⟨HW_bl, va_recv hK hP (ci := 14) (q0 := 0) rfl (hI.ob 0 (Nat.le_of_ble_eq_true rfl) rfl), (HW_wi hP hK (WX_D hD) hS hA hEV)⟩ rfl rfl hl.1 rfl (lv_room (Nat.le_of_ble_eq_true rfl)) dX13_part_46 ⟨Nat.le_of_ble_eq_true rfl, Nat.le_of_ble_eq_true rfl⟩) (WX_D hD) hS hA (fun r27 E28 H locs hw hP hS => ?_)
            obtain ⟨hI, kq29, hw⟩ := hw
            have hKb := hKp
            have hKp := hKp.tr kq29 (wl_sub rfl rfl)
            obtain ⟨y30, ey30⟩ : ∃ y, xi (E28 0) 21 = y := ⟨_, rfl⟩
            have fy30 : xv (E28 0) 21 = .int y30 := (hI.fi 0 (Nat.le_of_ble_eq_true rfl) rfl (Nat.le_of_ble_eq_true rfl) rfl).trans (congrArg Value.int ey30)
            have iy30 : 0 ≤ y30.toInt ∧ y30.toInt ≤ 201 := by rw [← ey30]; exact hI.iv 0 (Nat.le_of_ble_eq_true rfl) rfl (Nat.le_of_ble_eq_true rfl) rfl
            obtain ⟨y31, ey31⟩ : ∃ y, xi (E28 0) 22 = y := ⟨_, rfl⟩
            have fy31 : xv (E28 0) 22 = .int y31 := (hI.fi 0 (Nat.le_of_ble_eq_true rfl) rfl (Nat.le_of_ble_eq_true rfl) rfl).trans (congrArg Value.int ey31)
            have iy31 : -1 ≤ y31.toInt ∧ y31.toInt ≤ 201 := by rw [← ey31]; exact hI.iv 0 (Nat.le_of_ble_eq_true rfl) rfl (Nat.le_of_ble_eq_true rfl) rfl
            obtain ⟨y32, ey32⟩ : ∃ y, xi (E28 0) 23 = y := ⟨_, rfl⟩
            have fy32 : xv (E28 0) 23 = .int y32 := (hI.fi 0 (Nat.le_of_ble_eq_true rfl) rfl (Nat.le_of_ble_eq_true rfl) rfl).trans (congrArg Value.int ey32)
            have iy32 : 0 ≤ y32.toInt ∧ y32.toInt ≤ 8 := by rw [← ey32]; exact hI.iv 0 (Nat.le_of_ble_eq_true rfl) rfl (Nat.le_of_ble_eq_true rfl) rfl
            obtain ⟨f33, f34, f35, f36, f37⟩ := hw
            try rw [(show xi (E25 0) 21 = y23 from vi_e pw26.1)] at f34
            try rw [(show xi (E28 0) 21 = y30 from vi_e fy30)] at f34
            try rw [(show xi (E25 0) 23 = w18_0_23 from vi_e ((pw26.2 0 23 (fun q9 => absurd q9.2 (Nat.ne_of_beq_eq_false rfl))).trans ((kq11 0 23 rfl).trans hs18_0_23)))] at f35
            try rw [(show xi (E28 0) 23 = y32 from vi_e fy32)] at f35
            try rw [(show xi (E25 0) 22 = w18_0_22 from vi_e ((pw26.2 0 22 (fun q9 => absurd q9.2 (Nat.ne_of_beq_eq_false rfl))).trans ((kq11 0 22 rfl).trans hs18_0_22)))] at f36
            try rw [(show xi (E25 0) 23 = w18_0_23 from vi_e ((pw26.2 0 23 (fun q9 => absurd q9.2 (Nat.ne_of_beq_eq_false rfl))).trans ((kq11 0 23 rfl).trans hs18_0_23)))] at f36
            try rw [(show xi (E28 0) 22 = y31 from vi_e fy31)] at f36
            try rw [(show xi (E28 0) 23 = y32 from vi_e fy32)] at f36
            try rw [(show xi (E25 0) 22 = w18_0_22 from vi_e ((pw26.2 0 22 (fun q9 => absurd q9.2 (Nat.ne_of_beq_eq_false rfl))).trans ((kq11 0 22 rfl).trans hs18_0_22)))] at f37
            try rw [(show xi (E28 0) 22 = y31 from vi_e fy31)] at f37
            refine lv_istore (lv' := [(4, .int r27), (3, .int v18_3), (0, .ref (ad 0)), (1, .int a0), (2, .int a1)]) hx hb dX13_part_49 hl (by decide) rfl (fun ls hl => ?_)
            refine lv_iload_n hx hb dX13_part_51 rfl (lv_at hl 1 rfl) ?_
            refine lv_if_eq (tgt := 64) hx hb dX13_part_52 (by decide) (fun c38 => ?_) (fun c38 => ?_)
            · --52 taken
              have t39 : v18_3.toInt = 0 := ti_eq c38
              have i40 : 0 ≤ v18_3.toInt ∧ v18_3.toInt ≤ 0 := iv_eqi t39 hv18_3 (il_ 0) (by decide)
              refine lv_iconst (v := 0) hx hb dX13_part_64 (by decide) ?_
              refine lv_istore_n (lv' := [(3, .int 0), (4, .int r27), (0, .ref (ad 0)), (1, .int a0), (2, .int a1)]) hx hb dX13_part_65 rfl hl (by decide) rfl (fun ls hl => ?_)
              refine lv_goto (tgt := 18) hx hb dX13_part_66 (by decide) ?_
              exact ih18 y30 y31 y32 (0 : Int32) E28 _ _ _ iy30 iy31 iy32 (iv_w ln_0 (by decide)) (by  first | exact (Int.le_trans (Int.le_trans (Int.le_trans hx18_0 f14) (Int.le_trans (Int.le_add_of_nonneg_right (by decide)) (Int.le_of_eq ty23.symm))) f34) | omega) (by  first | exact (Int.le_trans hx18_1 f35) | omega) (by  first | exact fun q9 => ((f36 (q9)).trans (hx18_2 (f37 (q9)))) | omega) (by  first | exact fun q9 => hx18_3 (f37 (q9)) | omega) (by omega) hI hKp fy30 fy31 fy32 hP hS (lv_sub hl [0, 2, 3, 4] rfl)
            · --52 not
              have t41 : ¬ v18_3.toInt = 0 := ti_ne c38
              have i42 : 1 ≤ v18_3.toInt ∧ v18_3.toInt ≤ 1 := iv_ne_l t41 hv18_3 (il_ 0)
              refine lv_iload hx hb dX13_part_55 (lv_at hl 0 rfl) ?_
              refine lv_if_eq (tgt := 64) hx hb dX13_part_57 (by decide) (fun c43 => ?_) (fun c43 => ?_)
              · --57 taken
                have t44 : r27.toInt = 0 := ti_eq c43
                have i45 : 0 ≤ r27.toInt ∧ r27.toInt ≤ 0 := iv_eqi t44 f33 (il_ 0) (by decide)
                refine lv_iconst (v := 0) hx hb dX13_part_64 (by decide) ?_
                refine lv_istore_n (lv' := [(3, .int 0), (4, .int r27), (0, .ref (ad 0)), (1, .int a0), (2, .int a1)]) hx hb dX13_part_65 rfl hl (by decide) rfl (fun ls hl => ?_)
                refine lv_goto (tgt := 18) hx hb dX13_part_66 (by decide) ?_
                exact ih18 y30 y31 y32 (0 : Int32) E28 _ _ _ iy30 iy31 iy32 (iv_w ln_0 (by decide)) (by  first | exact (Int.le_trans (Int.le_trans (Int.le_trans hx18_0 f14) (Int.le_trans (Int.le_add_of_nonneg_right (by decide)) (Int.le_of_eq ty23.symm))) f34) | omega) (by  first | exact (Int.le_trans hx18_1 f35) | omega) (by  first | exact fun q9 => ((f36 (q9)).trans (hx18_2 (f37 (q9)))) | omega) (by  first | exact fun q9 => hx18_3 (f37 (q9)) | omega) (by omega) hI hKp fy30 fy31 fy32 hP hS (lv_sub hl [0, 2, 3, 4] rfl)
              · --57 not
                have t46 : ¬ r27.toInt = 0 := ti_ne c43
                have i47 : 1 ≤ r27.toInt ∧ r27.toInt ≤ 1 := iv_ne_l t46 f33 (il_ 0)
                refine lv_iconst (v := 1) hx hb dX13_part_60 (by decide) ?_
                refine lv_goto (tgt := 65) hx hb dX13_part_61 (by decide) ?_
                refine lv_istore_n (lv' := [(3, .int 1), (4, .int r27), (0, .ref (ad 0)), (1, .int a0), (2, .int a1)]) hx hb dX13_part_65 rfl hl (by decide) rfl (fun ls hl => ?_)
                refine lv_goto (tgt := 18) hx hb dX13_part_66 (by decide) ?_
                exact ih18 y30 y31 y32 (1 : Int32) E28 _ _ _ iy30 iy31 iy32 (iv_w ln_1 (by decide)) (by  first | exact (Int.le_trans (Int.le_trans (Int.le_trans hx18_0 f14) (Int.le_trans (Int.le_add_of_nonneg_right (by decide)) (Int.le_of_eq ty23.symm))) f34) | omega) (by  first | exact (Int.le_trans hx18_1 f35) | omega) (by  first | exact fun q9 => ((f36 (q9)).trans (hx18_2 (f37 (q9)))) | omega) (by  first | exact fun q9 => hx18_3 (f37 (q9)) | omega) (by omega) hI hKp fy30 fy31 fy32 hP hS (lv_sub hl [0, 2, 3, 4] rfl)
    exact hL18 (202) w17_0_21 w17_0_22 w17_0_23 s17_0 E17_ _ _ _ hw17_0_21 hw17_0_22 hw17_0_23 hs17_0 (by  first | exact hx17_0 | omega) (by  first | exact hx17_1 | omega) (by  first | exact fun q9 => (hx17_2 (q9)) | omega) (by  first | exact fun q9 => hx17_3 (q9) | omega) (by have h9 := hw17_0_21; omega) hI hKp hs17_0_21 hs17_0_22 hs17_0_23 hP hS (lv_sub hl [0, 1, 2, 3] rfl)
  refine lv_if_eq (tgt := 13) hx hb dX13_part_1 (by decide) (fun c48 => ?_) (fun c48 => ?_)
  · --1 taken
    have t49 : a0.toInt = 0 := ti_eq c48
    have i50 : 0 ≤ a0.toInt ∧ a0.toInt ≤ 0 := iv_eqi t49 hh6 (il_ 0) (by decide)
    refine lv_aload_n hx hb dX13_part_13 rfl (lv_at hl 0 rfl) ?_
    refine th_i (va_runV (As := []) (rest := []) ⟨hx, hb, hml, hown, hts⟩ (gU dC dI cT ad E s.heap.size k nl hI (by exact hh0) (by exact hh1) (by exact hh2) (by exact hh3) (by exact hh4) (by (try rw [(show xi (E 0) 23 = y3 from vi_e fy3)]); omega)) (cwV 0 hts (gi_V (in_29 _ (zs16 (zs16 (zs1 (zs0))))) (in_29 _ (zs16 (zs16 (zs1 (zs1 (zs0)))))) (in_29 _ (zs16 (zs16 (zs1 (zs1 (zs1 (zs0))))))) (in_24 _ (zs4 (zs4 (zs4 (zs1 (zs1 (zs1 (zs0)))))))) (in_29 _ (zs16 (zs16 (zs4 (zs0)))))) rfl rfl rfl (by decide +kernel) ⟨(show 7 * n + 9 + 1 ≤ 7 * n + 10 from nl_4 (Nat.le_of_ble_eq_true rfl) (Nat.le_of_ble_eq_true rfl)), (show 8 + (3 + 11) + 40 * (7 * n + 9) ≤ 40 * (7 * n + 10) from nl_3 (Nat.le_of_ble_eq_true rfl) (Nat.le_of_ble_eq_true rfl))⟩) ⟨HW_bl, va_recv hK hP (ci := 14) (q0 := 0) rfl (hI.ob 0 (Nat.le_of_ble_eq_true rfl) rfl), (HW_wi hP hK (WX_D hD) hS hA hEV)⟩ rfl rfl hl.1 rfl (lv_room (Nat.le_of_ble_eq_true rfl)) dX13_part_14 ⟨Nat.le_of_ble_eq_true rfl, Nat.le_of_ble_eq_true rfl⟩) (WX_D hD) hS hA (fun r51 E52 H locs hw hP hS => ?_)
    obtain ⟨hI, kq53, hw⟩ := hw
    have hKb := hKp
    have hKp := hKp.tr kq53 (wl_sub rfl rfl)
    obtain ⟨y54, ey54⟩ : ∃ y, xi (E52 0) 21 = y := ⟨_, rfl⟩
    have fy54 : xv (E52 0) 21 = .int y54 := (hI.fi 0 (Nat.le_of_ble_eq_true rfl) rfl (Nat.le_of_ble_eq_true rfl) rfl).trans (congrArg Value.int ey54)
    have iy54 : 0 ≤ y54.toInt ∧ y54.toInt ≤ 201 := by rw [← ey54]; exact hI.iv 0 (Nat.le_of_ble_eq_true rfl) rfl (Nat.le_of_ble_eq_true rfl) rfl
    obtain ⟨y55, ey55⟩ : ∃ y, xi (E52 0) 22 = y := ⟨_, rfl⟩
    have fy55 : xv (E52 0) 22 = .int y55 := (hI.fi 0 (Nat.le_of_ble_eq_true rfl) rfl (Nat.le_of_ble_eq_true rfl) rfl).trans (congrArg Value.int ey55)
    have iy55 : -1 ≤ y55.toInt ∧ y55.toInt ≤ 201 := by rw [← ey55]; exact hI.iv 0 (Nat.le_of_ble_eq_true rfl) rfl (Nat.le_of_ble_eq_true rfl) rfl
    obtain ⟨y56, ey56⟩ : ∃ y, xi (E52 0) 23 = y := ⟨_, rfl⟩
    have fy56 : xv (E52 0) 23 = .int y56 := (hI.fi 0 (Nat.le_of_ble_eq_true rfl) rfl (Nat.le_of_ble_eq_true rfl) rfl).trans (congrArg Value.int ey56)
    have iy56 : 0 ≤ y56.toInt ∧ y56.toInt ≤ 8 := by rw [← ey56]; exact hI.iv 0 (Nat.le_of_ble_eq_true rfl) rfl (Nat.le_of_ble_eq_true rfl) rfl
    obtain ⟨f57, f58, f59, f60, f61⟩ := hw
    have i62 : 0 ≤ (xi (E 0) 19).toInt ∧ (xi (E 0) 19).toInt ≤ 3000 := (show 0 ≤ (xi (E 0) 19).toInt ∧ (xi (E 0) 19).toInt ≤ 3000 from hI0.iv 0 (Nat.le_of_ble_eq_true rfl) rfl (Nat.le_of_ble_eq_true rfl) rfl)
    have i63 : 0 ≤ (xi (E 0) 20).toInt ∧ (xi (E 0) 20).toInt ≤ 200 := (show 0 ≤ (xi (E 0) 20).toInt ∧ (xi (E 0) 20).toInt ≤ 200 from hI0.iv 0 (Nat.le_of_ble_eq_true rfl) rfl (Nat.le_of_ble_eq_true rfl) rfl)
    try rw [(show xi (E 0) 21 = y1 from vi_e fy1)] at f58
    try rw [(show xi (E52 0) 21 = y54 from vi_e fy54)] at f58
    try rw [(show xi (E 0) 23 = y3 from vi_e fy3)] at f59
    try rw [(show xi (E52 0) 23 = y56 from vi_e fy56)] at f59
    try rw [(show xi (E 0) 22 = y2 from vi_e fy2)] at f60
    try rw [(show xi (E 0) 23 = y3 from vi_e fy3)] at f60
    try rw [(show xi (E52 0) 22 = y55 from vi_e fy55)] at f60
    try rw [(show xi (E52 0) 23 = y56 from vi_e fy56)] at f60
    try rw [(show xi (E 0) 22 = y2 from vi_e fy2)] at f61
    try rw [(show xi (E52 0) 22 = y55 from vi_e fy55)] at f61
    exact hJ17 r51 y54 y55 y56 E52 _ _ _ f57 iy54 iy55 iy56 (by  first | exact f58 | omega) (by  first | exact f59 | omega) (by  first | exact fun q9 => (f60 (q9)) | omega) (by  first | exact fun q9 => f61 (q9) | omega) hI hKp fy54 fy55 fy56 hP hS (lv_sub hl [0, 1, 2] rfl)
  · --1 not
    have t64 : ¬ a0.toInt = 0 := ti_ne c48
    have i65 : 1 ≤ a0.toInt ∧ a0.toInt ≤ 1 := iv_ne_l t64 hh6 (il_ 0)
    refine lv_aload_n hx hb dX13_part_4 rfl (lv_at hl 0 rfl) ?_
    refine lv_iconst (v := 1) hx hb dX13_part_5 (by decide) ?_
    refine lv_iload_n hx hb dX13_part_6 rfl (lv_at hl 2 rfl) ?_
    have z1 := ln_1
    refine th_i (va_runV (As := [.int 1, .int a1]) (rest := []) ⟨hx, hb, hml, hown, hts⟩ (gC dC dI cT ad E s.heap.size (1 : Int32) a1 k nl hI (by exact hh0) (by exact hh1) (by exact hh2) (by exact hh3) (by exact hh4) (by (try rw [(show xi (E 0) 23 = y3 from vi_e fy3)]); omega) (iv_w ln_1 (by decide))) (cwV 2 hts (gi_V (in_29 _ (zs16 (zs4 (zs4 (zs1 (zs1 (zs0))))))) (in_29 _ (zs16 (zs4 (zs4 (zs1 (zs1 (zs1 (zs0)))))))) (in_29 _ (zs16 (zs4 (zs4 (zs4 (zs0)))))) (in_24 _ (zs4 (zs4 (zs4 (zs1 (zs1 (zs1 (zs0)))))))) (in_29 _ (zs16 (zs4 (zs4 (zs4 (zs1 (zs0)))))))) rfl rfl rfl (by decide +kernel) ⟨(show 7 * n + 8 + 1 ≤ 7 * n + 10 from nl_4 (Nat.le_of_ble_eq_true rfl) (Nat.le_of_ble_eq_true rfl)), (show 8 + (6 + 11) + 40 * (7 * n + 8) ≤ 40 * (7 * n + 10) from nl_3 (Nat.le_of_ble_eq_true rfl) (Nat.le_of_ble_eq_true rfl))⟩) ⟨HW_bl, va_recv hK hP (ci := 14) (q0 := 0) rfl (hI.ob 0 (Nat.le_of_ble_eq_true rfl) rfl), (HW_wi hP hK (WX_D hD) hS hA hEV)⟩ rfl rfl hl.1 rfl (lv_room (Nat.le_of_ble_eq_true rfl)) dX13_part_7 ⟨Nat.le_of_ble_eq_true rfl, Nat.le_of_ble_eq_true rfl⟩) (WX_D hD) hS hA (fun r66 E67 H locs hw hP hS => ?_)
    obtain ⟨hI, kq68, hw⟩ := hw
    have hKb := hKp
    have hKp := hKp.tr kq68 (wl_sub rfl rfl)
    obtain ⟨y69, ey69⟩ : ∃ y, xi (E67 0) 21 = y := ⟨_, rfl⟩
    have fy69 : xv (E67 0) 21 = .int y69 := (hI.fi 0 (Nat.le_of_ble_eq_true rfl) rfl (Nat.le_of_ble_eq_true rfl) rfl).trans (congrArg Value.int ey69)
    have iy69 : 0 ≤ y69.toInt ∧ y69.toInt ≤ 201 := by rw [← ey69]; exact hI.iv 0 (Nat.le_of_ble_eq_true rfl) rfl (Nat.le_of_ble_eq_true rfl) rfl
    obtain ⟨y70, ey70⟩ : ∃ y, xi (E67 0) 22 = y := ⟨_, rfl⟩
    have fy70 : xv (E67 0) 22 = .int y70 := (hI.fi 0 (Nat.le_of_ble_eq_true rfl) rfl (Nat.le_of_ble_eq_true rfl) rfl).trans (congrArg Value.int ey70)
    have iy70 : -1 ≤ y70.toInt ∧ y70.toInt ≤ 201 := by rw [← ey70]; exact hI.iv 0 (Nat.le_of_ble_eq_true rfl) rfl (Nat.le_of_ble_eq_true rfl) rfl
    obtain ⟨y71, ey71⟩ : ∃ y, xi (E67 0) 23 = y := ⟨_, rfl⟩
    have fy71 : xv (E67 0) 23 = .int y71 := (hI.fi 0 (Nat.le_of_ble_eq_true rfl) rfl (Nat.le_of_ble_eq_true rfl) rfl).trans (congrArg Value.int ey71)
    have iy71 : 0 ≤ y71.toInt ∧ y71.toInt ≤ 8 := by rw [← ey71]; exact hI.iv 0 (Nat.le_of_ble_eq_true rfl) rfl (Nat.le_of_ble_eq_true rfl) rfl
    obtain ⟨f72, f73, f74, f75, f76⟩ := hw
    have i77 : 0 ≤ (xi (E 0) 19).toInt ∧ (xi (E 0) 19).toInt ≤ 3000 := (show 0 ≤ (xi (E 0) 19).toInt ∧ (xi (E 0) 19).toInt ≤ 3000 from hI0.iv 0 (Nat.le_of_ble_eq_true rfl) rfl (Nat.le_of_ble_eq_true rfl) rfl)
    have i78 : 0 ≤ (xi (E 0) 20).toInt ∧ (xi (E 0) 20).toInt ≤ 200 := (show 0 ≤ (xi (E 0) 20).toInt ∧ (xi (E 0) 20).toInt ≤ 200 from hI0.iv 0 (Nat.le_of_ble_eq_true rfl) rfl (Nat.le_of_ble_eq_true rfl) rfl)
    try rw [(show xi (E 0) 21 = y1 from vi_e fy1)] at f73
    try rw [(show xi (E67 0) 21 = y69 from vi_e fy69)] at f73
    try rw [(show xi (E 0) 23 = y3 from vi_e fy3)] at f74
    try rw [(show xi (E67 0) 23 = y71 from vi_e fy71)] at f74
    try rw [(show xi (E 0) 22 = y2 from vi_e fy2)] at f75
    try rw [(show xi (E 0) 23 = y3 from vi_e fy3)] at f75
    try rw [(show xi (E67 0) 22 = y70 from vi_e fy70)] at f75
    try rw [(show xi (E67 0) 23 = y71 from vi_e fy71)] at f75
    try rw [(show xi (E 0) 22 = y2 from vi_e fy2)] at f76
    try rw [(show xi (E67 0) 22 = y70 from vi_e fy70)] at f76
    refine lv_goto (tgt := 17) hx hb dX13_part_10 (by decide) ?_
    exact hJ17 r66 y69 y70 y71 E67 _ _ _ f72 iy69 iy70 iy71 (by  first | exact f73 | omega) (by  first | exact f74 | omega) (by  first | exact fun q9 => (f75 (q9)) | omega) (by  first | exact fun q9 => f76 (q9) | omega) hI hKp fy69 fy70 fy71 hP hS (lv_sub hl [0, 1, 2] rfl)
set_option maxHeartbeats 4000000 in
set_option maxRecDepth 100000 in
theorem q_condition (l : Launch) (n : Nat) (gP : C_part l n) : C_condition l n := by
  intro dC dI cT ad E sz a0 a1 k nl hI0 hh0 hh1 hh2 hh3 hh4 hh5 hh6
  refine Met.ofW (cc := cX13_condition) (maxL := 5) (ret := (some .boolean)) (by decide) rfl ?_
  intro p e s m args below meth c s₁ B hml hv
  obtain ⟨hargs, hsz, hP, hK, hD0, hEV⟩ := hv
  subst hsz
  have hx := B.exec
  have hb := B.bytes
  have hr := B.returns
  have hts := atoms_spec (ws := v_condition) B.pre
  have hown : s.vm.findClass RX13 = some m.cls := findClass_of_methodNamed B.named
  have hlocks := B.notSynchronized
  have hinX13 : ∀ w ∈ u_ws RX13 TX13 97, w ∈ v_condition := fun w h => vA_in _ w (in_X13 w h)
  generalize hAe : va_A (WX 72 ad E) s.heap.size = A at hEV ⊢
  have hA : ∀ q : Nat, s.heap.size ≤ q → A q := fun q h => by rw [← hAe]; exact Or.inr h
  have hD : va_D A (WX 72 ad E) := by rw [← hAe]; exact hD0.self
  have hS : va_S A s.heap s.heap [] := va_S.rf
  have hI := hI0
  have hKp : Kp w_condition E E := Kp.rf
  have hl := lv_entry ([.ref (ad 0), .int a0, .int a1]) (n := 5) (Nat.le_of_ble_eq_true rfl)
  obtain ⟨Q, hQ⟩ : ∃ Q, Q = MQ below (va_Qi (S := Nat → va_E) (fun r u => IX cT shM spM 72 ad u ∧ Kp w_condition E u ∧ ((0 ≤ r.toInt ∧ r.toInt ≤ 1) ∧ ((xi (E 0) 21).toInt ≤ (xi (u 0) 21).toInt) ∧ ((xi (E 0) 23).toInt ≤ (xi (u 0) 23).toInt) ∧ ((xi (u 0) 22).toInt = -1 → (xi (u 0) 23).toInt = (xi (E 0) 23).toInt) ∧ ((xi (u 0) 22).toInt = -1 → (xi (E 0) 22).toInt = -1))) (HB dC dI 72 ad) (A)) args s 0 0 (A) := ⟨_, rfl⟩
  rw [← hQ, show entryFrame m args 5 = _ from (congrArg (fun z => entryFrame m z 5) hargs).trans (lg_entry_eq _ _ _)]
  generalize (lg_sl ([.ref (ad 0), .int a0, .int a1]) ++ List.replicate (5 - (lg_sl ([.ref (ad 0), .int a0, .int a1])).length) Slot.unset).toArray = ls at hl ⊢
  have hl : lv_has ls 5 [(0, .ref (ad 0)), (1, .int a0), (2, .int a1)] := hl
  obtain ⟨y1, ey1⟩ : ∃ y, xi (E 0) 21 = y := ⟨_, rfl⟩
  have fy1 : xv (E 0) 21 = .int y1 := (hI.fi 0 (Nat.le_of_ble_eq_true rfl) rfl (Nat.le_of_ble_eq_true rfl) rfl).trans (congrArg Value.int ey1)
  have iy1 : 0 ≤ y1.toInt ∧ y1.toInt ≤ 201 := by rw [← ey1]; exact hI.iv 0 (Nat.le_of_ble_eq_true rfl) rfl (Nat.le_of_ble_eq_true rfl) rfl
  obtain ⟨y2, ey2⟩ : ∃ y, xi (E 0) 22 = y := ⟨_, rfl⟩
  have fy2 : xv (E 0) 22 = .int y2 := (hI.fi 0 (Nat.le_of_ble_eq_true rfl) rfl (Nat.le_of_ble_eq_true rfl) rfl).trans (congrArg Value.int ey2)
  have iy2 : -1 ≤ y2.toInt ∧ y2.toInt ≤ 201 := by rw [← ey2]; exact hI.iv 0 (Nat.le_of_ble_eq_true rfl) rfl (Nat.le_of_ble_eq_true rfl) rfl
  obtain ⟨y3, ey3⟩ : ∃ y, xi (E 0) 23 = y := ⟨_, rfl⟩
  have fy3 : xv (E 0) 23 = .int y3 := (hI.fi 0 (Nat.le_of_ble_eq_true rfl) rfl (Nat.le_of_ble_eq_true rfl) rfl).trans (congrArg Value.int ey3)
  have iy3 : 0 ≤ y3.toInt ∧ y3.toInt ≤ 8 := by rw [← ey3]; exact hI.iv 0 (Nat.le_of_ble_eq_true rfl) rfl (Nat.le_of_ble_eq_true rfl) rfl
  rw [ey3] at hh5
  refine lv_aload_n hx hb dX13_condition_0 rfl (lv_at hl 0 rfl) ?_
  refine lv_iload_n hx hb dX13_condition_1 rfl (lv_at hl 1 rfl) ?_
  refine lv_iload_n hx hb dX13_condition_2 rfl (lv_at hl 2 rfl) ?_
  refine th_i (va_runV (As := [.int a0, .int a1]) (rest := []) ⟨hx, hb, hml, hown, hts⟩ (gP dC dI cT ad E s.heap.size a0 a1 k nl hI (by exact hh0) (by exact hh1) (by exact hh2) (by exact hh3) (by exact hh4) (by (try rw [(show xi (E 0) 23 = y3 from vi_e fy3)]); omega) hh6) (cwV 2 hts (gi_V (in_29 _ (zs16 (zs4 (zs1 (zs1 (zs0)))))) (in_29 _ (zs16 (zs4 (zs1 (zs1 (zs1 (zs0))))))) (in_29 _ (zs16 (zs4 (zs4 (zs0))))) (in_24 _ (zs4 (zs4 (zs4 (zs1 (zs1 (zs1 (zs0)))))))) (in_29 _ (zs16 (zs4 (zs4 (zs1 (zs0))))))) rfl rfl rfl (by decide +kernel) ⟨(show 7 * n + 10 + 1 ≤ 7 * n + 11 from nl_4 (Nat.le_of_ble_eq_true rfl) (Nat.le_of_ble_eq_true rfl)), (show 8 + (5 + 11) + 40 * (7 * n + 10) ≤ 40 * (7 * n + 11) from nl_3 (Nat.le_of_ble_eq_true rfl) (Nat.le_of_ble_eq_true rfl))⟩) ⟨HW_bl, va_recv hK hP (ci := 14) (q0 := 0) rfl (hI.ob 0 (Nat.le_of_ble_eq_true rfl) rfl), (HW_wi hP hK (WX_D hD) hS hA hEV)⟩ rfl rfl hl.1 rfl (lv_room (Nat.le_of_ble_eq_true rfl)) dX13_condition_3 ⟨Nat.le_of_ble_eq_true rfl, Nat.le_of_ble_eq_true rfl⟩) (WX_D hD) hS hA (fun r4 E5 H locs hw hP hS => ?_)
  obtain ⟨hI, kq6, hw⟩ := hw
  have hKb := hKp
  have hKp := hKp.tr kq6 (wl_sub rfl rfl)
  obtain ⟨y7, ey7⟩ : ∃ y, xi (E5 0) 21 = y := ⟨_, rfl⟩
  have fy7 : xv (E5 0) 21 = .int y7 := (hI.fi 0 (Nat.le_of_ble_eq_true rfl) rfl (Nat.le_of_ble_eq_true rfl) rfl).trans (congrArg Value.int ey7)
  have iy7 : 0 ≤ y7.toInt ∧ y7.toInt ≤ 201 := by rw [← ey7]; exact hI.iv 0 (Nat.le_of_ble_eq_true rfl) rfl (Nat.le_of_ble_eq_true rfl) rfl
  obtain ⟨y8, ey8⟩ : ∃ y, xi (E5 0) 22 = y := ⟨_, rfl⟩
  have fy8 : xv (E5 0) 22 = .int y8 := (hI.fi 0 (Nat.le_of_ble_eq_true rfl) rfl (Nat.le_of_ble_eq_true rfl) rfl).trans (congrArg Value.int ey8)
  have iy8 : -1 ≤ y8.toInt ∧ y8.toInt ≤ 201 := by rw [← ey8]; exact hI.iv 0 (Nat.le_of_ble_eq_true rfl) rfl (Nat.le_of_ble_eq_true rfl) rfl
  obtain ⟨y9, ey9⟩ : ∃ y, xi (E5 0) 23 = y := ⟨_, rfl⟩
  have fy9 : xv (E5 0) 23 = .int y9 := (hI.fi 0 (Nat.le_of_ble_eq_true rfl) rfl (Nat.le_of_ble_eq_true rfl) rfl).trans (congrArg Value.int ey9)
  have iy9 : 0 ≤ y9.toInt ∧ y9.toInt ≤ 8 := by rw [← ey9]; exact hI.iv 0 (Nat.le_of_ble_eq_true rfl) rfl (Nat.le_of_ble_eq_true rfl) rfl
  obtain ⟨f10, f11, f12, f13, f14⟩ := hw
  have i15 : 0 ≤ (xi (E 0) 19).toInt ∧ (xi (E 0) 19).toInt ≤ 3000 := (show 0 ≤ (xi (E 0) 19).toInt ∧ (xi (E 0) 19).toInt ≤ 3000 from hI0.iv 0 (Nat.le_of_ble_eq_true rfl) rfl (Nat.le_of_ble_eq_true rfl) rfl)
  have i16 : 0 ≤ (xi (E 0) 20).toInt ∧ (xi (E 0) 20).toInt ≤ 200 := (show 0 ≤ (xi (E 0) 20).toInt ∧ (xi (E 0) 20).toInt ≤ 200 from hI0.iv 0 (Nat.le_of_ble_eq_true rfl) rfl (Nat.le_of_ble_eq_true rfl) rfl)
  try rw [(show xi (E 0) 21 = y1 from vi_e fy1)] at f11
  try rw [(show xi (E5 0) 21 = y7 from vi_e fy7)] at f11
  try rw [(show xi (E 0) 23 = y3 from vi_e fy3)] at f12
  try rw [(show xi (E5 0) 23 = y9 from vi_e fy9)] at f12
  try rw [(show xi (E 0) 22 = y2 from vi_e fy2)] at f13
  try rw [(show xi (E 0) 23 = y3 from vi_e fy3)] at f13
  try rw [(show xi (E5 0) 22 = y8 from vi_e fy8)] at f13
  try rw [(show xi (E5 0) 23 = y9 from vi_e fy9)] at f13
  try rw [(show xi (E 0) 22 = y2 from vi_e fy2)] at f14
  try rw [(show xi (E5 0) 22 = y8 from vi_e fy8)] at f14
  refine lv_istore_n (lv' := [(3, .int r4), (0, .ref (ad 0)), (1, .int a0), (2, .int a1)]) hx hb dX13_condition_6 rfl hl (by decide) rfl (fun ls hl => ?_)
  have hL7 : ∀ d : Nat, ∀ (w7_0_21 : Int32) (w7_0_22 : Int32) (w7_0_23 : Int32) (v7_3 : Int32) (E7_ : Nat → va_E) (H : Heap) (locs : List Loc) (ls : Array Slot), 0 ≤ w7_0_21.toInt ∧ w7_0_21.toInt ≤ 201 → -1 ≤ w7_0_22.toInt ∧ w7_0_22.toInt ≤ 201 → 0 ≤ w7_0_23.toInt ∧ w7_0_23.toInt ≤ 8 → 0 ≤ v7_3.toInt ∧ v7_3.toInt ≤ 1 → y1.toInt ≤ w7_0_21.toInt → y3.toInt ≤ w7_0_23.toInt → (w7_0_22.toInt = -1 → w7_0_23.toInt = y3.toInt) → (w7_0_22.toInt = -1 → y2.toInt = -1) → 201 - w7_0_21.toInt < (d : Int) → IX cT shM spM 72 ad E7_ → Kp w_condition E E7_ → xv (E7_ 0) 21 = .int w7_0_21 → xv (E7_ 0) 22 = .int w7_0_22 → xv (E7_ 0) 23 = .int w7_0_23 → va_P (dC, dI) vwCl (WX 72 ad E7_) H → va_S A s.heap H locs → lv_has ls 5 [(3, .int v7_3), (0, .ref (ad 0)), (1, .int a0), (2, .int a1)] → W p l e (headSpec v_condition (rm_condition n)).room s m args below meth c H locs 0 0 Q (F0 m 7 ls []) := by
    intro d
    induction d with
    | zero =>
      intro w7_0_21 w7_0_22 w7_0_23 v7_3 E7_ H locs ls hw7_0_21 hw7_0_22 hw7_0_23 hv7_3 hx7_0 hx7_1 hx7_2 hx7_3 hx7_4 hI hKp hs7_0_21 hs7_0_22 hs7_0_23 hP hS hl
      exact absurd hx7_4 (by omega)
    | succ d ih7 =>
      intro w7_0_21 w7_0_22 w7_0_23 v7_3 E7_ H locs ls hw7_0_21 hw7_0_22 hw7_0_23 hv7_3 hx7_0 hx7_1 hx7_2 hx7_3 hx7_4 hI hKp hs7_0_21 hs7_0_22 hs7_0_23 hP hS hl
      refine lv_aload_n hx hb dX13_condition_7 rfl (lv_at hl 1 rfl) ?_
      refine th_get (ci := 14) (C := RX13) (T := TX13) (N := 97) (v := .int w7_0_22) hx hb hts hinX13 hown hK hP hI 0 (Nat.le_of_ble_eq_true rfl) rfl rfl 22 (Nat.le_of_ble_eq_true rfl) (hts _ (vA_in _ _ (in_25 _ (zs16 (zs16 (zs4 (zs1 (zs1 (zs1 (zs0)))))))))) (fun _ h9 => h9) hs7_0_22 dX13_condition_8 ?_
      refine lv_iconst (v := -1) hx hb dX13_condition_11 (by decide) ?_
      refine lv_icmp_ne (tgt := 60) hx hb dX13_condition_12 (by decide) (fun c17 => ?_) (fun c17 => ?_)
      · --12 taken
        have t18 : ¬ w7_0_22.toInt = -1 := ti_ne c17
        have i19 : 0 ≤ w7_0_22.toInt ∧ w7_0_22.toInt ≤ 201 := iv_ne_l t18 hw7_0_22 (il_ (-1))
        refine lv_iload_n hx hb dX13_condition_60 rfl (lv_at hl 0 rfl) ?_
        rw [hQ]
        exact W.zret (v := v7_3) hx hb hr (nar_b1 hv7_3) (fun t ht hW => ⟨⟨v7_3, E7_, rfl, ⟨hI, hKp, ⟨hv7_3, by (try rw [(show xi (E7_ 0) 21 = w7_0_21 from vi_e hs7_0_21)]); (try rw [ey1]); first | done | exact hx7_0 | all_goals omega, by (try rw [(show xi (E7_ 0) 23 = w7_0_23 from vi_e hs7_0_23)]); (try rw [ey3]); first | done | exact hx7_1 | all_goals omega, by (try rw [(show xi (E7_ 0) 22 = w7_0_22 from vi_e hs7_0_22)]); (try rw [(show xi (E7_ 0) 23 = w7_0_23 from vi_e hs7_0_23)]); (try rw [ey2]); (try rw [ey3]); first | done | exact fun q9 => absurd (q9) t18 | all_goals omega, by (try rw [(show xi (E7_ 0) 22 = w7_0_22 from vi_e hs7_0_22)]); (try rw [ey2]); first | done | exact fun q9 => absurd (q9) t18 | all_goals omega⟩⟩, by show va_P (dC, dI) vwCl (WX 72 ad E7_) t.heap; rw [ht]; exact hP⟩, hS.F ht⟩) hS.2.2 dX13_condition_61
      · --12 not
        have t20 : w7_0_22.toInt = -1 := ti_eq c17
        have i21 : -1 ≤ w7_0_22.toInt ∧ w7_0_22.toInt ≤ -1 := iv_eqi t20 hw7_0_22 (il_ (-1)) (by decide)
        refine lv_aload_n hx hb dX13_condition_15 rfl (lv_at hl 1 rfl) ?_
        refine th_i (va_runV (As := []) (rest := []) ⟨hx, hb, hml, hown, hts⟩ (q_look l dC dI cT ad E7_ H.size k nl hI (by exact hh0) (by exact hh1) (by exact hh2) (by exact (hKp 0 18 rfl).trans hh3) (by (try rw [hKp.ei 0 19 rfl]); exact hh4)) (cwV 0 hts (gi_V (in_26 _ (zs1 (zs1 (zs0)))) (in_26 _ (zs1 (zs1 (zs1 (zs0))))) (in_26 _ (zs4 (zs0))) (in_24 _ (zs4 (zs4 (zs4 (zs1 (zs1 (zs1 (zs0)))))))) (in_26 _ (zs4 (zs1 (zs0))))) rfl rfl rfl ⟨rfl, hz_yX13_look_0⟩ ⟨(show 0 + 1 ≤ 7 * n + 11 from nl_1 (Nat.le_of_ble_eq_true rfl)), (show 8 + (1 + 11) + 40 * (0) ≤ 40 * (7 * n + 11) from nl_2 (Nat.le_of_ble_eq_true rfl))⟩) ⟨HW_bl, va_recv hK hP (ci := 14) (q0 := 0) rfl (hI.ob 0 (Nat.le_of_ble_eq_true rfl) rfl), (HW_wi hP hK (WX_D hD) hS hA hEV)⟩ rfl rfl hl.1 rfl (lv_room (Nat.le_of_ble_eq_true rfl)) dX13_condition_16 ⟨Nat.le_of_ble_eq_true rfl, Nat.le_of_ble_eq_true rfl⟩) (WX_D hD) hS hA (fun r22 E23 H locs hw hP hS => ?_)
        obtain ⟨hI, kq24, hw⟩ := hw
        have hKb := hKp
        have hKp := hKp.tr kq24 (wl_sub rfl rfl)
        obtain ⟨y25, ey25⟩ : ∃ y, xi (E23 0) 21 = y := ⟨_, rfl⟩
        have fy25 : xv (E23 0) 21 = .int y25 := (hI.fi 0 (Nat.le_of_ble_eq_true rfl) rfl (Nat.le_of_ble_eq_true rfl) rfl).trans (congrArg Value.int ey25)
        have iy25 : 0 ≤ y25.toInt ∧ y25.toInt ≤ 201 := by rw [← ey25]; exact hI.iv 0 (Nat.le_of_ble_eq_true rfl) rfl (Nat.le_of_ble_eq_true rfl) rfl
        obtain ⟨f26, f27, f28, f29⟩ := hw
        try rw [(show xi (E7_ 0) 21 = w7_0_21 from vi_e hs7_0_21)] at f27
        try rw [(show xi (E23 0) 21 = y25 from vi_e fy25)] at f27
        try rw [(show xi (E7_ 0) 21 = w7_0_21 from vi_e hs7_0_21)] at f28
        try rw [hKb.ei 0 20 rfl] at f28
        try rw [(show xi (E23 0) 21 = y25 from vi_e fy25)] at f28
        try rw [(show xi (E7_ 0) 21 = w7_0_21 from vi_e hs7_0_21)] at f29
        try rw [hKb.ei 0 20 rfl] at f29
        try rw [(show xi (E23 0) 21 = y25 from vi_e fy25)] at f29
        refine lv_bipush (v := 124) hx hb dX13_condition_19 (by decide) ?_
        refine lv_icmp_ne (tgt := 60) hx hb dX13_condition_21 (by decide) (fun c30 => ?_) (fun c30 => ?_)
        · --21 taken
          have t31 : ¬ r22.toInt = 124 := ti_ne c30
          refine lv_iload_n hx hb dX13_condition_60 rfl (lv_at hl 0 rfl) ?_
          rw [hQ]
          exact W.zret (v := v7_3) hx hb hr (nar_b1 hv7_3) (fun t ht hW => ⟨⟨v7_3, E23, rfl, ⟨hI, hKp, ⟨hv7_3, by (try rw [(show xi (E23 0) 21 = y25 from vi_e fy25)]); (try rw [ey1]); first | done | exact (Int.le_trans hx7_0 f27) | all_goals omega, by (try rw [(show xi (E23 0) 23 = w7_0_23 from vi_e ((kq24 0 23 rfl).trans hs7_0_23))]); (try rw [ey3]); first | done | exact hx7_1 | all_goals omega, by (try rw [(show xi (E23 0) 22 = w7_0_22 from vi_e ((kq24 0 22 rfl).trans hs7_0_22))]); (try rw [(show xi (E23 0) 23 = w7_0_23 from vi_e ((kq24 0 23 rfl).trans hs7_0_23))]); (try rw [ey2]); (try rw [ey3]); first | done | exact fun q9 => (hx7_2 (q9)) | all_goals omega, by (try rw [(show xi (E23 0) 22 = w7_0_22 from vi_e ((kq24 0 22 rfl).trans hs7_0_22))]); (try rw [ey2]); first | done | exact fun q9 => hx7_3 (q9) | all_goals omega⟩⟩, by show va_P (dC, dI) vwCl (WX 72 ad E23) t.heap; rw [ht]; exact hP⟩, hS.F ht⟩) hS.2.2 dX13_condition_61
        · --21 not
          have t32 : r22.toInt = 124 := ti_eq c30
          have i33 : 124 ≤ r22.toInt ∧ r22.toInt ≤ 124 := iv_eqi t32 f26 (il_ 124) (by decide)
          refine lv_aload_n hx hb dX13_condition_24 rfl (lv_at hl 1 rfl) ?_
          refine lv_dup hx hb dX13_condition_25 rfl ?_
          refine th_get (ci := 14) (C := RX13) (T := TX13) (N := 97) (v := .int y25) hx hb hts hinX13 hown hK hP hI 0 (Nat.le_of_ble_eq_true rfl) rfl rfl 21 (Nat.le_of_ble_eq_true rfl) (hts _ (vA_in _ _ (in_25 _ (zs16 (zs16 (zs4 (zs0))))))) (fun _ h9 => h9) fy25 dX13_condition_26 ?_
          refine lv_iconst (v := 1) hx hb dX13_condition_29 (by decide) ?_
          refine lv_iadd hx hb dX13_condition_30 ?_
          refine lv_topi (fun y34 ey34 => ?_)
          obtain ⟨ty34, iy34⟩ := ti_add (e := 1) (f := 202) iy25 ln_1 ey34 (by decide)
          have ty34 : y34.toInt = y25.toInt + 1 := ty34
          have iy34 : 1 ≤ y34.toInt ∧ y34.toInt ≤ 202 := iy34
          have i35 : 1 ≤ y34.toInt ∧ y34.toInt ≤ 201 := by omega
          refine th_put (ci := 14) (C := RX13) (T := TX13) (N := 97) (v := .int y34) (ty := .int) hx hb hts hinX13 tyX13 tyX13_ok nmX13 hown hK hP (WX_D hD) hS hI 0 (Nat.le_of_ble_eq_true rfl) rfl rfl 21 (Nat.le_of_ble_eq_true rfl) (hts _ (vA_in _ _ (in_25 _ (zs16 (zs16 (zs4 (zs0))))))) (fun _ h9 => h9) rfl (by decide +kernel) rfl rfl (okI rfl (iv_w i35 (by decide))) dX13_condition_31 (fun H locs E36 pw37 hI hP hS => ?_)
          have hKp := hKp.pw pw37 rfl
          refine lv_aload_n hx hb dX13_condition_34 rfl (lv_at hl 1 rfl) ?_
          refine lv_iconst (v := 0) hx hb dX13_condition_35 (by decide) ?_
          refine lv_iconst (v := 0) hx hb dX13_condition_36 (by decide) ?_
          have z0 := ln_0
          refine th_i (va_runV (As := [.int 0, .int 0]) (rest := []) ⟨hx, hb, hml, hown, hts⟩ (gP dC dI cT ad E36 H.size (0 : Int32) (0 : Int32) k nl hI (by exact hh0) (by exact hh1) (by exact hh2) (by exact (hKp 0 18 rfl).trans hh3) (by (try rw [hKp.ei 0 19 rfl]); exact hh4) (by (try rw [(show xi (E36 0) 23 = w7_0_23 from vi_e ((pw37.2 0 23 (fun q9 => absurd q9.2 (Nat.ne_of_beq_eq_false rfl))).trans ((kq24 0 23 rfl).trans hs7_0_23)))]); omega) (iv_w ln_0 (by decide))) (cwV 2 hts (gi_V (in_29 _ (zs16 (zs4 (zs1 (zs1 (zs0)))))) (in_29 _ (zs16 (zs4 (zs1 (zs1 (zs1 (zs0))))))) (in_29 _ (zs16 (zs4 (zs4 (zs0))))) (in_24 _ (zs4 (zs4 (zs4 (zs1 (zs1 (zs1 (zs0)))))))) (in_29 _ (zs16 (zs4 (zs4 (zs1 (zs0))))))) rfl rfl rfl (by decide +kernel) ⟨(show 7 * n + 10 + 1 ≤ 7 * n + 11 from nl_4 (Nat.le_of_ble_eq_true rfl) (Nat.le_of_ble_eq_true rfl)), (show 8 + (5 + 11) + 40 * (7 * n + 10) ≤ 40 * (7 * n + 11) from nl_3 (Nat.le_of_ble_eq_true rfl) (Nat.le_of_ble_eq_true rfl))⟩) ⟨HW_bl, va_recv hK hP (ci := 14) (q0 := 0) rfl (hI.ob 0 (Nat.le_of_ble_eq_true rfl) rfl), (HW_wi hP hK (WX_D hD) hS hA hEV)⟩ rfl rfl hl.1 rfl (lv_room (Nat.le_of_ble_eq_true rfl)) dX13_condition_37 ⟨Nat.le_of_ble_eq_true rfl, Nat.le_of_ble_eq_true rfl⟩) (WX_D hD) hS hA (fun r38 E39 H locs hw hP hS => ?_)
          obtain ⟨hI, kq40, hw⟩ := hw
          have hKb := hKp
          have hKp := hKp.tr kq40 (wl_sub rfl rfl)
          obtain ⟨y41, ey41⟩ : ∃ y, xi (E39 0) 21 = y := ⟨_, rfl⟩
          have fy41 : xv (E39 0) 21 = .int y41 := (hI.fi 0 (Nat.le_of_ble_eq_true rfl) rfl (Nat.le_of_ble_eq_true rfl) rfl).trans (congrArg Value.int ey41)
          have iy41 : 0 ≤ y41.toInt ∧ y41.toInt ≤ 201 := by rw [← ey41]; exact hI.iv 0 (Nat.le_of_ble_eq_true rfl) rfl (Nat.le_of_ble_eq_true rfl) rfl
          obtain ⟨y42, ey42⟩ : ∃ y, xi (E39 0) 22 = y := ⟨_, rfl⟩
          have fy42 : xv (E39 0) 22 = .int y42 := (hI.fi 0 (Nat.le_of_ble_eq_true rfl) rfl (Nat.le_of_ble_eq_true rfl) rfl).trans (congrArg Value.int ey42)
          have iy42 : -1 ≤ y42.toInt ∧ y42.toInt ≤ 201 := by rw [← ey42]; exact hI.iv 0 (Nat.le_of_ble_eq_true rfl) rfl (Nat.le_of_ble_eq_true rfl) rfl
          obtain ⟨y43, ey43⟩ : ∃ y, xi (E39 0) 23 = y := ⟨_, rfl⟩
          have fy43 : xv (E39 0) 23 = .int y43 := (hI.fi 0 (Nat.le_of_ble_eq_true rfl) rfl (Nat.le_of_ble_eq_true rfl) rfl).trans (congrArg Value.int ey43)
          have iy43 : 0 ≤ y43.toInt ∧ y43.toInt ≤ 8 := by rw [← ey43]; exact hI.iv 0 (Nat.le_of_ble_eq_true rfl) rfl (Nat.le_of_ble_eq_true rfl) rfl
          obtain ⟨f44, f45, f46, f47, f48⟩ := hw
          try rw [(show xi (E36 0) 21 = y34 from vi_e pw37.1)] at f45
          try rw [(show xi (E39 0) 21 = y41 from vi_e fy41)] at f45
          try rw [(show xi (E36 0) 23 = w7_0_23 from vi_e ((pw37.2 0 23 (fun q9 => absurd q9.2 (Nat.ne_of_beq_eq_false rfl))).trans ((kq24 0 23 rfl).trans hs7_0_23)))] at f46
          try rw [(show xi (E39 0) 23 = y43 from vi_e fy43)] at f46
          try rw [(show xi (E36 0) 22 = w7_0_22 from vi_e ((pw37.2 0 22 (fun q9 => absurd q9.2 (Nat.ne_of_beq_eq_false rfl))).trans ((kq24 0 22 rfl).trans hs7_0_22)))] at f47
          try rw [(show xi (E36 0) 23 = w7_0_23 from vi_e ((pw37.2 0 23 (fun q9 => absurd q9.2 (Nat.ne_of_beq_eq_false rfl))).trans ((kq24 0 23 rfl).trans hs7_0_23)))] at f47
          try rw [(show xi (E39 0) 22 = y42 from vi_e fy42)] at f47
          try rw [(show xi (E39 0) 23 = y43 from vi_e fy43)] at f47
          try rw [(show xi (E36 0) 22 = w7_0_22 from vi_e ((pw37.2 0 22 (fun q9 => absurd q9.2 (Nat.ne_of_beq_eq_false rfl))).trans ((kq24 0 22 rfl).trans hs7_0_22)))] at f48
          try rw [(show xi (E39 0) 22 = y42 from vi_e fy42)] at f48
          refine lv_istore (lv' := [(4, .int r38), (3, .int v7_3), (0, .ref (ad 0)), (1, .int a0), (2, .int a1)]) hx hb dX13_condition_40 hl (by decide) rfl (fun ls hl => ?_)
          refine lv_iload_n hx hb dX13_condition_42 rfl (lv_at hl 1 rfl) ?_
          refine lv_if_ne (tgt := 51) hx hb dX13_condition_43 (by decide) (fun c49 => ?_) (fun c49 => ?_)
          · --43 taken
            have t50 : ¬ v7_3.toInt = 0 := ti_ne c49
            have i51 : 1 ≤ v7_3.toInt ∧ v7_3.toInt ≤ 1 := iv_ne_l t50 hv7_3 (il_ 0)
            refine lv_iconst (v := 1) hx hb dX13_condition_51 (by decide) ?_
            refine lv_goto (tgt := 56) hx hb dX13_condition_52 (by decide) ?_
            refine lv_istore_n (lv' := [(3, .int 1), (4, .int r38), (0, .ref (ad 0)), (1, .int a0), (2, .int a1)]) hx hb dX13_condition_56 rfl hl (by decide) rfl (fun ls hl => ?_)
            refine lv_goto (tgt := 7) hx hb dX13_condition_57 (by decide) ?_
            exact ih7 y41 y42 y43 (1 : Int32) E39 _ _ _ iy41 iy42 iy43 (iv_w ln_1 (by decide)) (by  first | exact (Int.le_trans (Int.le_trans (Int.le_trans hx7_0 f27) (Int.le_trans (Int.le_add_of_nonneg_right (by decide)) (Int.le_of_eq ty34.symm))) f45) | omega) (by  first | exact (Int.le_trans hx7_1 f46) | omega) (by  first | exact fun q9 => ((f47 (q9)).trans (hx7_2 (f48 (q9)))) | omega) (by  first | exact fun q9 => hx7_3 (f48 (q9)) | omega) (by omega) hI hKp fy41 fy42 fy43 hP hS (lv_sub hl [0, 2, 3, 4] rfl)
          · --43 not
            have t52 : v7_3.toInt = 0 := ti_eq c49
            have i53 : 0 ≤ v7_3.toInt ∧ v7_3.toInt ≤ 0 := iv_eqi t52 hv7_3 (il_ 0) (by decide)
            refine lv_iload hx hb dX13_condition_46 (lv_at hl 0 rfl) ?_
            refine lv_if_eq (tgt := 55) hx hb dX13_condition_48 (by decide) (fun c54 => ?_) (fun c54 => ?_)
            · --48 taken
              have t55 : r38.toInt = 0 := ti_eq c54
              have i56 : 0 ≤ r38.toInt ∧ r38.toInt ≤ 0 := iv_eqi t55 f44 (il_ 0) (by decide)
              refine lv_iconst (v := 0) hx hb dX13_condition_55 (by decide) ?_
              refine lv_istore_n (lv' := [(3, .int 0), (4, .int r38), (0, .ref (ad 0)), (1, .int a0), (2, .int a1)]) hx hb dX13_condition_56 rfl hl (by decide) rfl (fun ls hl => ?_)
              refine lv_goto (tgt := 7) hx hb dX13_condition_57 (by decide) ?_
              exact ih7 y41 y42 y43 (0 : Int32) E39 _ _ _ iy41 iy42 iy43 (iv_w ln_0 (by decide)) (by  first | exact (Int.le_trans (Int.le_trans (Int.le_trans hx7_0 f27) (Int.le_trans (Int.le_add_of_nonneg_right (by decide)) (Int.le_of_eq ty34.symm))) f45) | omega) (by  first | exact (Int.le_trans hx7_1 f46) | omega) (by  first | exact fun q9 => ((f47 (q9)).trans (hx7_2 (f48 (q9)))) | omega) (by  first | exact fun q9 => hx7_3 (f48 (q9)) | omega) (by omega) hI hKp fy41 fy42 fy43 hP hS (lv_sub hl [0, 2, 3, 4] rfl)
            · --48 not
              have t57 : ¬ r38.toInt = 0 := ti_ne c54
              have i58 : 1 ≤ r38.toInt ∧ r38.toInt ≤ 1 := iv_ne_l t57 f44 (il_ 0)
              refine lv_iconst (v := 1) hx hb dX13_condition_51 (by decide) ?_
              refine lv_goto (tgt := 56) hx hb dX13_condition_52 (by decide) ?_
              refine lv_istore_n (lv' := [(3, .int 1), (4, .int r38), (0, .ref (ad 0)), (1, .int a0), (2, .int a1)]) hx hb dX13_condition_56 rfl hl (by decide) rfl (fun ls hl => ?_)
              refine lv_goto (tgt := 7) hx hb dX13_condition_57 (by decide) ?_
              exact ih7 y41 y42 y43 (1 : Int32) E39 _ _ _ iy41 iy42 iy43 (iv_w ln_1 (by decide)) (by  first | exact (Int.le_trans (Int.le_trans (Int.le_trans hx7_0 f27) (Int.le_trans (Int.le_add_of_nonneg_right (by decide)) (Int.le_of_eq ty34.symm))) f45) | omega) (by  first | exact (Int.le_trans hx7_1 f46) | omega) (by  first | exact fun q9 => ((f47 (q9)).trans (hx7_2 (f48 (q9)))) | omega) (by  first | exact fun q9 => hx7_3 (f48 (q9)) | omega) (by omega) hI hKp fy41 fy42 fy43 hP hS (lv_sub hl [0, 2, 3, 4] rfl)
  exact hL7 (202) y7 y8 y9 r4 E5 _ _ _ iy7 iy8 iy9 f10 (by  first | exact f11 | omega) (by  first | exact f12 | omega) (by  first | exact fun q9 => (f13 (q9)) | omega) (by  first | exact fun q9 => f14 (q9) | omega) (by have h9 := iy7; omega) hI hKp fy7 fy8 fy9 hP hS (lv_sub hl [0, 1, 2, 3] rfl)
theorem q_group (l : Launch) : ∀ n, C_sum l n ∧ C_unit l n ∧ C_condition l n := by
  have key : ∀ n, ∀ k, k < n → C_sum l k ∧ C_unit l k ∧ C_condition l k := by
    intro n
    induction n with
    | zero => intro k hk; exact absurd hk (by omega)
    | succ n ih =>
      intro k hk
      have h1 := q_atom l k (fun j hj => (ih j (by omega)).1)
      have h3 := q_sum l k (q_term l k h1)
      have h4 := q_compares l k h3
      have h5 := q_unit l k h4 (fun j hj => (ih j (by omega)).2.1) (fun j hj => (ih j (by omega)).2.2)
      exact ⟨h3, h5, q_condition l k (q_part l k h4 h5)⟩
  exact fun n => key (n + 1) n (by omega)
