set_option maxRecDepth 100000 in
theorem zh_dX0_isBoat_0_0 : zc cX0_isBoat 0 [27, 3, 42, 180, 0, 48, 4, 100, 184, 0, 52, 172] = true := by decide +kernel
set_option maxRecDepth 100000 in
theorem zh_dX0_isRace_0_0 : zc cX0_isRace 0 [27, 3, 42, 180, 0, 21, 182, 0, 56, 4, 100, 184, 0, 52, 172] = true := by decide +kernel
set_option maxRecDepth 100000 in
theorem zh_dX0_isKnown_0_0 : zc cX0_isKnown 0 [27, 3, 42, 180, 0, 59, 184, 0, 52, 172] = true := by decide +kernel
set_option maxRecDepth 100000 in
theorem zh_dX0_isCounted_0_0 : zc cX0_isCounted 0 [42, 28, 182, 0, 62, 153, 0, 33, 42, 27, 182, 0, 66, 153, 0, 25] = true := by decide +kernel
set_option maxRecDepth 100000 in
theorem zh_dX0_isCounted_16_16 : zc cX0_isCounted 16 [42, 180, 0, 21, 27, 182, 0, 69, 192, 0, 73, 180, 0, 75, 28, 163] = true := by decide +kernel
set_option maxRecDepth 100000 in
theorem zh_dX0_isCounted_31_32 : zc cX0_isCounted 32 [0, 7, 4, 167, 0, 4, 3, 172] = true := by decide +kernel
set_option maxRecDepth 100000 in
theorem zh_dX0_isEntered_0_0 : zc cX0_isEntered 0 [42, 27, 182, 0, 66, 153, 0, 37, 42, 28, 182, 0, 78, 153, 0, 29] = true := by decide +kernel
set_option maxRecDepth 100000 in
theorem zh_dX0_isEntered_16_16 : zc cX0_isEntered 16 [42, 180, 0, 21, 27, 182, 0, 69, 192, 0, 73, 28, 42, 180, 0, 59] = true := by decide +kernel
set_option maxRecDepth 100000 in
theorem zh_dX0_isEntered_32_32 : zc cX0_isEntered 32 [182, 0, 81, 153, 0, 7, 4, 167, 0, 4, 3, 172] = true := by decide +kernel
set_option maxRecDepth 100000 in
theorem zh_dX0_isProtested_0_0 : zc cX0_isProtested 0 [42, 28, 182, 0, 62, 153, 0, 42, 27, 3, 42, 180, 0, 30, 182, 0] = true := by decide +kernel
set_option maxRecDepth 100000 in
theorem zh_dX0_isProtested_14_16 : zc cX0_isProtested 16 [56, 4, 100, 184, 0, 52, 153, 0, 25, 42, 180, 0, 30, 27, 182, 0] = true := by decide +kernel
set_option maxRecDepth 100000 in
theorem zh_dX0_isProtested_30_32 : zc cX0_isProtested 32 [69, 192, 0, 85, 180, 0, 87, 28, 163, 0, 7, 4, 167, 0, 4, 3] = true := by decide +kernel
set_option maxRecDepth 100000 in
theorem zh_dX0_isProtested_48_48 : zc cX0_isProtested 48 [172] = true := by decide +kernel
set_option maxRecDepth 100000 in
theorem zh_dX0_rulesOn_0_0 : zc cX0_rulesOn 0 [2, 62, 3, 54, 4, 3, 54, 5, 21, 5, 42, 180, 0, 18, 182, 0] = true := by decide +kernel
set_option maxRecDepth 100000 in
theorem zh_dX0_rulesOn_14_16 : zc cX0_rulesOn 16 [56, 162, 0, 61, 42, 180, 0, 18, 21, 5, 182, 0, 69, 192, 0, 103] = true := by decide +kernel
set_option maxRecDepth 100000 in
theorem zh_dX0_rulesOn_32_32 : zc cX0_rulesOn 32 [58, 6, 25, 6, 180, 0, 105, 28, 163, 0, 32, 25, 6, 180, 0, 106] = true := by decide +kernel
set_option maxRecDepth 100000 in
theorem zh_dX0_rulesOn_48_48 : zc cX0_rulesOn 48 [27, 163, 0, 23, 25, 6, 180, 0, 106, 21, 4, 161, 0, 13, 21, 5] = true := by decide +kernel
set_option maxRecDepth 100000 in
theorem zh_dX0_rulesOn_64_64 : zc cX0_rulesOn 64 [62, 25, 6, 180, 0, 106, 54, 4, 132, 5, 1, 167, 255, 189, 29, 172] = true := by decide +kernel
set_option maxRecDepth 100000 in
theorem zh_dX0_forgetLetters_0_0 : zc cX0_forgetLetters 0 [42, 180, 0, 41, 3, 184, 0, 134, 177] = true := by decide +kernel
set_option maxRecDepth 100000 in
theorem zh_dX0_worthIn_0_0 : zc cX0_worthIn 0 [27, 2, 160, 0, 7, 3, 167, 0, 26, 42, 180, 0, 18, 27, 182, 0] = true := by decide +kernel
set_option maxRecDepth 100000 in
theorem zh_dX0_worthIn_14_16 : zc cX0_worthIn 16 [69, 192, 0, 103, 28, 42, 180, 0, 41, 42, 180, 0, 45, 182, 0, 127] = true := by decide +kernel
set_option maxRecDepth 100000 in
theorem zh_dX0_worthIn_32_32 : zc cX0_worthIn 32 [172] = true := by decide +kernel
set_option maxRecDepth 100000 in
theorem zh_dX5_isEnteredIn_0_0 : zc cX5_isEnteredIn 0 [42, 180, 0, 9, 27, 46, 2, 159, 0, 17, 42, 180, 0, 9, 27, 46] = true := by decide +kernel
set_option maxRecDepth 100000 in
theorem zh_dX5_isEnteredIn_16_16 : zc cX5_isEnteredIn 16 [28, 163, 0, 7, 4, 167, 0, 4, 3, 172] = true := by decide +kernel
set_option maxRecDepth 100000 in
theorem zh_dX5_isRedressedIn_0_0 : zc cX5_isRedressedIn 0 [42, 180, 0, 15, 27, 46, 2, 159, 0, 17, 42, 180, 0, 15, 27, 46] = true := by decide +kernel
set_option maxRecDepth 100000 in
theorem zh_dX5_isRedressedIn_16_16 : zc cX5_isRedressedIn 16 [28, 163, 0, 7, 4, 167, 0, 4, 3, 172] = true := by decide +kernel
set_option maxRecDepth 100000 in
theorem zh_dX5_swiftIn_0_0 : zc cX5_swiftIn 0 [27, 61, 28, 42, 180, 0, 27, 161, 0, 25, 42, 180, 0, 24, 28, 46] = true := by decide +kernel
set_option maxRecDepth 100000 in
theorem zh_dX5_swiftIn_16_16 : zc cX5_swiftIn 16 [153, 0, 10, 42, 180, 0, 24, 28, 46, 172, 132, 2, 255, 167, 255, 229] = true := by decide +kernel
set_option maxRecDepth 100000 in
theorem zh_dX5_swiftIn_32_32 : zc cX5_swiftIn 32 [5, 172] = true := by decide +kernel
set_option maxRecDepth 100000 in
theorem zh_dX7_worthOf_0_0 : zc cX7_worthOf 0 [3, 54, 4, 21, 4, 42, 180, 0, 22, 190, 162, 0, 98, 42, 180, 0] = true := by decide +kernel
set_option maxRecDepth 100000 in
theorem zh_dX7_worthOf_14_16 : zc cX7_worthOf 16 [22, 21, 4, 46, 27, 159, 0, 6, 167, 0, 78, 42, 180, 0, 28, 21] = true := by decide +kernel
set_option maxRecDepth 100000 in
theorem zh_dX7_worthOf_31_32 : zc cX7_worthOf 32 [4, 46, 42, 180, 0, 25, 21, 4, 46, 159, 0, 26, 42, 42, 180, 0] = true := by decide +kernel
set_option maxRecDepth 100000 in
theorem zh_dX7_worthOf_46_48 : zc cX7_worthOf 48 [25, 21, 4, 46, 42, 180, 0, 28, 21, 4, 46, 44, 45, 182, 0, 31] = true := by decide +kernel
set_option maxRecDepth 100000 in
theorem zh_dX7_worthOf_64_64 : zc cX7_worthOf 64 [153, 0, 7, 4, 167, 0, 4, 3, 54, 5, 21, 5, 153, 0, 26, 42] = true := by decide +kernel
set_option maxRecDepth 100000 in
theorem zh_dX7_worthOf_80_80 : zc cX7_worthOf 80 [42, 180, 0, 28, 21, 4, 46, 42, 180, 0, 25, 21, 4, 4, 96, 46] = true := by decide +kernel
set_option maxRecDepth 100000 in
theorem zh_dX7_worthOf_96_96 : zc cX7_worthOf 96 [44, 45, 182, 0, 31, 172, 132, 4, 1, 167, 255, 154, 27, 16, 110, 160] = true := by decide +kernel
set_option maxRecDepth 100000 in
theorem zh_dX7_worthOf_111_112 : zc cX7_worthOf 112 [0, 9, 17, 3, 232, 167, 0, 4, 3, 172] = true := by decide +kernel
set_option maxRecDepth 100000 in
theorem zh_dX7_run_0_0 : zc cX7_run 0 [3, 54, 5, 27, 54, 6, 21, 6, 28, 162, 0, 141, 42, 180, 0, 18] = true := by decide +kernel
set_option maxRecDepth 100000 in
theorem zh_dX7_run_16_16 : zc cX7_run 16 [21, 6, 46, 54, 7, 21, 7, 3, 184, 0, 35, 163, 0, 83, 16, 156] = true := by decide +kernel
set_option maxRecDepth 100000 in
theorem zh_dX7_run_32_32 : zc cX7_run 32 [21, 7, 100, 54, 8, 21, 8, 16, 33, 160, 0, 33, 21, 5, 158, 0] = true := by decide +kernel
set_option maxRecDepth 100000 in
theorem zh_dX7_run_46_48 : zc cX7_run 48 [61, 25, 4, 21, 5, 4, 100, 25, 4, 21, 5, 4, 100, 46, 154, 0] = true := by decide +kernel
set_option maxRecDepth 100000 in
theorem zh_dX7_run_62_64 : zc cX7_run 64 [7, 4, 167, 0, 4, 3, 79, 167, 0, 36, 21, 5, 4, 164, 0, 30] = true := by decide +kernel
set_option maxRecDepth 100000 in
theorem zh_dX7_run_80_80 : zc cX7_run 80 [132, 5, 255, 25, 4, 21, 5, 4, 100, 21, 8, 25, 4, 21, 5, 4] = true := by decide +kernel
set_option maxRecDepth 100000 in
theorem zh_dX7_run_96_96 : zc cX7_run 96 [100, 46, 25, 4, 21, 5, 46, 184, 0, 39, 79, 167, 0, 37, 21, 5] = true := by decide +kernel
set_option maxRecDepth 100000 in
theorem zh_dX7_run_112_112 : zc cX7_run 112 [25, 4, 190, 162, 0, 29, 25, 4, 21, 5, 21, 7, 155, 0, 8, 21] = true := by decide +kernel
set_option maxRecDepth 100000 in
theorem zh_dX7_run_127_128 : zc cX7_run 128 [7, 167, 0, 11, 2, 21, 7, 100, 45, 184, 0, 43, 79, 132, 5, 1] = true := by decide +kernel
set_option maxRecDepth 100000 in
theorem zh_dX7_run_144_144 : zc cX7_run 144 [132, 6, 1, 167, 255, 115, 21, 5, 158, 0, 13, 25, 4, 21, 5, 4] = true := by decide +kernel
set_option maxRecDepth 100000 in
theorem zh_dX7_run_160_160 : zc cX7_run 160 [100, 46, 167, 0, 4, 3, 172] = true := by decide +kernel
set_option maxRecDepth 100000 in
theorem zh_dX7_letterAt_0_0 : zc cX7_letterAt 0 [26, 43, 190, 162, 0, 9, 43, 26, 46, 167, 0, 4, 3, 172] = true := by decide +kernel
theorem dX0_isBoat_0 : decode cX0_isBoat 0 = .ok (.iload_n 1, 1) := zo_27 (zi_at zh_dX0_isBoat_0_0 0 rfl)
theorem dX0_isBoat_1 : decode cX0_isBoat 1 = .ok (.iconst 0, 1) := zo_3 (zi_at zh_dX0_isBoat_0_0 1 rfl)
theorem dX0_isBoat_2 : decode cX0_isBoat 2 = .ok (.aload_n 0, 1) := zo_42 (zi_at zh_dX0_isBoat_0_0 2 rfl)
theorem dX0_isBoat_3 : decode cX0_isBoat 3 = .ok (.getfield 48, 3) := zo_180 (zi_at zh_dX0_isBoat_0_0 3 rfl) (zi_at zh_dX0_isBoat_0_0 4 rfl) (zi_at zh_dX0_isBoat_0_0 5 rfl) rfl
theorem dX0_isBoat_6 : decode cX0_isBoat 6 = .ok (.iconst 1, 1) := zo_4 (zi_at zh_dX0_isBoat_0_0 6 rfl)
theorem dX0_isBoat_7 : decode cX0_isBoat 7 = .ok (.isub, 1) := zo_100 (zi_at zh_dX0_isBoat_0_0 7 rfl)
theorem dX0_isBoat_8 : decode cX0_isBoat 8 = .ok (.invokestatic 52, 3) := zo_184 (zi_at zh_dX0_isBoat_0_0 8 rfl) (zi_at zh_dX0_isBoat_0_0 9 rfl) (zi_at zh_dX0_isBoat_0_0 10 rfl) rfl
theorem dX0_isBoat_11 : decode cX0_isBoat 11 = .ok (.ireturn, 1) := zo_172 (zi_at zh_dX0_isBoat_0_0 11 rfl)
theorem dX0_isRace_0 : decode cX0_isRace 0 = .ok (.iload_n 1, 1) := zo_27 (zi_at zh_dX0_isRace_0_0 0 rfl)
theorem dX0_isRace_1 : decode cX0_isRace 1 = .ok (.iconst 0, 1) := zo_3 (zi_at zh_dX0_isRace_0_0 1 rfl)
theorem dX0_isRace_2 : decode cX0_isRace 2 = .ok (.aload_n 0, 1) := zo_42 (zi_at zh_dX0_isRace_0_0 2 rfl)
theorem dX0_isRace_3 : decode cX0_isRace 3 = .ok (.getfield 21, 3) := zo_180 (zi_at zh_dX0_isRace_0_0 3 rfl) (zi_at zh_dX0_isRace_0_0 4 rfl) (zi_at zh_dX0_isRace_0_0 5 rfl) rfl
theorem dX0_isRace_6 : decode cX0_isRace 6 = .ok (.invokevirtual 56, 3) := zo_182 (zi_at zh_dX0_isRace_0_0 6 rfl) (zi_at zh_dX0_isRace_0_0 7 rfl) (zi_at zh_dX0_isRace_0_0 8 rfl) rfl
theorem dX0_isRace_9 : decode cX0_isRace 9 = .ok (.iconst 1, 1) := zo_4 (zi_at zh_dX0_isRace_0_0 9 rfl)
theorem dX0_isRace_10 : decode cX0_isRace 10 = .ok (.isub, 1) := zo_100 (zi_at zh_dX0_isRace_0_0 10 rfl)
theorem dX0_isRace_11 : decode cX0_isRace 11 = .ok (.invokestatic 52, 3) := zo_184 (zi_at zh_dX0_isRace_0_0 11 rfl) (zi_at zh_dX0_isRace_0_0 12 rfl) (zi_at zh_dX0_isRace_0_0 13 rfl) rfl
theorem dX0_isRace_14 : decode cX0_isRace 14 = .ok (.ireturn, 1) := zo_172 (zi_at zh_dX0_isRace_0_0 14 rfl)
theorem dX0_isKnown_0 : decode cX0_isKnown 0 = .ok (.iload_n 1, 1) := zo_27 (zi_at zh_dX0_isKnown_0_0 0 rfl)
theorem dX0_isKnown_1 : decode cX0_isKnown 1 = .ok (.iconst 0, 1) := zo_3 (zi_at zh_dX0_isKnown_0_0 1 rfl)
theorem dX0_isKnown_2 : decode cX0_isKnown 2 = .ok (.aload_n 0, 1) := zo_42 (zi_at zh_dX0_isKnown_0_0 2 rfl)
theorem dX0_isKnown_3 : decode cX0_isKnown 3 = .ok (.getfield 59, 3) := zo_180 (zi_at zh_dX0_isKnown_0_0 3 rfl) (zi_at zh_dX0_isKnown_0_0 4 rfl) (zi_at zh_dX0_isKnown_0_0 5 rfl) rfl
theorem dX0_isKnown_6 : decode cX0_isKnown 6 = .ok (.invokestatic 52, 3) := zo_184 (zi_at zh_dX0_isKnown_0_0 6 rfl) (zi_at zh_dX0_isKnown_0_0 7 rfl) (zi_at zh_dX0_isKnown_0_0 8 rfl) rfl
theorem dX0_isKnown_9 : decode cX0_isKnown 9 = .ok (.ireturn, 1) := zo_172 (zi_at zh_dX0_isKnown_0_0 9 rfl)
theorem dX0_isCounted_0 : decode cX0_isCounted 0 = .ok (.aload_n 0, 1) := zo_42 (zi_at zh_dX0_isCounted_0_0 0 rfl)
theorem dX0_isCounted_1 : decode cX0_isCounted 1 = .ok (.iload_n 2, 1) := zo_28 (zi_at zh_dX0_isCounted_0_0 1 rfl)
theorem dX0_isCounted_2 : decode cX0_isCounted 2 = .ok (.invokevirtual 62, 3) := zo_182 (zi_at zh_dX0_isCounted_0_0 2 rfl) (zi_at zh_dX0_isCounted_0_0 3 rfl) (zi_at zh_dX0_isCounted_0_0 4 rfl) rfl
theorem dX0_isCounted_5 : decode cX0_isCounted 5 = .ok (.ifCond .eq 33, 3) := zo_153 (zi_at zh_dX0_isCounted_0_0 5 rfl) (zi_at zh_dX0_isCounted_0_0 6 rfl) (zi_at zh_dX0_isCounted_0_0 7 rfl) rfl
theorem dX0_isCounted_8 : decode cX0_isCounted 8 = .ok (.aload_n 0, 1) := zo_42 (zi_at zh_dX0_isCounted_0_0 8 rfl)
theorem dX0_isCounted_9 : decode cX0_isCounted 9 = .ok (.iload_n 1, 1) := zo_27 (zi_at zh_dX0_isCounted_0_0 9 rfl)
theorem dX0_isCounted_10 : decode cX0_isCounted 10 = .ok (.invokevirtual 66, 3) := zo_182 (zi_at zh_dX0_isCounted_0_0 10 rfl) (zi_at zh_dX0_isCounted_0_0 11 rfl) (zi_at zh_dX0_isCounted_0_0 12 rfl) rfl
theorem dX0_isCounted_13 : decode cX0_isCounted 13 = .ok (.ifCond .eq 25, 3) := zo_153 (zi_at zh_dX0_isCounted_0_0 13 rfl) (zi_at zh_dX0_isCounted_0_0 14 rfl) (zi_at zh_dX0_isCounted_0_0 15 rfl) rfl
theorem dX0_isCounted_16 : decode cX0_isCounted 16 = .ok (.aload_n 0, 1) := zo_42 (zi_at zh_dX0_isCounted_16_16 0 rfl)
theorem dX0_isCounted_17 : decode cX0_isCounted 17 = .ok (.getfield 21, 3) := zo_180 (zi_at zh_dX0_isCounted_16_16 1 rfl) (zi_at zh_dX0_isCounted_16_16 2 rfl) (zi_at zh_dX0_isCounted_16_16 3 rfl) rfl
theorem dX0_isCounted_20 : decode cX0_isCounted 20 = .ok (.iload_n 1, 1) := zo_27 (zi_at zh_dX0_isCounted_16_16 4 rfl)
theorem dX0_isCounted_21 : decode cX0_isCounted 21 = .ok (.invokevirtual 69, 3) := zo_182 (zi_at zh_dX0_isCounted_16_16 5 rfl) (zi_at zh_dX0_isCounted_16_16 6 rfl) (zi_at zh_dX0_isCounted_16_16 7 rfl) rfl
theorem dX0_isCounted_24 : decode cX0_isCounted 24 = .ok (.checkcast 73, 3) := zo_192 (zi_at zh_dX0_isCounted_16_16 8 rfl) (zi_at zh_dX0_isCounted_16_16 9 rfl) (zi_at zh_dX0_isCounted_16_16 10 rfl) rfl
theorem dX0_isCounted_27 : decode cX0_isCounted 27 = .ok (.getfield 75, 3) := zo_180 (zi_at zh_dX0_isCounted_16_16 11 rfl) (zi_at zh_dX0_isCounted_16_16 12 rfl) (zi_at zh_dX0_isCounted_16_16 13 rfl) rfl
theorem dX0_isCounted_30 : decode cX0_isCounted 30 = .ok (.iload_n 2, 1) := zo_28 (zi_at zh_dX0_isCounted_16_16 14 rfl)
theorem dX0_isCounted_31 : decode cX0_isCounted 31 = .ok (.if_icmp .gt 7, 3) := zo_163 (zi_at zh_dX0_isCounted_16_16 15 rfl) (zi_at zh_dX0_isCounted_31_32 0 rfl) (zi_at zh_dX0_isCounted_31_32 1 rfl) rfl
theorem dX0_isCounted_34 : decode cX0_isCounted 34 = .ok (.iconst 1, 1) := zo_4 (zi_at zh_dX0_isCounted_31_32 2 rfl)
theorem dX0_isCounted_35 : decode cX0_isCounted 35 = .ok (.goto 4, 3) := zo_167 (zi_at zh_dX0_isCounted_31_32 3 rfl) (zi_at zh_dX0_isCounted_31_32 4 rfl) (zi_at zh_dX0_isCounted_31_32 5 rfl) rfl
theorem dX0_isCounted_38 : decode cX0_isCounted 38 = .ok (.iconst 0, 1) := zo_3 (zi_at zh_dX0_isCounted_31_32 6 rfl)
theorem dX0_isCounted_39 : decode cX0_isCounted 39 = .ok (.ireturn, 1) := zo_172 (zi_at zh_dX0_isCounted_31_32 7 rfl)
theorem dX0_isEntered_0 : decode cX0_isEntered 0 = .ok (.aload_n 0, 1) := zo_42 (zi_at zh_dX0_isEntered_0_0 0 rfl)
theorem dX0_isEntered_1 : decode cX0_isEntered 1 = .ok (.iload_n 1, 1) := zo_27 (zi_at zh_dX0_isEntered_0_0 1 rfl)
theorem dX0_isEntered_2 : decode cX0_isEntered 2 = .ok (.invokevirtual 66, 3) := zo_182 (zi_at zh_dX0_isEntered_0_0 2 rfl) (zi_at zh_dX0_isEntered_0_0 3 rfl) (zi_at zh_dX0_isEntered_0_0 4 rfl) rfl
theorem dX0_isEntered_5 : decode cX0_isEntered 5 = .ok (.ifCond .eq 37, 3) := zo_153 (zi_at zh_dX0_isEntered_0_0 5 rfl) (zi_at zh_dX0_isEntered_0_0 6 rfl) (zi_at zh_dX0_isEntered_0_0 7 rfl) rfl
theorem dX0_isEntered_8 : decode cX0_isEntered 8 = .ok (.aload_n 0, 1) := zo_42 (zi_at zh_dX0_isEntered_0_0 8 rfl)
theorem dX0_isEntered_9 : decode cX0_isEntered 9 = .ok (.iload_n 2, 1) := zo_28 (zi_at zh_dX0_isEntered_0_0 9 rfl)
theorem dX0_isEntered_10 : decode cX0_isEntered 10 = .ok (.invokevirtual 78, 3) := zo_182 (zi_at zh_dX0_isEntered_0_0 10 rfl) (zi_at zh_dX0_isEntered_0_0 11 rfl) (zi_at zh_dX0_isEntered_0_0 12 rfl) rfl
theorem dX0_isEntered_13 : decode cX0_isEntered 13 = .ok (.ifCond .eq 29, 3) := zo_153 (zi_at zh_dX0_isEntered_0_0 13 rfl) (zi_at zh_dX0_isEntered_0_0 14 rfl) (zi_at zh_dX0_isEntered_0_0 15 rfl) rfl
theorem dX0_isEntered_16 : decode cX0_isEntered 16 = .ok (.aload_n 0, 1) := zo_42 (zi_at zh_dX0_isEntered_16_16 0 rfl)
theorem dX0_isEntered_17 : decode cX0_isEntered 17 = .ok (.getfield 21, 3) := zo_180 (zi_at zh_dX0_isEntered_16_16 1 rfl) (zi_at zh_dX0_isEntered_16_16 2 rfl) (zi_at zh_dX0_isEntered_16_16 3 rfl) rfl
theorem dX0_isEntered_20 : decode cX0_isEntered 20 = .ok (.iload_n 1, 1) := zo_27 (zi_at zh_dX0_isEntered_16_16 4 rfl)
theorem dX0_isEntered_21 : decode cX0_isEntered 21 = .ok (.invokevirtual 69, 3) := zo_182 (zi_at zh_dX0_isEntered_16_16 5 rfl) (zi_at zh_dX0_isEntered_16_16 6 rfl) (zi_at zh_dX0_isEntered_16_16 7 rfl) rfl
theorem dX0_isEntered_24 : decode cX0_isEntered 24 = .ok (.checkcast 73, 3) := zo_192 (zi_at zh_dX0_isEntered_16_16 8 rfl) (zi_at zh_dX0_isEntered_16_16 9 rfl) (zi_at zh_dX0_isEntered_16_16 10 rfl) rfl
theorem dX0_isEntered_27 : decode cX0_isEntered 27 = .ok (.iload_n 2, 1) := zo_28 (zi_at zh_dX0_isEntered_16_16 11 rfl)
theorem dX0_isEntered_28 : decode cX0_isEntered 28 = .ok (.aload_n 0, 1) := zo_42 (zi_at zh_dX0_isEntered_16_16 12 rfl)
theorem dX0_isEntered_29 : decode cX0_isEntered 29 = .ok (.getfield 59, 3) := zo_180 (zi_at zh_dX0_isEntered_16_16 13 rfl) (zi_at zh_dX0_isEntered_16_16 14 rfl) (zi_at zh_dX0_isEntered_16_16 15 rfl) rfl
theorem dX0_isEntered_32 : decode cX0_isEntered 32 = .ok (.invokevirtual 81, 3) := zo_182 (zi_at zh_dX0_isEntered_32_32 0 rfl) (zi_at zh_dX0_isEntered_32_32 1 rfl) (zi_at zh_dX0_isEntered_32_32 2 rfl) rfl
theorem dX0_isEntered_35 : decode cX0_isEntered 35 = .ok (.ifCond .eq 7, 3) := zo_153 (zi_at zh_dX0_isEntered_32_32 3 rfl) (zi_at zh_dX0_isEntered_32_32 4 rfl) (zi_at zh_dX0_isEntered_32_32 5 rfl) rfl
theorem dX0_isEntered_38 : decode cX0_isEntered 38 = .ok (.iconst 1, 1) := zo_4 (zi_at zh_dX0_isEntered_32_32 6 rfl)
theorem dX0_isEntered_39 : decode cX0_isEntered 39 = .ok (.goto 4, 3) := zo_167 (zi_at zh_dX0_isEntered_32_32 7 rfl) (zi_at zh_dX0_isEntered_32_32 8 rfl) (zi_at zh_dX0_isEntered_32_32 9 rfl) rfl
theorem dX0_isEntered_42 : decode cX0_isEntered 42 = .ok (.iconst 0, 1) := zo_3 (zi_at zh_dX0_isEntered_32_32 10 rfl)
theorem dX0_isEntered_43 : decode cX0_isEntered 43 = .ok (.ireturn, 1) := zo_172 (zi_at zh_dX0_isEntered_32_32 11 rfl)
theorem dX0_isProtested_0 : decode cX0_isProtested 0 = .ok (.aload_n 0, 1) := zo_42 (zi_at zh_dX0_isProtested_0_0 0 rfl)
theorem dX0_isProtested_1 : decode cX0_isProtested 1 = .ok (.iload_n 2, 1) := zo_28 (zi_at zh_dX0_isProtested_0_0 1 rfl)
theorem dX0_isProtested_2 : decode cX0_isProtested 2 = .ok (.invokevirtual 62, 3) := zo_182 (zi_at zh_dX0_isProtested_0_0 2 rfl) (zi_at zh_dX0_isProtested_0_0 3 rfl) (zi_at zh_dX0_isProtested_0_0 4 rfl) rfl
theorem dX0_isProtested_5 : decode cX0_isProtested 5 = .ok (.ifCond .eq 42, 3) := zo_153 (zi_at zh_dX0_isProtested_0_0 5 rfl) (zi_at zh_dX0_isProtested_0_0 6 rfl) (zi_at zh_dX0_isProtested_0_0 7 rfl) rfl
theorem dX0_isProtested_8 : decode cX0_isProtested 8 = .ok (.iload_n 1, 1) := zo_27 (zi_at zh_dX0_isProtested_0_0 8 rfl)
theorem dX0_isProtested_9 : decode cX0_isProtested 9 = .ok (.iconst 0, 1) := zo_3 (zi_at zh_dX0_isProtested_0_0 9 rfl)
theorem dX0_isProtested_10 : decode cX0_isProtested 10 = .ok (.aload_n 0, 1) := zo_42 (zi_at zh_dX0_isProtested_0_0 10 rfl)
theorem dX0_isProtested_11 : decode cX0_isProtested 11 = .ok (.getfield 30, 3) := zo_180 (zi_at zh_dX0_isProtested_0_0 11 rfl) (zi_at zh_dX0_isProtested_0_0 12 rfl) (zi_at zh_dX0_isProtested_0_0 13 rfl) rfl
theorem dX0_isProtested_14 : decode cX0_isProtested 14 = .ok (.invokevirtual 56, 3) := zo_182 (zi_at zh_dX0_isProtested_0_0 14 rfl) (zi_at zh_dX0_isProtested_0_0 15 rfl) (zi_at zh_dX0_isProtested_14_16 0 rfl) rfl
theorem dX0_isProtested_17 : decode cX0_isProtested 17 = .ok (.iconst 1, 1) := zo_4 (zi_at zh_dX0_isProtested_14_16 1 rfl)
theorem dX0_isProtested_18 : decode cX0_isProtested 18 = .ok (.isub, 1) := zo_100 (zi_at zh_dX0_isProtested_14_16 2 rfl)
theorem dX0_isProtested_19 : decode cX0_isProtested 19 = .ok (.invokestatic 52, 3) := zo_184 (zi_at zh_dX0_isProtested_14_16 3 rfl) (zi_at zh_dX0_isProtested_14_16 4 rfl) (zi_at zh_dX0_isProtested_14_16 5 rfl) rfl
theorem dX0_isProtested_22 : decode cX0_isProtested 22 = .ok (.ifCond .eq 25, 3) := zo_153 (zi_at zh_dX0_isProtested_14_16 6 rfl) (zi_at zh_dX0_isProtested_14_16 7 rfl) (zi_at zh_dX0_isProtested_14_16 8 rfl) rfl
theorem dX0_isProtested_25 : decode cX0_isProtested 25 = .ok (.aload_n 0, 1) := zo_42 (zi_at zh_dX0_isProtested_14_16 9 rfl)
theorem dX0_isProtested_26 : decode cX0_isProtested 26 = .ok (.getfield 30, 3) := zo_180 (zi_at zh_dX0_isProtested_14_16 10 rfl) (zi_at zh_dX0_isProtested_14_16 11 rfl) (zi_at zh_dX0_isProtested_14_16 12 rfl) rfl
theorem dX0_isProtested_29 : decode cX0_isProtested 29 = .ok (.iload_n 1, 1) := zo_27 (zi_at zh_dX0_isProtested_14_16 13 rfl)
theorem dX0_isProtested_30 : decode cX0_isProtested 30 = .ok (.invokevirtual 69, 3) := zo_182 (zi_at zh_dX0_isProtested_14_16 14 rfl) (zi_at zh_dX0_isProtested_14_16 15 rfl) (zi_at zh_dX0_isProtested_30_32 0 rfl) rfl
theorem dX0_isProtested_33 : decode cX0_isProtested 33 = .ok (.checkcast 85, 3) := zo_192 (zi_at zh_dX0_isProtested_30_32 1 rfl) (zi_at zh_dX0_isProtested_30_32 2 rfl) (zi_at zh_dX0_isProtested_30_32 3 rfl) rfl
theorem dX0_isProtested_36 : decode cX0_isProtested 36 = .ok (.getfield 87, 3) := zo_180 (zi_at zh_dX0_isProtested_30_32 4 rfl) (zi_at zh_dX0_isProtested_30_32 5 rfl) (zi_at zh_dX0_isProtested_30_32 6 rfl) rfl
theorem dX0_isProtested_39 : decode cX0_isProtested 39 = .ok (.iload_n 2, 1) := zo_28 (zi_at zh_dX0_isProtested_30_32 7 rfl)
theorem dX0_isProtested_40 : decode cX0_isProtested 40 = .ok (.if_icmp .gt 7, 3) := zo_163 (zi_at zh_dX0_isProtested_30_32 8 rfl) (zi_at zh_dX0_isProtested_30_32 9 rfl) (zi_at zh_dX0_isProtested_30_32 10 rfl) rfl
theorem dX0_isProtested_43 : decode cX0_isProtested 43 = .ok (.iconst 1, 1) := zo_4 (zi_at zh_dX0_isProtested_30_32 11 rfl)
theorem dX0_isProtested_44 : decode cX0_isProtested 44 = .ok (.goto 4, 3) := zo_167 (zi_at zh_dX0_isProtested_30_32 12 rfl) (zi_at zh_dX0_isProtested_30_32 13 rfl) (zi_at zh_dX0_isProtested_30_32 14 rfl) rfl
theorem dX0_isProtested_47 : decode cX0_isProtested 47 = .ok (.iconst 0, 1) := zo_3 (zi_at zh_dX0_isProtested_30_32 15 rfl)
theorem dX0_isProtested_48 : decode cX0_isProtested 48 = .ok (.ireturn, 1) := zo_172 (zi_at zh_dX0_isProtested_48_48 0 rfl)
theorem dX0_rulesOn_0 : decode cX0_rulesOn 0 = .ok (.iconst (-1), 1) := zo_2 (zi_at zh_dX0_rulesOn_0_0 0 rfl)
theorem dX0_rulesOn_1 : decode cX0_rulesOn 1 = .ok (.istore_n 3, 1) := zo_62 (zi_at zh_dX0_rulesOn_0_0 1 rfl)
theorem dX0_rulesOn_2 : decode cX0_rulesOn 2 = .ok (.iconst 0, 1) := zo_3 (zi_at zh_dX0_rulesOn_0_0 2 rfl)
theorem dX0_rulesOn_3 : decode cX0_rulesOn 3 = .ok (.istore 4, 2) := zo_54 (zi_at zh_dX0_rulesOn_0_0 3 rfl) (zi_at zh_dX0_rulesOn_0_0 4 rfl)
theorem dX0_rulesOn_5 : decode cX0_rulesOn 5 = .ok (.iconst 0, 1) := zo_3 (zi_at zh_dX0_rulesOn_0_0 5 rfl)
theorem dX0_rulesOn_6 : decode cX0_rulesOn 6 = .ok (.istore 5, 2) := zo_54 (zi_at zh_dX0_rulesOn_0_0 6 rfl) (zi_at zh_dX0_rulesOn_0_0 7 rfl)
theorem dX0_rulesOn_8 : decode cX0_rulesOn 8 = .ok (.iload 5, 2) := zo_21 (zi_at zh_dX0_rulesOn_0_0 8 rfl) (zi_at zh_dX0_rulesOn_0_0 9 rfl)
theorem dX0_rulesOn_10 : decode cX0_rulesOn 10 = .ok (.aload_n 0, 1) := zo_42 (zi_at zh_dX0_rulesOn_0_0 10 rfl)
theorem dX0_rulesOn_11 : decode cX0_rulesOn 11 = .ok (.getfield 18, 3) := zo_180 (zi_at zh_dX0_rulesOn_0_0 11 rfl) (zi_at zh_dX0_rulesOn_0_0 12 rfl) (zi_at zh_dX0_rulesOn_0_0 13 rfl) rfl
theorem dX0_rulesOn_14 : decode cX0_rulesOn 14 = .ok (.invokevirtual 56, 3) := zo_182 (zi_at zh_dX0_rulesOn_0_0 14 rfl) (zi_at zh_dX0_rulesOn_0_0 15 rfl) (zi_at zh_dX0_rulesOn_14_16 0 rfl) rfl
theorem dX0_rulesOn_17 : decode cX0_rulesOn 17 = .ok (.if_icmp .ge 61, 3) := zo_162 (zi_at zh_dX0_rulesOn_14_16 1 rfl) (zi_at zh_dX0_rulesOn_14_16 2 rfl) (zi_at zh_dX0_rulesOn_14_16 3 rfl) rfl
theorem dX0_rulesOn_20 : decode cX0_rulesOn 20 = .ok (.aload_n 0, 1) := zo_42 (zi_at zh_dX0_rulesOn_14_16 4 rfl)
theorem dX0_rulesOn_21 : decode cX0_rulesOn 21 = .ok (.getfield 18, 3) := zo_180 (zi_at zh_dX0_rulesOn_14_16 5 rfl) (zi_at zh_dX0_rulesOn_14_16 6 rfl) (zi_at zh_dX0_rulesOn_14_16 7 rfl) rfl
theorem dX0_rulesOn_24 : decode cX0_rulesOn 24 = .ok (.iload 5, 2) := zo_21 (zi_at zh_dX0_rulesOn_14_16 8 rfl) (zi_at zh_dX0_rulesOn_14_16 9 rfl)
theorem dX0_rulesOn_26 : decode cX0_rulesOn 26 = .ok (.invokevirtual 69, 3) := zo_182 (zi_at zh_dX0_rulesOn_14_16 10 rfl) (zi_at zh_dX0_rulesOn_14_16 11 rfl) (zi_at zh_dX0_rulesOn_14_16 12 rfl) rfl
theorem dX0_rulesOn_29 : decode cX0_rulesOn 29 = .ok (.checkcast 103, 3) := zo_192 (zi_at zh_dX0_rulesOn_14_16 13 rfl) (zi_at zh_dX0_rulesOn_14_16 14 rfl) (zi_at zh_dX0_rulesOn_14_16 15 rfl) rfl
theorem dX0_rulesOn_32 : decode cX0_rulesOn 32 = .ok (.astore 6, 2) := zo_58 (zi_at zh_dX0_rulesOn_32_32 0 rfl) (zi_at zh_dX0_rulesOn_32_32 1 rfl)
theorem dX0_rulesOn_34 : decode cX0_rulesOn 34 = .ok (.aload 6, 2) := zo_25 (zi_at zh_dX0_rulesOn_32_32 2 rfl) (zi_at zh_dX0_rulesOn_32_32 3 rfl)
theorem dX0_rulesOn_36 : decode cX0_rulesOn 36 = .ok (.getfield 105, 3) := zo_180 (zi_at zh_dX0_rulesOn_32_32 4 rfl) (zi_at zh_dX0_rulesOn_32_32 5 rfl) (zi_at zh_dX0_rulesOn_32_32 6 rfl) rfl
theorem dX0_rulesOn_39 : decode cX0_rulesOn 39 = .ok (.iload_n 2, 1) := zo_28 (zi_at zh_dX0_rulesOn_32_32 7 rfl)
theorem dX0_rulesOn_40 : decode cX0_rulesOn 40 = .ok (.if_icmp .gt 32, 3) := zo_163 (zi_at zh_dX0_rulesOn_32_32 8 rfl) (zi_at zh_dX0_rulesOn_32_32 9 rfl) (zi_at zh_dX0_rulesOn_32_32 10 rfl) rfl
theorem dX0_rulesOn_43 : decode cX0_rulesOn 43 = .ok (.aload 6, 2) := zo_25 (zi_at zh_dX0_rulesOn_32_32 11 rfl) (zi_at zh_dX0_rulesOn_32_32 12 rfl)
theorem dX0_rulesOn_45 : decode cX0_rulesOn 45 = .ok (.getfield 106, 3) := zo_180 (zi_at zh_dX0_rulesOn_32_32 13 rfl) (zi_at zh_dX0_rulesOn_32_32 14 rfl) (zi_at zh_dX0_rulesOn_32_32 15 rfl) rfl
theorem dX0_rulesOn_48 : decode cX0_rulesOn 48 = .ok (.iload_n 1, 1) := zo_27 (zi_at zh_dX0_rulesOn_48_48 0 rfl)
theorem dX0_rulesOn_49 : decode cX0_rulesOn 49 = .ok (.if_icmp .gt 23, 3) := zo_163 (zi_at zh_dX0_rulesOn_48_48 1 rfl) (zi_at zh_dX0_rulesOn_48_48 2 rfl) (zi_at zh_dX0_rulesOn_48_48 3 rfl) rfl
theorem dX0_rulesOn_52 : decode cX0_rulesOn 52 = .ok (.aload 6, 2) := zo_25 (zi_at zh_dX0_rulesOn_48_48 4 rfl) (zi_at zh_dX0_rulesOn_48_48 5 rfl)
theorem dX0_rulesOn_54 : decode cX0_rulesOn 54 = .ok (.getfield 106, 3) := zo_180 (zi_at zh_dX0_rulesOn_48_48 6 rfl) (zi_at zh_dX0_rulesOn_48_48 7 rfl) (zi_at zh_dX0_rulesOn_48_48 8 rfl) rfl
theorem dX0_rulesOn_57 : decode cX0_rulesOn 57 = .ok (.iload 4, 2) := zo_21 (zi_at zh_dX0_rulesOn_48_48 9 rfl) (zi_at zh_dX0_rulesOn_48_48 10 rfl)
theorem dX0_rulesOn_59 : decode cX0_rulesOn 59 = .ok (.if_icmp .lt 13, 3) := zo_161 (zi_at zh_dX0_rulesOn_48_48 11 rfl) (zi_at zh_dX0_rulesOn_48_48 12 rfl) (zi_at zh_dX0_rulesOn_48_48 13 rfl) rfl
theorem dX0_rulesOn_62 : decode cX0_rulesOn 62 = .ok (.iload 5, 2) := zo_21 (zi_at zh_dX0_rulesOn_48_48 14 rfl) (zi_at zh_dX0_rulesOn_48_48 15 rfl)
theorem dX0_rulesOn_64 : decode cX0_rulesOn 64 = .ok (.istore_n 3, 1) := zo_62 (zi_at zh_dX0_rulesOn_64_64 0 rfl)
theorem dX0_rulesOn_65 : decode cX0_rulesOn 65 = .ok (.aload 6, 2) := zo_25 (zi_at zh_dX0_rulesOn_64_64 1 rfl) (zi_at zh_dX0_rulesOn_64_64 2 rfl)
theorem dX0_rulesOn_67 : decode cX0_rulesOn 67 = .ok (.getfield 106, 3) := zo_180 (zi_at zh_dX0_rulesOn_64_64 3 rfl) (zi_at zh_dX0_rulesOn_64_64 4 rfl) (zi_at zh_dX0_rulesOn_64_64 5 rfl) rfl
theorem dX0_rulesOn_70 : decode cX0_rulesOn 70 = .ok (.istore 4, 2) := zo_54 (zi_at zh_dX0_rulesOn_64_64 6 rfl) (zi_at zh_dX0_rulesOn_64_64 7 rfl)
theorem dX0_rulesOn_72 : decode cX0_rulesOn 72 = .ok (.iinc 5 1, 3) := zo_132 (zi_at zh_dX0_rulesOn_64_64 8 rfl) (zi_at zh_dX0_rulesOn_64_64 9 rfl) (zi_at zh_dX0_rulesOn_64_64 10 rfl) rfl
theorem dX0_rulesOn_75 : decode cX0_rulesOn 75 = .ok (.goto (-67), 3) := zo_167 (zi_at zh_dX0_rulesOn_64_64 11 rfl) (zi_at zh_dX0_rulesOn_64_64 12 rfl) (zi_at zh_dX0_rulesOn_64_64 13 rfl) rfl
theorem dX0_rulesOn_78 : decode cX0_rulesOn 78 = .ok (.iload_n 3, 1) := zo_29 (zi_at zh_dX0_rulesOn_64_64 14 rfl)
theorem dX0_rulesOn_79 : decode cX0_rulesOn 79 = .ok (.ireturn, 1) := zo_172 (zi_at zh_dX0_rulesOn_64_64 15 rfl)
theorem dX0_forgetLetters_0 : decode cX0_forgetLetters 0 = .ok (.aload_n 0, 1) := zo_42 (zi_at zh_dX0_forgetLetters_0_0 0 rfl)
theorem dX0_forgetLetters_1 : decode cX0_forgetLetters 1 = .ok (.getfield 41, 3) := zo_180 (zi_at zh_dX0_forgetLetters_0_0 1 rfl) (zi_at zh_dX0_forgetLetters_0_0 2 rfl) (zi_at zh_dX0_forgetLetters_0_0 3 rfl) rfl
theorem dX0_forgetLetters_4 : decode cX0_forgetLetters 4 = .ok (.iconst 0, 1) := zo_3 (zi_at zh_dX0_forgetLetters_0_0 4 rfl)
theorem dX0_forgetLetters_5 : decode cX0_forgetLetters 5 = .ok (.invokestatic 134, 3) := zo_184 (zi_at zh_dX0_forgetLetters_0_0 5 rfl) (zi_at zh_dX0_forgetLetters_0_0 6 rfl) (zi_at zh_dX0_forgetLetters_0_0 7 rfl) rfl
theorem dX0_forgetLetters_8 : decode cX0_forgetLetters 8 = .ok (.return_, 1) := zo_177 (zi_at zh_dX0_forgetLetters_0_0 8 rfl)
theorem dX0_worthIn_0 : decode cX0_worthIn 0 = .ok (.iload_n 1, 1) := zo_27 (zi_at zh_dX0_worthIn_0_0 0 rfl)
theorem dX0_worthIn_1 : decode cX0_worthIn 1 = .ok (.iconst (-1), 1) := zo_2 (zi_at zh_dX0_worthIn_0_0 1 rfl)
theorem dX0_worthIn_2 : decode cX0_worthIn 2 = .ok (.if_icmp .ne 7, 3) := zo_160 (zi_at zh_dX0_worthIn_0_0 2 rfl) (zi_at zh_dX0_worthIn_0_0 3 rfl) (zi_at zh_dX0_worthIn_0_0 4 rfl) rfl
theorem dX0_worthIn_5 : decode cX0_worthIn 5 = .ok (.iconst 0, 1) := zo_3 (zi_at zh_dX0_worthIn_0_0 5 rfl)
theorem dX0_worthIn_6 : decode cX0_worthIn 6 = .ok (.goto 26, 3) := zo_167 (zi_at zh_dX0_worthIn_0_0 6 rfl) (zi_at zh_dX0_worthIn_0_0 7 rfl) (zi_at zh_dX0_worthIn_0_0 8 rfl) rfl
theorem dX0_worthIn_9 : decode cX0_worthIn 9 = .ok (.aload_n 0, 1) := zo_42 (zi_at zh_dX0_worthIn_0_0 9 rfl)
theorem dX0_worthIn_10 : decode cX0_worthIn 10 = .ok (.getfield 18, 3) := zo_180 (zi_at zh_dX0_worthIn_0_0 10 rfl) (zi_at zh_dX0_worthIn_0_0 11 rfl) (zi_at zh_dX0_worthIn_0_0 12 rfl) rfl
theorem dX0_worthIn_13 : decode cX0_worthIn 13 = .ok (.iload_n 1, 1) := zo_27 (zi_at zh_dX0_worthIn_0_0 13 rfl)
theorem dX0_worthIn_14 : decode cX0_worthIn 14 = .ok (.invokevirtual 69, 3) := zo_182 (zi_at zh_dX0_worthIn_0_0 14 rfl) (zi_at zh_dX0_worthIn_0_0 15 rfl) (zi_at zh_dX0_worthIn_14_16 0 rfl) rfl
theorem dX0_worthIn_17 : decode cX0_worthIn 17 = .ok (.checkcast 103, 3) := zo_192 (zi_at zh_dX0_worthIn_14_16 1 rfl) (zi_at zh_dX0_worthIn_14_16 2 rfl) (zi_at zh_dX0_worthIn_14_16 3 rfl) rfl
theorem dX0_worthIn_20 : decode cX0_worthIn 20 = .ok (.iload_n 2, 1) := zo_28 (zi_at zh_dX0_worthIn_14_16 4 rfl)
theorem dX0_worthIn_21 : decode cX0_worthIn 21 = .ok (.aload_n 0, 1) := zo_42 (zi_at zh_dX0_worthIn_14_16 5 rfl)
theorem dX0_worthIn_22 : decode cX0_worthIn 22 = .ok (.getfield 41, 3) := zo_180 (zi_at zh_dX0_worthIn_14_16 6 rfl) (zi_at zh_dX0_worthIn_14_16 7 rfl) (zi_at zh_dX0_worthIn_14_16 8 rfl) rfl
theorem dX0_worthIn_25 : decode cX0_worthIn 25 = .ok (.aload_n 0, 1) := zo_42 (zi_at zh_dX0_worthIn_14_16 9 rfl)
theorem dX0_worthIn_26 : decode cX0_worthIn 26 = .ok (.getfield 45, 3) := zo_180 (zi_at zh_dX0_worthIn_14_16 10 rfl) (zi_at zh_dX0_worthIn_14_16 11 rfl) (zi_at zh_dX0_worthIn_14_16 12 rfl) rfl
theorem dX0_worthIn_29 : decode cX0_worthIn 29 = .ok (.invokevirtual 127, 3) := zo_182 (zi_at zh_dX0_worthIn_14_16 13 rfl) (zi_at zh_dX0_worthIn_14_16 14 rfl) (zi_at zh_dX0_worthIn_14_16 15 rfl) rfl
theorem dX0_worthIn_32 : decode cX0_worthIn 32 = .ok (.ireturn, 1) := zo_172 (zi_at zh_dX0_worthIn_32_32 0 rfl)
theorem dX5_isEnteredIn_0 : decode cX5_isEnteredIn 0 = .ok (.aload_n 0, 1) := zo_42 (zi_at zh_dX5_isEnteredIn_0_0 0 rfl)
theorem dX5_isEnteredIn_1 : decode cX5_isEnteredIn 1 = .ok (.getfield 9, 3) := zo_180 (zi_at zh_dX5_isEnteredIn_0_0 1 rfl) (zi_at zh_dX5_isEnteredIn_0_0 2 rfl) (zi_at zh_dX5_isEnteredIn_0_0 3 rfl) rfl
theorem dX5_isEnteredIn_4 : decode cX5_isEnteredIn 4 = .ok (.iload_n 1, 1) := zo_27 (zi_at zh_dX5_isEnteredIn_0_0 4 rfl)
theorem dX5_isEnteredIn_5 : decode cX5_isEnteredIn 5 = .ok (.iaload, 1) := zo_46 (zi_at zh_dX5_isEnteredIn_0_0 5 rfl)
theorem dX5_isEnteredIn_6 : decode cX5_isEnteredIn 6 = .ok (.iconst (-1), 1) := zo_2 (zi_at zh_dX5_isEnteredIn_0_0 6 rfl)
theorem dX5_isEnteredIn_7 : decode cX5_isEnteredIn 7 = .ok (.if_icmp .eq 17, 3) := zo_159 (zi_at zh_dX5_isEnteredIn_0_0 7 rfl) (zi_at zh_dX5_isEnteredIn_0_0 8 rfl) (zi_at zh_dX5_isEnteredIn_0_0 9 rfl) rfl
theorem dX5_isEnteredIn_10 : decode cX5_isEnteredIn 10 = .ok (.aload_n 0, 1) := zo_42 (zi_at zh_dX5_isEnteredIn_0_0 10 rfl)
theorem dX5_isEnteredIn_11 : decode cX5_isEnteredIn 11 = .ok (.getfield 9, 3) := zo_180 (zi_at zh_dX5_isEnteredIn_0_0 11 rfl) (zi_at zh_dX5_isEnteredIn_0_0 12 rfl) (zi_at zh_dX5_isEnteredIn_0_0 13 rfl) rfl
theorem dX5_isEnteredIn_14 : decode cX5_isEnteredIn 14 = .ok (.iload_n 1, 1) := zo_27 (zi_at zh_dX5_isEnteredIn_0_0 14 rfl)
theorem dX5_isEnteredIn_15 : decode cX5_isEnteredIn 15 = .ok (.iaload, 1) := zo_46 (zi_at zh_dX5_isEnteredIn_0_0 15 rfl)
theorem dX5_isEnteredIn_16 : decode cX5_isEnteredIn 16 = .ok (.iload_n 2, 1) := zo_28 (zi_at zh_dX5_isEnteredIn_16_16 0 rfl)
theorem dX5_isEnteredIn_17 : decode cX5_isEnteredIn 17 = .ok (.if_icmp .gt 7, 3) := zo_163 (zi_at zh_dX5_isEnteredIn_16_16 1 rfl) (zi_at zh_dX5_isEnteredIn_16_16 2 rfl) (zi_at zh_dX5_isEnteredIn_16_16 3 rfl) rfl
theorem dX5_isEnteredIn_20 : decode cX5_isEnteredIn 20 = .ok (.iconst 1, 1) := zo_4 (zi_at zh_dX5_isEnteredIn_16_16 4 rfl)
theorem dX5_isEnteredIn_21 : decode cX5_isEnteredIn 21 = .ok (.goto 4, 3) := zo_167 (zi_at zh_dX5_isEnteredIn_16_16 5 rfl) (zi_at zh_dX5_isEnteredIn_16_16 6 rfl) (zi_at zh_dX5_isEnteredIn_16_16 7 rfl) rfl
theorem dX5_isEnteredIn_24 : decode cX5_isEnteredIn 24 = .ok (.iconst 0, 1) := zo_3 (zi_at zh_dX5_isEnteredIn_16_16 8 rfl)
theorem dX5_isEnteredIn_25 : decode cX5_isEnteredIn 25 = .ok (.ireturn, 1) := zo_172 (zi_at zh_dX5_isEnteredIn_16_16 9 rfl)
theorem dX5_isRedressedIn_0 : decode cX5_isRedressedIn 0 = .ok (.aload_n 0, 1) := zo_42 (zi_at zh_dX5_isRedressedIn_0_0 0 rfl)
theorem dX5_isRedressedIn_1 : decode cX5_isRedressedIn 1 = .ok (.getfield 15, 3) := zo_180 (zi_at zh_dX5_isRedressedIn_0_0 1 rfl) (zi_at zh_dX5_isRedressedIn_0_0 2 rfl) (zi_at zh_dX5_isRedressedIn_0_0 3 rfl) rfl
theorem dX5_isRedressedIn_4 : decode cX5_isRedressedIn 4 = .ok (.iload_n 1, 1) := zo_27 (zi_at zh_dX5_isRedressedIn_0_0 4 rfl)
theorem dX5_isRedressedIn_5 : decode cX5_isRedressedIn 5 = .ok (.iaload, 1) := zo_46 (zi_at zh_dX5_isRedressedIn_0_0 5 rfl)
theorem dX5_isRedressedIn_6 : decode cX5_isRedressedIn 6 = .ok (.iconst (-1), 1) := zo_2 (zi_at zh_dX5_isRedressedIn_0_0 6 rfl)
theorem dX5_isRedressedIn_7 : decode cX5_isRedressedIn 7 = .ok (.if_icmp .eq 17, 3) := zo_159 (zi_at zh_dX5_isRedressedIn_0_0 7 rfl) (zi_at zh_dX5_isRedressedIn_0_0 8 rfl) (zi_at zh_dX5_isRedressedIn_0_0 9 rfl) rfl
theorem dX5_isRedressedIn_10 : decode cX5_isRedressedIn 10 = .ok (.aload_n 0, 1) := zo_42 (zi_at zh_dX5_isRedressedIn_0_0 10 rfl)
theorem dX5_isRedressedIn_11 : decode cX5_isRedressedIn 11 = .ok (.getfield 15, 3) := zo_180 (zi_at zh_dX5_isRedressedIn_0_0 11 rfl) (zi_at zh_dX5_isRedressedIn_0_0 12 rfl) (zi_at zh_dX5_isRedressedIn_0_0 13 rfl) rfl
theorem dX5_isRedressedIn_14 : decode cX5_isRedressedIn 14 = .ok (.iload_n 1, 1) := zo_27 (zi_at zh_dX5_isRedressedIn_0_0 14 rfl)
theorem dX5_isRedressedIn_15 : decode cX5_isRedressedIn 15 = .ok (.iaload, 1) := zo_46 (zi_at zh_dX5_isRedressedIn_0_0 15 rfl)
theorem dX5_isRedressedIn_16 : decode cX5_isRedressedIn 16 = .ok (.iload_n 2, 1) := zo_28 (zi_at zh_dX5_isRedressedIn_16_16 0 rfl)
theorem dX5_isRedressedIn_17 : decode cX5_isRedressedIn 17 = .ok (.if_icmp .gt 7, 3) := zo_163 (zi_at zh_dX5_isRedressedIn_16_16 1 rfl) (zi_at zh_dX5_isRedressedIn_16_16 2 rfl) (zi_at zh_dX5_isRedressedIn_16_16 3 rfl) rfl
theorem dX5_isRedressedIn_20 : decode cX5_isRedressedIn 20 = .ok (.iconst 1, 1) := zo_4 (zi_at zh_dX5_isRedressedIn_16_16 4 rfl)
theorem dX5_isRedressedIn_21 : decode cX5_isRedressedIn 21 = .ok (.goto 4, 3) := zo_167 (zi_at zh_dX5_isRedressedIn_16_16 5 rfl) (zi_at zh_dX5_isRedressedIn_16_16 6 rfl) (zi_at zh_dX5_isRedressedIn_16_16 7 rfl) rfl
theorem dX5_isRedressedIn_24 : decode cX5_isRedressedIn 24 = .ok (.iconst 0, 1) := zo_3 (zi_at zh_dX5_isRedressedIn_16_16 8 rfl)
theorem dX5_isRedressedIn_25 : decode cX5_isRedressedIn 25 = .ok (.ireturn, 1) := zo_172 (zi_at zh_dX5_isRedressedIn_16_16 9 rfl)
theorem dX5_swiftIn_0 : decode cX5_swiftIn 0 = .ok (.iload_n 1, 1) := zo_27 (zi_at zh_dX5_swiftIn_0_0 0 rfl)
theorem dX5_swiftIn_1 : decode cX5_swiftIn 1 = .ok (.istore_n 2, 1) := zo_61 (zi_at zh_dX5_swiftIn_0_0 1 rfl)
theorem dX5_swiftIn_2 : decode cX5_swiftIn 2 = .ok (.iload_n 2, 1) := zo_28 (zi_at zh_dX5_swiftIn_0_0 2 rfl)
theorem dX5_swiftIn_3 : decode cX5_swiftIn 3 = .ok (.aload_n 0, 1) := zo_42 (zi_at zh_dX5_swiftIn_0_0 3 rfl)
theorem dX5_swiftIn_4 : decode cX5_swiftIn 4 = .ok (.getfield 27, 3) := zo_180 (zi_at zh_dX5_swiftIn_0_0 4 rfl) (zi_at zh_dX5_swiftIn_0_0 5 rfl) (zi_at zh_dX5_swiftIn_0_0 6 rfl) rfl
theorem dX5_swiftIn_7 : decode cX5_swiftIn 7 = .ok (.if_icmp .lt 25, 3) := zo_161 (zi_at zh_dX5_swiftIn_0_0 7 rfl) (zi_at zh_dX5_swiftIn_0_0 8 rfl) (zi_at zh_dX5_swiftIn_0_0 9 rfl) rfl
theorem dX5_swiftIn_10 : decode cX5_swiftIn 10 = .ok (.aload_n 0, 1) := zo_42 (zi_at zh_dX5_swiftIn_0_0 10 rfl)
theorem dX5_swiftIn_11 : decode cX5_swiftIn 11 = .ok (.getfield 24, 3) := zo_180 (zi_at zh_dX5_swiftIn_0_0 11 rfl) (zi_at zh_dX5_swiftIn_0_0 12 rfl) (zi_at zh_dX5_swiftIn_0_0 13 rfl) rfl
theorem dX5_swiftIn_14 : decode cX5_swiftIn 14 = .ok (.iload_n 2, 1) := zo_28 (zi_at zh_dX5_swiftIn_0_0 14 rfl)
theorem dX5_swiftIn_15 : decode cX5_swiftIn 15 = .ok (.iaload, 1) := zo_46 (zi_at zh_dX5_swiftIn_0_0 15 rfl)
theorem dX5_swiftIn_16 : decode cX5_swiftIn 16 = .ok (.ifCond .eq 10, 3) := zo_153 (zi_at zh_dX5_swiftIn_16_16 0 rfl) (zi_at zh_dX5_swiftIn_16_16 1 rfl) (zi_at zh_dX5_swiftIn_16_16 2 rfl) rfl
theorem dX5_swiftIn_19 : decode cX5_swiftIn 19 = .ok (.aload_n 0, 1) := zo_42 (zi_at zh_dX5_swiftIn_16_16 3 rfl)
theorem dX5_swiftIn_20 : decode cX5_swiftIn 20 = .ok (.getfield 24, 3) := zo_180 (zi_at zh_dX5_swiftIn_16_16 4 rfl) (zi_at zh_dX5_swiftIn_16_16 5 rfl) (zi_at zh_dX5_swiftIn_16_16 6 rfl) rfl
theorem dX5_swiftIn_23 : decode cX5_swiftIn 23 = .ok (.iload_n 2, 1) := zo_28 (zi_at zh_dX5_swiftIn_16_16 7 rfl)
theorem dX5_swiftIn_24 : decode cX5_swiftIn 24 = .ok (.iaload, 1) := zo_46 (zi_at zh_dX5_swiftIn_16_16 8 rfl)
theorem dX5_swiftIn_25 : decode cX5_swiftIn 25 = .ok (.ireturn, 1) := zo_172 (zi_at zh_dX5_swiftIn_16_16 9 rfl)
theorem dX5_swiftIn_26 : decode cX5_swiftIn 26 = .ok (.iinc 2 (-1), 3) := zo_132 (zi_at zh_dX5_swiftIn_16_16 10 rfl) (zi_at zh_dX5_swiftIn_16_16 11 rfl) (zi_at zh_dX5_swiftIn_16_16 12 rfl) rfl
theorem dX5_swiftIn_29 : decode cX5_swiftIn 29 = .ok (.goto (-27), 3) := zo_167 (zi_at zh_dX5_swiftIn_16_16 13 rfl) (zi_at zh_dX5_swiftIn_16_16 14 rfl) (zi_at zh_dX5_swiftIn_16_16 15 rfl) rfl
theorem dX5_swiftIn_32 : decode cX5_swiftIn 32 = .ok (.iconst 2, 1) := zo_5 (zi_at zh_dX5_swiftIn_32_32 0 rfl)
theorem dX5_swiftIn_33 : decode cX5_swiftIn 33 = .ok (.ireturn, 1) := zo_172 (zi_at zh_dX5_swiftIn_32_32 1 rfl)
theorem dX7_worthOf_0 : decode cX7_worthOf 0 = .ok (.iconst 0, 1) := zo_3 (zi_at zh_dX7_worthOf_0_0 0 rfl)
theorem dX7_worthOf_1 : decode cX7_worthOf 1 = .ok (.istore 4, 2) := zo_54 (zi_at zh_dX7_worthOf_0_0 1 rfl) (zi_at zh_dX7_worthOf_0_0 2 rfl)
theorem dX7_worthOf_3 : decode cX7_worthOf 3 = .ok (.iload 4, 2) := zo_21 (zi_at zh_dX7_worthOf_0_0 3 rfl) (zi_at zh_dX7_worthOf_0_0 4 rfl)
theorem dX7_worthOf_5 : decode cX7_worthOf 5 = .ok (.aload_n 0, 1) := zo_42 (zi_at zh_dX7_worthOf_0_0 5 rfl)
theorem dX7_worthOf_6 : decode cX7_worthOf 6 = .ok (.getfield 22, 3) := zo_180 (zi_at zh_dX7_worthOf_0_0 6 rfl) (zi_at zh_dX7_worthOf_0_0 7 rfl) (zi_at zh_dX7_worthOf_0_0 8 rfl) rfl
theorem dX7_worthOf_9 : decode cX7_worthOf 9 = .ok (.arraylength, 1) := zo_190 (zi_at zh_dX7_worthOf_0_0 9 rfl)
theorem dX7_worthOf_10 : decode cX7_worthOf 10 = .ok (.if_icmp .ge 98, 3) := zo_162 (zi_at zh_dX7_worthOf_0_0 10 rfl) (zi_at zh_dX7_worthOf_0_0 11 rfl) (zi_at zh_dX7_worthOf_0_0 12 rfl) rfl
theorem dX7_worthOf_13 : decode cX7_worthOf 13 = .ok (.aload_n 0, 1) := zo_42 (zi_at zh_dX7_worthOf_0_0 13 rfl)
theorem dX7_worthOf_14 : decode cX7_worthOf 14 = .ok (.getfield 22, 3) := zo_180 (zi_at zh_dX7_worthOf_0_0 14 rfl) (zi_at zh_dX7_worthOf_0_0 15 rfl) (zi_at zh_dX7_worthOf_14_16 0 rfl) rfl
theorem dX7_worthOf_17 : decode cX7_worthOf 17 = .ok (.iload 4, 2) := zo_21 (zi_at zh_dX7_worthOf_14_16 1 rfl) (zi_at zh_dX7_worthOf_14_16 2 rfl)
theorem dX7_worthOf_19 : decode cX7_worthOf 19 = .ok (.iaload, 1) := zo_46 (zi_at zh_dX7_worthOf_14_16 3 rfl)
theorem dX7_worthOf_20 : decode cX7_worthOf 20 = .ok (.iload_n 1, 1) := zo_27 (zi_at zh_dX7_worthOf_14_16 4 rfl)
theorem dX7_worthOf_21 : decode cX7_worthOf 21 = .ok (.if_icmp .eq 6, 3) := zo_159 (zi_at zh_dX7_worthOf_14_16 5 rfl) (zi_at zh_dX7_worthOf_14_16 6 rfl) (zi_at zh_dX7_worthOf_14_16 7 rfl) rfl
theorem dX7_worthOf_24 : decode cX7_worthOf 24 = .ok (.goto 78, 3) := zo_167 (zi_at zh_dX7_worthOf_14_16 8 rfl) (zi_at zh_dX7_worthOf_14_16 9 rfl) (zi_at zh_dX7_worthOf_14_16 10 rfl) rfl
theorem dX7_worthOf_27 : decode cX7_worthOf 27 = .ok (.aload_n 0, 1) := zo_42 (zi_at zh_dX7_worthOf_14_16 11 rfl)
theorem dX7_worthOf_28 : decode cX7_worthOf 28 = .ok (.getfield 28, 3) := zo_180 (zi_at zh_dX7_worthOf_14_16 12 rfl) (zi_at zh_dX7_worthOf_14_16 13 rfl) (zi_at zh_dX7_worthOf_14_16 14 rfl) rfl
theorem dX7_worthOf_31 : decode cX7_worthOf 31 = .ok (.iload 4, 2) := zo_21 (zi_at zh_dX7_worthOf_14_16 15 rfl) (zi_at zh_dX7_worthOf_31_32 0 rfl)
theorem dX7_worthOf_33 : decode cX7_worthOf 33 = .ok (.iaload, 1) := zo_46 (zi_at zh_dX7_worthOf_31_32 1 rfl)
theorem dX7_worthOf_34 : decode cX7_worthOf 34 = .ok (.aload_n 0, 1) := zo_42 (zi_at zh_dX7_worthOf_31_32 2 rfl)
theorem dX7_worthOf_35 : decode cX7_worthOf 35 = .ok (.getfield 25, 3) := zo_180 (zi_at zh_dX7_worthOf_31_32 3 rfl) (zi_at zh_dX7_worthOf_31_32 4 rfl) (zi_at zh_dX7_worthOf_31_32 5 rfl) rfl
theorem dX7_worthOf_38 : decode cX7_worthOf 38 = .ok (.iload 4, 2) := zo_21 (zi_at zh_dX7_worthOf_31_32 6 rfl) (zi_at zh_dX7_worthOf_31_32 7 rfl)
theorem dX7_worthOf_40 : decode cX7_worthOf 40 = .ok (.iaload, 1) := zo_46 (zi_at zh_dX7_worthOf_31_32 8 rfl)
theorem dX7_worthOf_41 : decode cX7_worthOf 41 = .ok (.if_icmp .eq 26, 3) := zo_159 (zi_at zh_dX7_worthOf_31_32 9 rfl) (zi_at zh_dX7_worthOf_31_32 10 rfl) (zi_at zh_dX7_worthOf_31_32 11 rfl) rfl
theorem dX7_worthOf_44 : decode cX7_worthOf 44 = .ok (.aload_n 0, 1) := zo_42 (zi_at zh_dX7_worthOf_31_32 12 rfl)
theorem dX7_worthOf_45 : decode cX7_worthOf 45 = .ok (.aload_n 0, 1) := zo_42 (zi_at zh_dX7_worthOf_31_32 13 rfl)
theorem dX7_worthOf_46 : decode cX7_worthOf 46 = .ok (.getfield 25, 3) := zo_180 (zi_at zh_dX7_worthOf_31_32 14 rfl) (zi_at zh_dX7_worthOf_31_32 15 rfl) (zi_at zh_dX7_worthOf_46_48 0 rfl) rfl
theorem dX7_worthOf_49 : decode cX7_worthOf 49 = .ok (.iload 4, 2) := zo_21 (zi_at zh_dX7_worthOf_46_48 1 rfl) (zi_at zh_dX7_worthOf_46_48 2 rfl)
theorem dX7_worthOf_51 : decode cX7_worthOf 51 = .ok (.iaload, 1) := zo_46 (zi_at zh_dX7_worthOf_46_48 3 rfl)
theorem dX7_worthOf_52 : decode cX7_worthOf 52 = .ok (.aload_n 0, 1) := zo_42 (zi_at zh_dX7_worthOf_46_48 4 rfl)
theorem dX7_worthOf_53 : decode cX7_worthOf 53 = .ok (.getfield 28, 3) := zo_180 (zi_at zh_dX7_worthOf_46_48 5 rfl) (zi_at zh_dX7_worthOf_46_48 6 rfl) (zi_at zh_dX7_worthOf_46_48 7 rfl) rfl
theorem dX7_worthOf_56 : decode cX7_worthOf 56 = .ok (.iload 4, 2) := zo_21 (zi_at zh_dX7_worthOf_46_48 8 rfl) (zi_at zh_dX7_worthOf_46_48 9 rfl)
theorem dX7_worthOf_58 : decode cX7_worthOf 58 = .ok (.iaload, 1) := zo_46 (zi_at zh_dX7_worthOf_46_48 10 rfl)
theorem dX7_worthOf_59 : decode cX7_worthOf 59 = .ok (.aload_n 2, 1) := zo_44 (zi_at zh_dX7_worthOf_46_48 11 rfl)
theorem dX7_worthOf_60 : decode cX7_worthOf 60 = .ok (.aload_n 3, 1) := zo_45 (zi_at zh_dX7_worthOf_46_48 12 rfl)
theorem dX7_worthOf_61 : decode cX7_worthOf 61 = .ok (.invokevirtual 31, 3) := zo_182 (zi_at zh_dX7_worthOf_46_48 13 rfl) (zi_at zh_dX7_worthOf_46_48 14 rfl) (zi_at zh_dX7_worthOf_46_48 15 rfl) rfl
theorem dX7_worthOf_64 : decode cX7_worthOf 64 = .ok (.ifCond .eq 7, 3) := zo_153 (zi_at zh_dX7_worthOf_64_64 0 rfl) (zi_at zh_dX7_worthOf_64_64 1 rfl) (zi_at zh_dX7_worthOf_64_64 2 rfl) rfl
theorem dX7_worthOf_67 : decode cX7_worthOf 67 = .ok (.iconst 1, 1) := zo_4 (zi_at zh_dX7_worthOf_64_64 3 rfl)
theorem dX7_worthOf_68 : decode cX7_worthOf 68 = .ok (.goto 4, 3) := zo_167 (zi_at zh_dX7_worthOf_64_64 4 rfl) (zi_at zh_dX7_worthOf_64_64 5 rfl) (zi_at zh_dX7_worthOf_64_64 6 rfl) rfl
theorem dX7_worthOf_71 : decode cX7_worthOf 71 = .ok (.iconst 0, 1) := zo_3 (zi_at zh_dX7_worthOf_64_64 7 rfl)
theorem dX7_worthOf_72 : decode cX7_worthOf 72 = .ok (.istore 5, 2) := zo_54 (zi_at zh_dX7_worthOf_64_64 8 rfl) (zi_at zh_dX7_worthOf_64_64 9 rfl)
theorem dX7_worthOf_74 : decode cX7_worthOf 74 = .ok (.iload 5, 2) := zo_21 (zi_at zh_dX7_worthOf_64_64 10 rfl) (zi_at zh_dX7_worthOf_64_64 11 rfl)
theorem dX7_worthOf_76 : decode cX7_worthOf 76 = .ok (.ifCond .eq 26, 3) := zo_153 (zi_at zh_dX7_worthOf_64_64 12 rfl) (zi_at zh_dX7_worthOf_64_64 13 rfl) (zi_at zh_dX7_worthOf_64_64 14 rfl) rfl
theorem dX7_worthOf_79 : decode cX7_worthOf 79 = .ok (.aload_n 0, 1) := zo_42 (zi_at zh_dX7_worthOf_64_64 15 rfl)
theorem dX7_worthOf_80 : decode cX7_worthOf 80 = .ok (.aload_n 0, 1) := zo_42 (zi_at zh_dX7_worthOf_80_80 0 rfl)
theorem dX7_worthOf_81 : decode cX7_worthOf 81 = .ok (.getfield 28, 3) := zo_180 (zi_at zh_dX7_worthOf_80_80 1 rfl) (zi_at zh_dX7_worthOf_80_80 2 rfl) (zi_at zh_dX7_worthOf_80_80 3 rfl) rfl
theorem dX7_worthOf_84 : decode cX7_worthOf 84 = .ok (.iload 4, 2) := zo_21 (zi_at zh_dX7_worthOf_80_80 4 rfl) (zi_at zh_dX7_worthOf_80_80 5 rfl)
theorem dX7_worthOf_86 : decode cX7_worthOf 86 = .ok (.iaload, 1) := zo_46 (zi_at zh_dX7_worthOf_80_80 6 rfl)
theorem dX7_worthOf_87 : decode cX7_worthOf 87 = .ok (.aload_n 0, 1) := zo_42 (zi_at zh_dX7_worthOf_80_80 7 rfl)
theorem dX7_worthOf_88 : decode cX7_worthOf 88 = .ok (.getfield 25, 3) := zo_180 (zi_at zh_dX7_worthOf_80_80 8 rfl) (zi_at zh_dX7_worthOf_80_80 9 rfl) (zi_at zh_dX7_worthOf_80_80 10 rfl) rfl
theorem dX7_worthOf_91 : decode cX7_worthOf 91 = .ok (.iload 4, 2) := zo_21 (zi_at zh_dX7_worthOf_80_80 11 rfl) (zi_at zh_dX7_worthOf_80_80 12 rfl)
theorem dX7_worthOf_93 : decode cX7_worthOf 93 = .ok (.iconst 1, 1) := zo_4 (zi_at zh_dX7_worthOf_80_80 13 rfl)
theorem dX7_worthOf_94 : decode cX7_worthOf 94 = .ok (.iadd, 1) := zo_96 (zi_at zh_dX7_worthOf_80_80 14 rfl)
theorem dX7_worthOf_95 : decode cX7_worthOf 95 = .ok (.iaload, 1) := zo_46 (zi_at zh_dX7_worthOf_80_80 15 rfl)
theorem dX7_worthOf_96 : decode cX7_worthOf 96 = .ok (.aload_n 2, 1) := zo_44 (zi_at zh_dX7_worthOf_96_96 0 rfl)
theorem dX7_worthOf_97 : decode cX7_worthOf 97 = .ok (.aload_n 3, 1) := zo_45 (zi_at zh_dX7_worthOf_96_96 1 rfl)
theorem dX7_worthOf_98 : decode cX7_worthOf 98 = .ok (.invokevirtual 31, 3) := zo_182 (zi_at zh_dX7_worthOf_96_96 2 rfl) (zi_at zh_dX7_worthOf_96_96 3 rfl) (zi_at zh_dX7_worthOf_96_96 4 rfl) rfl
theorem dX7_worthOf_101 : decode cX7_worthOf 101 = .ok (.ireturn, 1) := zo_172 (zi_at zh_dX7_worthOf_96_96 5 rfl)
theorem dX7_worthOf_102 : decode cX7_worthOf 102 = .ok (.iinc 4 1, 3) := zo_132 (zi_at zh_dX7_worthOf_96_96 6 rfl) (zi_at zh_dX7_worthOf_96_96 7 rfl) (zi_at zh_dX7_worthOf_96_96 8 rfl) rfl
theorem dX7_worthOf_105 : decode cX7_worthOf 105 = .ok (.goto (-102), 3) := zo_167 (zi_at zh_dX7_worthOf_96_96 9 rfl) (zi_at zh_dX7_worthOf_96_96 10 rfl) (zi_at zh_dX7_worthOf_96_96 11 rfl) rfl
theorem dX7_worthOf_108 : decode cX7_worthOf 108 = .ok (.iload_n 1, 1) := zo_27 (zi_at zh_dX7_worthOf_96_96 12 rfl)
theorem dX7_worthOf_109 : decode cX7_worthOf 109 = .ok (.bipush 110, 2) := zo_16 (zi_at zh_dX7_worthOf_96_96 13 rfl) (zi_at zh_dX7_worthOf_96_96 14 rfl) rfl
theorem dX7_worthOf_111 : decode cX7_worthOf 111 = .ok (.if_icmp .ne 9, 3) := zo_160 (zi_at zh_dX7_worthOf_96_96 15 rfl) (zi_at zh_dX7_worthOf_111_112 0 rfl) (zi_at zh_dX7_worthOf_111_112 1 rfl) rfl
theorem dX7_worthOf_114 : decode cX7_worthOf 114 = .ok (.sipush 1000, 3) := zo_17 (zi_at zh_dX7_worthOf_111_112 2 rfl) (zi_at zh_dX7_worthOf_111_112 3 rfl) (zi_at zh_dX7_worthOf_111_112 4 rfl) rfl
theorem dX7_worthOf_117 : decode cX7_worthOf 117 = .ok (.goto 4, 3) := zo_167 (zi_at zh_dX7_worthOf_111_112 5 rfl) (zi_at zh_dX7_worthOf_111_112 6 rfl) (zi_at zh_dX7_worthOf_111_112 7 rfl) rfl
theorem dX7_worthOf_120 : decode cX7_worthOf 120 = .ok (.iconst 0, 1) := zo_3 (zi_at zh_dX7_worthOf_111_112 8 rfl)
theorem dX7_worthOf_121 : decode cX7_worthOf 121 = .ok (.ireturn, 1) := zo_172 (zi_at zh_dX7_worthOf_111_112 9 rfl)
theorem dX7_run_0 : decode cX7_run 0 = .ok (.iconst 0, 1) := zo_3 (zi_at zh_dX7_run_0_0 0 rfl)
theorem dX7_run_1 : decode cX7_run 1 = .ok (.istore 5, 2) := zo_54 (zi_at zh_dX7_run_0_0 1 rfl) (zi_at zh_dX7_run_0_0 2 rfl)
theorem dX7_run_3 : decode cX7_run 3 = .ok (.iload_n 1, 1) := zo_27 (zi_at zh_dX7_run_0_0 3 rfl)
theorem dX7_run_4 : decode cX7_run 4 = .ok (.istore 6, 2) := zo_54 (zi_at zh_dX7_run_0_0 4 rfl) (zi_at zh_dX7_run_0_0 5 rfl)
theorem dX7_run_6 : decode cX7_run 6 = .ok (.iload 6, 2) := zo_21 (zi_at zh_dX7_run_0_0 6 rfl) (zi_at zh_dX7_run_0_0 7 rfl)
theorem dX7_run_8 : decode cX7_run 8 = .ok (.iload_n 2, 1) := zo_28 (zi_at zh_dX7_run_0_0 8 rfl)
theorem dX7_run_9 : decode cX7_run 9 = .ok (.if_icmp .ge 141, 3) := zo_162 (zi_at zh_dX7_run_0_0 9 rfl) (zi_at zh_dX7_run_0_0 10 rfl) (zi_at zh_dX7_run_0_0 11 rfl) rfl
theorem dX7_run_12 : decode cX7_run 12 = .ok (.aload_n 0, 1) := zo_42 (zi_at zh_dX7_run_0_0 12 rfl)
theorem dX7_run_13 : decode cX7_run 13 = .ok (.getfield 18, 3) := zo_180 (zi_at zh_dX7_run_0_0 13 rfl) (zi_at zh_dX7_run_0_0 14 rfl) (zi_at zh_dX7_run_0_0 15 rfl) rfl
theorem dX7_run_16 : decode cX7_run 16 = .ok (.iload 6, 2) := zo_21 (zi_at zh_dX7_run_16_16 0 rfl) (zi_at zh_dX7_run_16_16 1 rfl)
theorem dX7_run_18 : decode cX7_run 18 = .ok (.iaload, 1) := zo_46 (zi_at zh_dX7_run_16_16 2 rfl)
theorem dX7_run_19 : decode cX7_run 19 = .ok (.istore 7, 2) := zo_54 (zi_at zh_dX7_run_16_16 3 rfl) (zi_at zh_dX7_run_16_16 4 rfl)
theorem dX7_run_21 : decode cX7_run 21 = .ok (.iload 7, 2) := zo_21 (zi_at zh_dX7_run_16_16 5 rfl) (zi_at zh_dX7_run_16_16 6 rfl)
theorem dX7_run_23 : decode cX7_run 23 = .ok (.iconst 0, 1) := zo_3 (zi_at zh_dX7_run_16_16 7 rfl)
theorem dX7_run_24 : decode cX7_run 24 = .ok (.invokestatic 35, 3) := zo_184 (zi_at zh_dX7_run_16_16 8 rfl) (zi_at zh_dX7_run_16_16 9 rfl) (zi_at zh_dX7_run_16_16 10 rfl) rfl
theorem dX7_run_27 : decode cX7_run 27 = .ok (.if_icmp .gt 83, 3) := zo_163 (zi_at zh_dX7_run_16_16 11 rfl) (zi_at zh_dX7_run_16_16 12 rfl) (zi_at zh_dX7_run_16_16 13 rfl) rfl
theorem dX7_run_30 : decode cX7_run 30 = .ok (.bipush (-100), 2) := zo_16 (zi_at zh_dX7_run_16_16 14 rfl) (zi_at zh_dX7_run_16_16 15 rfl) rfl
theorem dX7_run_32 : decode cX7_run 32 = .ok (.iload 7, 2) := zo_21 (zi_at zh_dX7_run_32_32 0 rfl) (zi_at zh_dX7_run_32_32 1 rfl)
theorem dX7_run_34 : decode cX7_run 34 = .ok (.isub, 1) := zo_100 (zi_at zh_dX7_run_32_32 2 rfl)
theorem dX7_run_35 : decode cX7_run 35 = .ok (.istore 8, 2) := zo_54 (zi_at zh_dX7_run_32_32 3 rfl) (zi_at zh_dX7_run_32_32 4 rfl)
theorem dX7_run_37 : decode cX7_run 37 = .ok (.iload 8, 2) := zo_21 (zi_at zh_dX7_run_32_32 5 rfl) (zi_at zh_dX7_run_32_32 6 rfl)
theorem dX7_run_39 : decode cX7_run 39 = .ok (.bipush 33, 2) := zo_16 (zi_at zh_dX7_run_32_32 7 rfl) (zi_at zh_dX7_run_32_32 8 rfl) rfl
theorem dX7_run_41 : decode cX7_run 41 = .ok (.if_icmp .ne 33, 3) := zo_160 (zi_at zh_dX7_run_32_32 9 rfl) (zi_at zh_dX7_run_32_32 10 rfl) (zi_at zh_dX7_run_32_32 11 rfl) rfl
theorem dX7_run_44 : decode cX7_run 44 = .ok (.iload 5, 2) := zo_21 (zi_at zh_dX7_run_32_32 12 rfl) (zi_at zh_dX7_run_32_32 13 rfl)
theorem dX7_run_46 : decode cX7_run 46 = .ok (.ifCond .le 61, 3) := zo_158 (zi_at zh_dX7_run_32_32 14 rfl) (zi_at zh_dX7_run_32_32 15 rfl) (zi_at zh_dX7_run_46_48 0 rfl) rfl
theorem dX7_run_49 : decode cX7_run 49 = .ok (.aload 4, 2) := zo_25 (zi_at zh_dX7_run_46_48 1 rfl) (zi_at zh_dX7_run_46_48 2 rfl)
theorem dX7_run_51 : decode cX7_run 51 = .ok (.iload 5, 2) := zo_21 (zi_at zh_dX7_run_46_48 3 rfl) (zi_at zh_dX7_run_46_48 4 rfl)
theorem dX7_run_53 : decode cX7_run 53 = .ok (.iconst 1, 1) := zo_4 (zi_at zh_dX7_run_46_48 5 rfl)
theorem dX7_run_54 : decode cX7_run 54 = .ok (.isub, 1) := zo_100 (zi_at zh_dX7_run_46_48 6 rfl)
theorem dX7_run_55 : decode cX7_run 55 = .ok (.aload 4, 2) := zo_25 (zi_at zh_dX7_run_46_48 7 rfl) (zi_at zh_dX7_run_46_48 8 rfl)
theorem dX7_run_57 : decode cX7_run 57 = .ok (.iload 5, 2) := zo_21 (zi_at zh_dX7_run_46_48 9 rfl) (zi_at zh_dX7_run_46_48 10 rfl)
theorem dX7_run_59 : decode cX7_run 59 = .ok (.iconst 1, 1) := zo_4 (zi_at zh_dX7_run_46_48 11 rfl)
theorem dX7_run_60 : decode cX7_run 60 = .ok (.isub, 1) := zo_100 (zi_at zh_dX7_run_46_48 12 rfl)
theorem dX7_run_61 : decode cX7_run 61 = .ok (.iaload, 1) := zo_46 (zi_at zh_dX7_run_46_48 13 rfl)
theorem dX7_run_62 : decode cX7_run 62 = .ok (.ifCond .ne 7, 3) := zo_154 (zi_at zh_dX7_run_46_48 14 rfl) (zi_at zh_dX7_run_46_48 15 rfl) (zi_at zh_dX7_run_62_64 0 rfl) rfl
theorem dX7_run_65 : decode cX7_run 65 = .ok (.iconst 1, 1) := zo_4 (zi_at zh_dX7_run_62_64 1 rfl)
theorem dX7_run_66 : decode cX7_run 66 = .ok (.goto 4, 3) := zo_167 (zi_at zh_dX7_run_62_64 2 rfl) (zi_at zh_dX7_run_62_64 3 rfl) (zi_at zh_dX7_run_62_64 4 rfl) rfl
theorem dX7_run_69 : decode cX7_run 69 = .ok (.iconst 0, 1) := zo_3 (zi_at zh_dX7_run_62_64 5 rfl)
theorem dX7_run_70 : decode cX7_run 70 = .ok (.iastore, 1) := zo_79 (zi_at zh_dX7_run_62_64 6 rfl)
theorem dX7_run_71 : decode cX7_run 71 = .ok (.goto 36, 3) := zo_167 (zi_at zh_dX7_run_62_64 7 rfl) (zi_at zh_dX7_run_62_64 8 rfl) (zi_at zh_dX7_run_62_64 9 rfl) rfl
theorem dX7_run_74 : decode cX7_run 74 = .ok (.iload 5, 2) := zo_21 (zi_at zh_dX7_run_62_64 10 rfl) (zi_at zh_dX7_run_62_64 11 rfl)
theorem dX7_run_76 : decode cX7_run 76 = .ok (.iconst 1, 1) := zo_4 (zi_at zh_dX7_run_62_64 12 rfl)
theorem dX7_run_77 : decode cX7_run 77 = .ok (.if_icmp .le 30, 3) := zo_164 (zi_at zh_dX7_run_62_64 13 rfl) (zi_at zh_dX7_run_62_64 14 rfl) (zi_at zh_dX7_run_62_64 15 rfl) rfl
theorem dX7_run_80 : decode cX7_run 80 = .ok (.iinc 5 (-1), 3) := zo_132 (zi_at zh_dX7_run_80_80 0 rfl) (zi_at zh_dX7_run_80_80 1 rfl) (zi_at zh_dX7_run_80_80 2 rfl) rfl
theorem dX7_run_83 : decode cX7_run 83 = .ok (.aload 4, 2) := zo_25 (zi_at zh_dX7_run_80_80 3 rfl) (zi_at zh_dX7_run_80_80 4 rfl)
theorem dX7_run_85 : decode cX7_run 85 = .ok (.iload 5, 2) := zo_21 (zi_at zh_dX7_run_80_80 5 rfl) (zi_at zh_dX7_run_80_80 6 rfl)
theorem dX7_run_87 : decode cX7_run 87 = .ok (.iconst 1, 1) := zo_4 (zi_at zh_dX7_run_80_80 7 rfl)
theorem dX7_run_88 : decode cX7_run 88 = .ok (.isub, 1) := zo_100 (zi_at zh_dX7_run_80_80 8 rfl)
theorem dX7_run_89 : decode cX7_run 89 = .ok (.iload 8, 2) := zo_21 (zi_at zh_dX7_run_80_80 9 rfl) (zi_at zh_dX7_run_80_80 10 rfl)
theorem dX7_run_91 : decode cX7_run 91 = .ok (.aload 4, 2) := zo_25 (zi_at zh_dX7_run_80_80 11 rfl) (zi_at zh_dX7_run_80_80 12 rfl)
theorem dX7_run_93 : decode cX7_run 93 = .ok (.iload 5, 2) := zo_21 (zi_at zh_dX7_run_80_80 13 rfl) (zi_at zh_dX7_run_80_80 14 rfl)
theorem dX7_run_95 : decode cX7_run 95 = .ok (.iconst 1, 1) := zo_4 (zi_at zh_dX7_run_80_80 15 rfl)
theorem dX7_run_96 : decode cX7_run 96 = .ok (.isub, 1) := zo_100 (zi_at zh_dX7_run_96_96 0 rfl)
theorem dX7_run_97 : decode cX7_run 97 = .ok (.iaload, 1) := zo_46 (zi_at zh_dX7_run_96_96 1 rfl)
theorem dX7_run_98 : decode cX7_run 98 = .ok (.aload 4, 2) := zo_25 (zi_at zh_dX7_run_96_96 2 rfl) (zi_at zh_dX7_run_96_96 3 rfl)
theorem dX7_run_100 : decode cX7_run 100 = .ok (.iload 5, 2) := zo_21 (zi_at zh_dX7_run_96_96 4 rfl) (zi_at zh_dX7_run_96_96 5 rfl)
theorem dX7_run_102 : decode cX7_run 102 = .ok (.iaload, 1) := zo_46 (zi_at zh_dX7_run_96_96 6 rfl)
theorem dX7_run_103 : decode cX7_run 103 = .ok (.invokestatic 39, 3) := zo_184 (zi_at zh_dX7_run_96_96 7 rfl) (zi_at zh_dX7_run_96_96 8 rfl) (zi_at zh_dX7_run_96_96 9 rfl) rfl
theorem dX7_run_106 : decode cX7_run 106 = .ok (.iastore, 1) := zo_79 (zi_at zh_dX7_run_96_96 10 rfl)
theorem dX7_run_107 : decode cX7_run 107 = .ok (.goto 37, 3) := zo_167 (zi_at zh_dX7_run_96_96 11 rfl) (zi_at zh_dX7_run_96_96 12 rfl) (zi_at zh_dX7_run_96_96 13 rfl) rfl
theorem dX7_run_110 : decode cX7_run 110 = .ok (.iload 5, 2) := zo_21 (zi_at zh_dX7_run_96_96 14 rfl) (zi_at zh_dX7_run_96_96 15 rfl)
theorem dX7_run_112 : decode cX7_run 112 = .ok (.aload 4, 2) := zo_25 (zi_at zh_dX7_run_112_112 0 rfl) (zi_at zh_dX7_run_112_112 1 rfl)
theorem dX7_run_114 : decode cX7_run 114 = .ok (.arraylength, 1) := zo_190 (zi_at zh_dX7_run_112_112 2 rfl)
theorem dX7_run_115 : decode cX7_run 115 = .ok (.if_icmp .ge 29, 3) := zo_162 (zi_at zh_dX7_run_112_112 3 rfl) (zi_at zh_dX7_run_112_112 4 rfl) (zi_at zh_dX7_run_112_112 5 rfl) rfl
theorem dX7_run_118 : decode cX7_run 118 = .ok (.aload 4, 2) := zo_25 (zi_at zh_dX7_run_112_112 6 rfl) (zi_at zh_dX7_run_112_112 7 rfl)
theorem dX7_run_120 : decode cX7_run 120 = .ok (.iload 5, 2) := zo_21 (zi_at zh_dX7_run_112_112 8 rfl) (zi_at zh_dX7_run_112_112 9 rfl)
theorem dX7_run_122 : decode cX7_run 122 = .ok (.iload 7, 2) := zo_21 (zi_at zh_dX7_run_112_112 10 rfl) (zi_at zh_dX7_run_112_112 11 rfl)
theorem dX7_run_124 : decode cX7_run 124 = .ok (.ifCond .lt 8, 3) := zo_155 (zi_at zh_dX7_run_112_112 12 rfl) (zi_at zh_dX7_run_112_112 13 rfl) (zi_at zh_dX7_run_112_112 14 rfl) rfl
theorem dX7_run_127 : decode cX7_run 127 = .ok (.iload 7, 2) := zo_21 (zi_at zh_dX7_run_112_112 15 rfl) (zi_at zh_dX7_run_127_128 0 rfl)
theorem dX7_run_129 : decode cX7_run 129 = .ok (.goto 11, 3) := zo_167 (zi_at zh_dX7_run_127_128 1 rfl) (zi_at zh_dX7_run_127_128 2 rfl) (zi_at zh_dX7_run_127_128 3 rfl) rfl
theorem dX7_run_132 : decode cX7_run 132 = .ok (.iconst (-1), 1) := zo_2 (zi_at zh_dX7_run_127_128 4 rfl)
theorem dX7_run_133 : decode cX7_run 133 = .ok (.iload 7, 2) := zo_21 (zi_at zh_dX7_run_127_128 5 rfl) (zi_at zh_dX7_run_127_128 6 rfl)
theorem dX7_run_135 : decode cX7_run 135 = .ok (.isub, 1) := zo_100 (zi_at zh_dX7_run_127_128 7 rfl)
theorem dX7_run_136 : decode cX7_run 136 = .ok (.aload_n 3, 1) := zo_45 (zi_at zh_dX7_run_127_128 8 rfl)
theorem dX7_run_137 : decode cX7_run 137 = .ok (.invokestatic 43, 3) := zo_184 (zi_at zh_dX7_run_127_128 9 rfl) (zi_at zh_dX7_run_127_128 10 rfl) (zi_at zh_dX7_run_127_128 11 rfl) rfl
theorem dX7_run_140 : decode cX7_run 140 = .ok (.iastore, 1) := zo_79 (zi_at zh_dX7_run_127_128 12 rfl)
theorem dX7_run_141 : decode cX7_run 141 = .ok (.iinc 5 1, 3) := zo_132 (zi_at zh_dX7_run_127_128 13 rfl) (zi_at zh_dX7_run_127_128 14 rfl) (zi_at zh_dX7_run_127_128 15 rfl) rfl
theorem dX7_run_144 : decode cX7_run 144 = .ok (.iinc 6 1, 3) := zo_132 (zi_at zh_dX7_run_144_144 0 rfl) (zi_at zh_dX7_run_144_144 1 rfl) (zi_at zh_dX7_run_144_144 2 rfl) rfl
theorem dX7_run_147 : decode cX7_run 147 = .ok (.goto (-141), 3) := zo_167 (zi_at zh_dX7_run_144_144 3 rfl) (zi_at zh_dX7_run_144_144 4 rfl) (zi_at zh_dX7_run_144_144 5 rfl) rfl
theorem dX7_run_150 : decode cX7_run 150 = .ok (.iload 5, 2) := zo_21 (zi_at zh_dX7_run_144_144 6 rfl) (zi_at zh_dX7_run_144_144 7 rfl)
theorem dX7_run_152 : decode cX7_run 152 = .ok (.ifCond .le 13, 3) := zo_158 (zi_at zh_dX7_run_144_144 8 rfl) (zi_at zh_dX7_run_144_144 9 rfl) (zi_at zh_dX7_run_144_144 10 rfl) rfl
theorem dX7_run_155 : decode cX7_run 155 = .ok (.aload 4, 2) := zo_25 (zi_at zh_dX7_run_144_144 11 rfl) (zi_at zh_dX7_run_144_144 12 rfl)
theorem dX7_run_157 : decode cX7_run 157 = .ok (.iload 5, 2) := zo_21 (zi_at zh_dX7_run_144_144 13 rfl) (zi_at zh_dX7_run_144_144 14 rfl)
theorem dX7_run_159 : decode cX7_run 159 = .ok (.iconst 1, 1) := zo_4 (zi_at zh_dX7_run_144_144 15 rfl)
theorem dX7_run_160 : decode cX7_run 160 = .ok (.isub, 1) := zo_100 (zi_at zh_dX7_run_160_160 0 rfl)
theorem dX7_run_161 : decode cX7_run 161 = .ok (.iaload, 1) := zo_46 (zi_at zh_dX7_run_160_160 1 rfl)
theorem dX7_run_162 : decode cX7_run 162 = .ok (.goto 4, 3) := zo_167 (zi_at zh_dX7_run_160_160 2 rfl) (zi_at zh_dX7_run_160_160 3 rfl) (zi_at zh_dX7_run_160_160 4 rfl) rfl
theorem dX7_run_165 : decode cX7_run 165 = .ok (.iconst 0, 1) := zo_3 (zi_at zh_dX7_run_160_160 5 rfl)
theorem dX7_run_166 : decode cX7_run 166 = .ok (.ireturn, 1) := zo_172 (zi_at zh_dX7_run_160_160 6 rfl)
theorem dX7_letterAt_0 : decode cX7_letterAt 0 = .ok (.iload_n 0, 1) := zo_26 (zi_at zh_dX7_letterAt_0_0 0 rfl)
theorem dX7_letterAt_1 : decode cX7_letterAt 1 = .ok (.aload_n 1, 1) := zo_43 (zi_at zh_dX7_letterAt_0_0 1 rfl)
theorem dX7_letterAt_2 : decode cX7_letterAt 2 = .ok (.arraylength, 1) := zo_190 (zi_at zh_dX7_letterAt_0_0 2 rfl)
theorem dX7_letterAt_3 : decode cX7_letterAt 3 = .ok (.if_icmp .ge 9, 3) := zo_162 (zi_at zh_dX7_letterAt_0_0 3 rfl) (zi_at zh_dX7_letterAt_0_0 4 rfl) (zi_at zh_dX7_letterAt_0_0 5 rfl) rfl
theorem dX7_letterAt_6 : decode cX7_letterAt 6 = .ok (.aload_n 1, 1) := zo_43 (zi_at zh_dX7_letterAt_0_0 6 rfl)
theorem dX7_letterAt_7 : decode cX7_letterAt 7 = .ok (.iload_n 0, 1) := zo_26 (zi_at zh_dX7_letterAt_0_0 7 rfl)
theorem dX7_letterAt_8 : decode cX7_letterAt 8 = .ok (.iaload, 1) := zo_46 (zi_at zh_dX7_letterAt_0_0 8 rfl)
theorem dX7_letterAt_9 : decode cX7_letterAt 9 = .ok (.goto 4, 3) := zo_167 (zi_at zh_dX7_letterAt_0_0 9 rfl) (zi_at zh_dX7_letterAt_0_0 10 rfl) (zi_at zh_dX7_letterAt_0_0 11 rfl) rfl
theorem dX7_letterAt_12 : decode cX7_letterAt 12 = .ok (.iconst 0, 1) := zo_3 (zi_at zh_dX7_letterAt_0_0 12 rfl)
theorem dX7_letterAt_13 : decode cX7_letterAt 13 = .ok (.ireturn, 1) := zo_172 (zi_at zh_dX7_letterAt_0_0 13 rfl)
theorem hz_yX7_asSign_1 : yX7_asSign.cls ≠ "java/lang/invoke/MethodHandle" ∧ yX7_asSign.cls ≠ "java/lang/invoke/VarHandle" ∧ (parseMethodDescriptor yX7_asSign.desc).map (fun d => d.parameters.length) = some 1 := by decide +kernel
theorem hz_yX7_letterAt_2 : yX7_letterAt.cls ≠ "java/lang/invoke/MethodHandle" ∧ yX7_letterAt.cls ≠ "java/lang/invoke/VarHandle" ∧ (parseMethodDescriptor yX7_letterAt.desc).map (fun d => d.parameters.length) = some 2 := by decide +kernel
theorem hz_yX7_join_3 : yX7_join.cls ≠ "java/lang/invoke/MethodHandle" ∧ yX7_join.cls ≠ "java/lang/invoke/VarHandle" ∧ (parseMethodDescriptor yX7_join.desc).map (fun d => d.parameters.length) = some 3 := by decide +kernel
theorem hz_yX7_run_4 : yX7_run.cls ≠ "java/lang/invoke/MethodHandle" ∧ yX7_run.cls ≠ "java/lang/invoke/VarHandle" ∧ (parseMethodDescriptor yX7_run.desc).map (fun d => d.parameters.length) = some 4 := by decide +kernel
theorem hz_yJx4a65c_size_8abf5_0 : yJx4a65c_size_8abf5.cls ≠ "java/lang/invoke/MethodHandle" ∧ yJx4a65c_size_8abf5.cls ≠ "java/lang/invoke/VarHandle" ∧ (parseMethodDescriptor yJx4a65c_size_8abf5.desc).map (fun d => d.parameters.length) = some 0 := by decide +kernel
theorem hz_yX0_isKnown_1 : yX0_isKnown.cls ≠ "java/lang/invoke/MethodHandle" ∧ yX0_isKnown.cls ≠ "java/lang/invoke/VarHandle" ∧ (parseMethodDescriptor yX0_isKnown.desc).map (fun d => d.parameters.length) = some 1 := by decide +kernel
theorem hz_yX0_isRace_1 : yX0_isRace.cls ≠ "java/lang/invoke/MethodHandle" ∧ yX0_isRace.cls ≠ "java/lang/invoke/VarHandle" ∧ (parseMethodDescriptor yX0_isRace.desc).map (fun d => d.parameters.length) = some 1 := by decide +kernel
theorem hz_yJx4a65c_get_915e3_1 : yJx4a65c_get_915e3.cls ≠ "java/lang/invoke/MethodHandle" ∧ yJx4a65c_get_915e3.cls ≠ "java/lang/invoke/VarHandle" ∧ (parseMethodDescriptor yJx4a65c_get_915e3.desc).map (fun d => d.parameters.length) = some 1 := by decide +kernel
theorem hz_yX0_isBoat_1 : yX0_isBoat.cls ≠ "java/lang/invoke/MethodHandle" ∧ yX0_isBoat.cls ≠ "java/lang/invoke/VarHandle" ∧ (parseMethodDescriptor yX0_isBoat.desc).map (fun d => d.parameters.length) = some 1 := by decide +kernel
theorem hz_yX5_isEnteredIn_2 : yX5_isEnteredIn.cls ≠ "java/lang/invoke/MethodHandle" ∧ yX5_isEnteredIn.cls ≠ "java/lang/invoke/VarHandle" ∧ (parseMethodDescriptor yX5_isEnteredIn.desc).map (fun d => d.parameters.length) = some 2 := by decide +kernel
theorem hz_yJ7_fill_53178_2 : yJ7_fill_53178.cls ≠ "java/lang/invoke/MethodHandle" ∧ yJ7_fill_53178.cls ≠ "java/lang/invoke/VarHandle" ∧ (parseMethodDescriptor yJ7_fill_53178.desc).map (fun d => d.parameters.length) = some 2 := by decide +kernel
theorem hz_yX7_worthOf_3 : yX7_worthOf.cls ≠ "java/lang/invoke/MethodHandle" ∧ yX7_worthOf.cls ≠ "java/lang/invoke/VarHandle" ∧ (parseMethodDescriptor yX7_worthOf.desc).map (fun d => d.parameters.length) = some 3 := by decide +kernel
def v_isEnteredIn : List Cond := .code yX5_isEnteredIn cX5_isEnteredIn 3 (some .boolean) :: vA
abbrev rm_isEnteredIn : Room := { frames := 0, cells := 0, slots := 0, locals := 0 }
set_option maxHeartbeats 4000000 in
set_option maxRecDepth 100000 in
theorem q_isEnteredIn (l : Launch) (dC : Nat → ClassId) (dI : Nat → Nat → Nat) (cT : Nat → ClassId) (cf : Nat → Nat) (hC : CF cf) (ad : Nat → Nat) (E : Nat → va_E) (sz : Nat) (a0 : Int32) (a1 : Int32) (i : Nat) (hI0 : IXL cT (shC cf) (spC cf) (LC cf) ad E) (hh0 : i < cf 2) (hh1 : 0 ≤ a0.toInt ∧ a0.toInt ≤ 15) : Met l yX5_isEnteredIn v_isEnteredIn rm_isEnteredIn (va_Pc [.ref (ad (64 * (i + 1) + 6)), .int a0, .int a1] (HWL dC dI (TYC cT) cf ad E sz)) (va_Qi (S := Unit) (fun r _ => (r = 1 ∧ (¬ (xi (E (64 * (i + 1) + 7)) a0.toNatClampNeg).toInt = -1 ∧ (xi (E (64 * (i + 1) + 7)) a0.toNatClampNeg).toInt ≤ a1.toInt)) ∨ (r = 0 ∧ (¬ (¬ (xi (E (64 * (i + 1) + 7)) a0.toNatClampNeg).toInt = -1 ∧ (xi (E (64 * (i + 1) + 7)) a0.toNatClampNeg).toInt ≤ a1.toInt)))) (fun _ _ => True) (fun _ => False)) 0 0 (fun _ => False) := by
  obtain ⟨⟨hc0, hc1, hc2, hc3, hc4, hc5⟩, hcr⟩ := id hC
  refine Met.ofW (cc := cX5_isEnteredIn) (maxL := 3) (ret := (some .boolean)) (by decide) rfl ?_
  intro p e s m args below meth c s₁ B hml hv
  obtain ⟨hargs, hsz, hP, hK, hD0, hEV⟩ := hv
  subst hsz
  have hx := B.exec
  have hb := B.bytes
  have hr := B.returns
  have hts := atoms_spec (ws := v_isEnteredIn) B.pre
  have hown : s.vm.findClass RX5 = some m.cls := findClass_of_methodNamed B.named
  have hlocks := B.notSynchronized
  have hinX5 : ∀ w ∈ u_ws RX5 TX5 12, w ∈ v_isEnteredIn := fun w h => vA_in _ w (in_X5 w h)
  have hS : va_S (fun _ : Nat => False) s.heap s.heap [] := va_S.rf
  have hD := hD0
  have hI := hI0
  have hKp : Kp (wl [] []) E E := Kp.rf
  have hl := lv_entry ([.ref (ad (64 * (i + 1) + 6)), .int a0, .int a1]) (n := 3) (Nat.le_of_ble_eq_true rfl)
  obtain ⟨Q, hQ⟩ : ∃ Q, Q = MQ below (va_Qi (S := Unit) (fun r _ => (r = 1 ∧ (¬ (xi (E (64 * (i + 1) + 7)) a0.toNatClampNeg).toInt = -1 ∧ (xi (E (64 * (i + 1) + 7)) a0.toNatClampNeg).toInt ≤ a1.toInt)) ∨ (r = 0 ∧ (¬ (¬ (xi (E (64 * (i + 1) + 7)) a0.toNatClampNeg).toInt = -1 ∧ (xi (E (64 * (i + 1) + 7)) a0.toNatClampNeg).toInt ≤ a1.toInt)))) (fun _ _ => True) (fun _ => False)) args s 0 0 (fun _ => False) := ⟨_, rfl⟩
  rw [← hQ, show entryFrame m args 3 = _ from (congrArg (fun z => entryFrame m z 3) hargs).trans (lg_entry_eq _ _ _)]
  generalize (lg_sl ([.ref (ad (64 * (i + 1) + 6)), .int a0, .int a1]) ++ List.replicate (3 - (lg_sl ([.ref (ad (64 * (i + 1) + 6)), .int a0, .int a1])).length) Slot.unset).toArray = ls at hl ⊢
  have hl : lv_has ls 3 [(0, .ref (ad (64 * (i + 1) + 6))), (1, .int a0), (2, .int a1)] := hl
  refine lv_aload_n hx hb dX5_isEnteredIn_0 rfl (lv_at hl 0 rfl) ?_
  refine th_getL (ci := 6) (C := RX5) (T := TX5) (N := 12) (v := .ref (ad (64 * (i + 1) + 7))) hx hb hts hinX5 hown hK hP hI (64 * (i + 1) + 6) (mP 6 i (by decide) hh0 (kl_le hC 2 (by decide))) (shC_p 6 i (by decide)) rfl 7 (Nat.le_of_ble_eq_true rfl) (hts _ (vA_in _ _ (in_6 _ (zs16 (zs1 (zs1 (zs1 (zs0)))))))) (fun _ h9 => h9) (hI.fr (64 * (i + 1) + 6) (mP 6 i (by decide) hh0 (kl_le hC 2 (by decide))) (shC_p 6 i (by decide)) (Nat.le_of_ble_eq_true rfl) (64 * (i + 1) + 7) (spC_p 6 i (by decide) 7)) dX5_isEnteredIn_1 ?_
  refine lv_iload_n hx hb dX5_isEnteredIn_4 rfl (lv_at hl 1 rfl) ?_
  have n2 : vp_in a0 16 := (iv_in (n := 16) hh1 (by decide))
  refine th_ialdL hx hb hK hP hI (64 * (i + 1) + 7) (mP 7 i (by decide) hh0 (kl_le hC 2 (by decide))) (shC_p 7 i (by decide)) rfl n2 dX5_isEnteredIn_5 (fun y1 ey1 => ?_)
  have iy1 : -1 ≤ y1.toInt ∧ y1.toInt ≤ 400 := hI.el (64 * (i + 1) + 7) (mP 7 i (by decide) hh0 (kl_le hC 2 (by decide))) (shC_p 7 i (by decide)) n2 (fun j9 => spC_p 7 i (by decide) j9) ey1
  have ey1 := ey1.trans (hKp.ei (64 * (i + 1) + 7) _ (wl_p rfl rfl (by omega)))
  refine lv_iconst (v := -1) hx hb dX5_isEnteredIn_6 (by decide) ?_
  refine lv_icmp_eq (tgt := 24) hx hb dX5_isEnteredIn_7 (by decide) (fun c3 => ?_) (fun c3 => ?_)
  · --7 taken
    have t4 : y1.toInt = -1 := ti_eq c3
    have i5 : -1 ≤ y1.toInt ∧ y1.toInt ≤ -1 := iv_eqi t4 iy1 (il_ (-1)) (by decide)
    refine lv_iconst (v := 0) hx hb dX5_isEnteredIn_24 (by decide) ?_
    rw [hQ]
    exact W.zret (v := 0) hx hb hr rfl (fun t ht hW => ⟨⟨0, (), rfl, Or.inr (⟨rfl, by have qy1 := congrArg Int32.toInt ey1; have h8 := ln_0; omega⟩), trivial⟩, hS.F ht⟩) hS.2.2 dX5_isEnteredIn_25
  · --7 not
    have t6 : ¬ y1.toInt = -1 := ti_ne c3
    have i7 : 0 ≤ y1.toInt ∧ y1.toInt ≤ 400 := iv_ne_l t6 iy1 (il_ (-1))
    refine lv_aload_n hx hb dX5_isEnteredIn_10 rfl (lv_at hl 0 rfl) ?_
    refine th_getL (ci := 6) (C := RX5) (T := TX5) (N := 12) (v := .ref (ad (64 * (i + 1) + 7))) hx hb hts hinX5 hown hK hP hI (64 * (i + 1) + 6) (mP 6 i (by decide) hh0 (kl_le hC 2 (by decide))) (shC_p 6 i (by decide)) rfl 7 (Nat.le_of_ble_eq_true rfl) (hts _ (vA_in _ _ (in_6 _ (zs16 (zs1 (zs1 (zs1 (zs0)))))))) (fun _ h9 => h9) (hI.fr (64 * (i + 1) + 6) (mP 6 i (by decide) hh0 (kl_le hC 2 (by decide))) (shC_p 6 i (by decide)) (Nat.le_of_ble_eq_true rfl) (64 * (i + 1) + 7) (spC_p 6 i (by decide) 7)) dX5_isEnteredIn_11 ?_
    refine lv_iload_n hx hb dX5_isEnteredIn_14 rfl (lv_at hl 1 rfl) ?_
    have n9 : vp_in a0 16 := (iv_in (n := 16) hh1 (by decide))
    refine th_ialdL hx hb hK hP hI (64 * (i + 1) + 7) (mP 7 i (by decide) hh0 (kl_le hC 2 (by decide))) (shC_p 7 i (by decide)) rfl n9 dX5_isEnteredIn_15 (fun y8 ey8 => ?_)
    have iy8 : -1 ≤ y8.toInt ∧ y8.toInt ≤ 400 := hI.el (64 * (i + 1) + 7) (mP 7 i (by decide) hh0 (kl_le hC 2 (by decide))) (shC_p 7 i (by decide)) n9 (fun j9 => spC_p 7 i (by decide) j9) ey8
    have ey8 := ey8.trans (hKp.ei (64 * (i + 1) + 7) _ (wl_p rfl rfl (by omega)))
    refine lv_iload_n hx hb dX5_isEnteredIn_16 rfl (lv_at hl 2 rfl) ?_
    refine lv_icmp_gt (tgt := 24) hx hb dX5_isEnteredIn_17 (by decide) (fun c10 => ?_) (fun c10 => ?_)
    · --17 taken
      have t11 : a1.toInt < y8.toInt := ti_lt c10
      have i12 : -2147483648 ≤ a1.toInt ∧ a1.toInt ≤ 399 := iv_lt_l t11 (iv_all _) iy8 (by decide)
      refine lv_iconst (v := 0) hx hb dX5_isEnteredIn_24 (by decide) ?_
      rw [hQ]
      exact W.zret (v := 0) hx hb hr rfl (fun t ht hW => ⟨⟨0, (), rfl, Or.inr (⟨rfl, by have qy1 := congrArg Int32.toInt ey1; have qy8 := congrArg Int32.toInt ey8; have h8 := ln_0; omega⟩), trivial⟩, hS.F ht⟩) hS.2.2 dX5_isEnteredIn_25
    · --17 not
      have t13 : y8.toInt ≤ a1.toInt := ti_nlt c10
      have i14 : -1 ≤ a1.toInt ∧ a1.toInt ≤ 2147483647 := iv_le_r t13 iy8 (iv_all _) (by decide)
      refine lv_iconst (v := 1) hx hb dX5_isEnteredIn_20 (by decide) ?_
      refine lv_goto (tgt := 25) hx hb dX5_isEnteredIn_21 (by decide) ?_
      rw [hQ]
      exact W.zret (v := 1) hx hb hr rfl (fun t ht hW => ⟨⟨1, (), rfl, Or.inl ⟨rfl, by have qy1 := congrArg Int32.toInt ey1; have qy8 := congrArg Int32.toInt ey8; have h8 := ln_1; omega⟩, trivial⟩, hS.F ht⟩) hS.2.2 dX5_isEnteredIn_25
def v_isRedressedIn : List Cond := .code yX5_isRedressedIn cX5_isRedressedIn 3 (some .boolean) :: vA
abbrev rm_isRedressedIn : Room := { frames := 0, cells := 0, slots := 0, locals := 0 }
set_option maxHeartbeats 4000000 in
set_option maxRecDepth 100000 in
theorem q_isRedressedIn (l : Launch) (dC : Nat → ClassId) (dI : Nat → Nat → Nat) (cT : Nat → ClassId) (cf : Nat → Nat) (hC : CF cf) (ad : Nat → Nat) (E : Nat → va_E) (sz : Nat) (a0 : Int32) (a1 : Int32) (i : Nat) (hI0 : IXL cT (shC cf) (spC cf) (LC cf) ad E) (hh0 : i < cf 2) (hh1 : 0 ≤ a0.toInt ∧ a0.toInt ≤ 15) : Met l yX5_isRedressedIn v_isRedressedIn rm_isRedressedIn (va_Pc [.ref (ad (64 * (i + 1) + 6)), .int a0, .int a1] (HWL dC dI (TYC cT) cf ad E sz)) (va_Qi (S := Unit) (fun r _ => (r = 1 ∧ (¬ (xi (E (64 * (i + 1) + 8)) a0.toNatClampNeg).toInt = -1 ∧ (xi (E (64 * (i + 1) + 8)) a0.toNatClampNeg).toInt ≤ a1.toInt)) ∨ (r = 0 ∧ (¬ (¬ (xi (E (64 * (i + 1) + 8)) a0.toNatClampNeg).toInt = -1 ∧ (xi (E (64 * (i + 1) + 8)) a0.toNatClampNeg).toInt ≤ a1.toInt)))) (fun _ _ => True) (fun _ => False)) 0 0 (fun _ => False) := by
  obtain ⟨⟨hc0, hc1, hc2, hc3, hc4, hc5⟩, hcr⟩ := id hC
  refine Met.ofW (cc := cX5_isRedressedIn) (maxL := 3) (ret := (some .boolean)) (by decide) rfl ?_
  intro p e s m args below meth c s₁ B hml hv
  obtain ⟨hargs, hsz, hP, hK, hD0, hEV⟩ := hv
  subst hsz
  have hx := B.exec
  have hb := B.bytes
  have hr := B.returns
  have hts := atoms_spec (ws := v_isRedressedIn) B.pre
  have hown : s.vm.findClass RX5 = some m.cls := findClass_of_methodNamed B.named
  have hlocks := B.notSynchronized
  have hinX5 : ∀ w ∈ u_ws RX5 TX5 12, w ∈ v_isRedressedIn := fun w h => vA_in _ w (in_X5 w h)
  have hS : va_S (fun _ : Nat => False) s.heap s.heap [] := va_S.rf
  have hD := hD0
  have hI := hI0
  have hKp : Kp (wl [] []) E E := Kp.rf
  have hl := lv_entry ([.ref (ad (64 * (i + 1) + 6)), .int a0, .int a1]) (n := 3) (Nat.le_of_ble_eq_true rfl)
  obtain ⟨Q, hQ⟩ : ∃ Q, Q = MQ below (va_Qi (S := Unit) (fun r _ => (r = 1 ∧ (¬ (xi (E (64 * (i + 1) + 8)) a0.toNatClampNeg).toInt = -1 ∧ (xi (E (64 * (i + 1) + 8)) a0.toNatClampNeg).toInt ≤ a1.toInt)) ∨ (r = 0 ∧ (¬ (¬ (xi (E (64 * (i + 1) + 8)) a0.toNatClampNeg).toInt = -1 ∧ (xi (E (64 * (i + 1) + 8)) a0.toNatClampNeg).toInt ≤ a1.toInt)))) (fun _ _ => True) (fun _ => False)) args s 0 0 (fun _ => False) := ⟨_, rfl⟩
  rw [← hQ, show entryFrame m args 3 = _ from (congrArg (fun z => entryFrame m z 3) hargs).trans (lg_entry_eq _ _ _)]
  generalize (lg_sl ([.ref (ad (64 * (i + 1) + 6)), .int a0, .int a1]) ++ List.replicate (3 - (lg_sl ([.ref (ad (64 * (i + 1) + 6)), .int a0, .int a1])).length) Slot.unset).toArray = ls at hl ⊢
  have hl : lv_has ls 3 [(0, .ref (ad (64 * (i + 1) + 6))), (1, .int a0), (2, .int a1)] := hl
  refine lv_aload_n hx hb dX5_isRedressedIn_0 rfl (lv_at hl 0 rfl) ?_
  refine th_getL (ci := 6) (C := RX5) (T := TX5) (N := 12) (v := .ref (ad (64 * (i + 1) + 8))) hx hb hts hinX5 hown hK hP hI (64 * (i + 1) + 6) (mP 6 i (by decide) hh0 (kl_le hC 2 (by decide))) (shC_p 6 i (by decide)) rfl 8 (Nat.le_of_ble_eq_true rfl) (hts _ (vA_in _ _ (in_20 _ (zs16 (zs1 (zs1 (zs0))))))) (fun _ h9 => h9) (hI.fr (64 * (i + 1) + 6) (mP 6 i (by decide) hh0 (kl_le hC 2 (by decide))) (shC_p 6 i (by decide)) (Nat.le_of_ble_eq_true rfl) (64 * (i + 1) + 8) (spC_p 6 i (by decide) 8)) dX5_isRedressedIn_1 ?_
  refine lv_iload_n hx hb dX5_isRedressedIn_4 rfl (lv_at hl 1 rfl) ?_
  have n2 : vp_in a0 16 := (iv_in (n := 16) hh1 (by decide))
  refine th_ialdL hx hb hK hP hI (64 * (i + 1) + 8) (mP 8 i (by decide) hh0 (kl_le hC 2 (by decide))) (shC_p 8 i (by decide)) rfl n2 dX5_isRedressedIn_5 (fun y1 ey1 => ?_)
  have iy1 : -1 ≤ y1.toInt ∧ y1.toInt ≤ 400 := hI.el (64 * (i + 1) + 8) (mP 8 i (by decide) hh0 (kl_le hC 2 (by decide))) (shC_p 8 i (by decide)) n2 (fun j9 => spC_p 8 i (by decide) j9) ey1
  have ey1 := ey1.trans (hKp.ei (64 * (i + 1) + 8) _ (wl_p rfl rfl (by omega)))
  refine lv_iconst (v := -1) hx hb dX5_isRedressedIn_6 (by decide) ?_
  refine lv_icmp_eq (tgt := 24) hx hb dX5_isRedressedIn_7 (by decide) (fun c3 => ?_) (fun c3 => ?_)
  · --7 taken
    have t4 : y1.toInt = -1 := ti_eq c3
    have i5 : -1 ≤ y1.toInt ∧ y1.toInt ≤ -1 := iv_eqi t4 iy1 (il_ (-1)) (by decide)
    refine lv_iconst (v := 0) hx hb dX5_isRedressedIn_24 (by decide) ?_
    rw [hQ]
    exact W.zret (v := 0) hx hb hr rfl (fun t ht hW => ⟨⟨0, (), rfl, Or.inr (⟨rfl, by have qy1 := congrArg Int32.toInt ey1; have h8 := ln_0; omega⟩), trivial⟩, hS.F ht⟩) hS.2.2 dX5_isRedressedIn_25
  · --7 not
    have t6 : ¬ y1.toInt = -1 := ti_ne c3
    have i7 : 0 ≤ y1.toInt ∧ y1.toInt ≤ 400 := iv_ne_l t6 iy1 (il_ (-1))
    refine lv_aload_n hx hb dX5_isRedressedIn_10 rfl (lv_at hl 0 rfl) ?_
    refine th_getL (ci := 6) (C := RX5) (T := TX5) (N := 12) (v := .ref (ad (64 * (i + 1) + 8))) hx hb hts hinX5 hown hK hP hI (64 * (i + 1) + 6) (mP 6 i (by decide) hh0 (kl_le hC 2 (by decide))) (shC_p 6 i (by decide)) rfl 8 (Nat.le_of_ble_eq_true rfl) (hts _ (vA_in _ _ (in_20 _ (zs16 (zs1 (zs1 (zs0))))))) (fun _ h9 => h9) (hI.fr (64 * (i + 1) + 6) (mP 6 i (by decide) hh0 (kl_le hC 2 (by decide))) (shC_p 6 i (by decide)) (Nat.le_of_ble_eq_true rfl) (64 * (i + 1) + 8) (spC_p 6 i (by decide) 8)) dX5_isRedressedIn_11 ?_
    refine lv_iload_n hx hb dX5_isRedressedIn_14 rfl (lv_at hl 1 rfl) ?_
    have n9 : vp_in a0 16 := (iv_in (n := 16) hh1 (by decide))
    refine th_ialdL hx hb hK hP hI (64 * (i + 1) + 8) (mP 8 i (by decide) hh0 (kl_le hC 2 (by decide))) (shC_p 8 i (by decide)) rfl n9 dX5_isRedressedIn_15 (fun y8 ey8 => ?_)
    have iy8 : -1 ≤ y8.toInt ∧ y8.toInt ≤ 400 := hI.el (64 * (i + 1) + 8) (mP 8 i (by decide) hh0 (kl_le hC 2 (by decide))) (shC_p 8 i (by decide)) n9 (fun j9 => spC_p 8 i (by decide) j9) ey8
    have ey8 := ey8.trans (hKp.ei (64 * (i + 1) + 8) _ (wl_p rfl rfl (by omega)))
    refine lv_iload_n hx hb dX5_isRedressedIn_16 rfl (lv_at hl 2 rfl) ?_
    refine lv_icmp_gt (tgt := 24) hx hb dX5_isRedressedIn_17 (by decide) (fun c10 => ?_) (fun c10 => ?_)
    · --17 taken
      have t11 : a1.toInt < y8.toInt := ti_lt c10
      have i12 : -2147483648 ≤ a1.toInt ∧ a1.toInt ≤ 399 := iv_lt_l t11 (iv_all _) iy8 (by decide)
      refine lv_iconst (v := 0) hx hb dX5_isRedressedIn_24 (by decide) ?_
      rw [hQ]
      exact W.zret (v := 0) hx hb hr rfl (fun t ht hW => ⟨⟨0, (), rfl, Or.inr (⟨rfl, by have qy1 := congrArg Int32.toInt ey1; have qy8 := congrArg Int32.toInt ey8; have h8 := ln_0; omega⟩), trivial⟩, hS.F ht⟩) hS.2.2 dX5_isRedressedIn_25
    · --17 not
      have t13 : y8.toInt ≤ a1.toInt := ti_nlt c10
      have i14 : -1 ≤ a1.toInt ∧ a1.toInt ≤ 2147483647 := iv_le_r t13 iy8 (iv_all _) (by decide)
      refine lv_iconst (v := 1) hx hb dX5_isRedressedIn_20 (by decide) ?_
      refine lv_goto (tgt := 25) hx hb dX5_isRedressedIn_21 (by decide) ?_
      rw [hQ]
      exact W.zret (v := 1) hx hb hr rfl (fun t ht hW => ⟨⟨1, (), rfl, Or.inl ⟨rfl, by have qy1 := congrArg Int32.toInt ey1; have qy8 := congrArg Int32.toInt ey8; have h8 := ln_1; omega⟩, trivial⟩, hS.F ht⟩) hS.2.2 dX5_isRedressedIn_25
def v_swiftIn : List Cond := .code yX5_swiftIn cX5_swiftIn 3 (some .int) :: vA
abbrev rm_swiftIn : Room := { frames := 0, cells := 0, slots := 0, locals := 0 }
set_option maxHeartbeats 4000000 in
set_option maxRecDepth 100000 in
theorem q_swiftIn (l : Launch) (dC : Nat → ClassId) (dI : Nat → Nat → Nat) (cT : Nat → ClassId) (cf : Nat → Nat) (hC : CF cf) (ad : Nat → Nat) (E : Nat → va_E) (sz : Nat) (a0 : Int32) (i : Nat) (hI0 : IXL cT (shC cf) (spC cf) (LC cf) ad E) (hh0 : i < cf 2) (hh1 : 0 ≤ a0.toInt ∧ a0.toInt ≤ 400) : Met l yX5_swiftIn v_swiftIn rm_swiftIn (va_Pc [.ref (ad (64 * (i + 1) + 6)), .int a0] (HWL dC dI (TYC cT) cf ad E sz)) (va_Qi (S := Unit) (fun r _ => (0 ≤ r.toInt ∧ r.toInt ≤ 9)) (fun _ _ => True) (fun _ => False)) 0 0 (fun _ => False) := by
  obtain ⟨⟨hc0, hc1, hc2, hc3, hc4, hc5⟩, hcr⟩ := id hC
  refine Met.ofW (cc := cX5_swiftIn) (maxL := 3) (ret := (some .int)) (by decide) rfl ?_
  intro p e s m args below meth c s₁ B hml hv
  obtain ⟨hargs, hsz, hP, hK, hD0, hEV⟩ := hv
  subst hsz
  have hx := B.exec
  have hb := B.bytes
  have hr := B.returns
  have hts := atoms_spec (ws := v_swiftIn) B.pre
  have hown : s.vm.findClass RX5 = some m.cls := findClass_of_methodNamed B.named
  have hlocks := B.notSynchronized
  have hinX5 : ∀ w ∈ u_ws RX5 TX5 12, w ∈ v_swiftIn := fun w h => vA_in _ w (in_X5 w h)
  have hS : va_S (fun _ : Nat => False) s.heap s.heap [] := va_S.rf
  have hD := hD0
  have hI := hI0
  have hKp : Kp (wl [] []) E E := Kp.rf
  have hl := lv_entry ([.ref (ad (64 * (i + 1) + 6)), .int a0]) (n := 3) (Nat.le_of_ble_eq_true rfl)
  obtain ⟨Q, hQ⟩ : ∃ Q, Q = MQ below (va_Qi (S := Unit) (fun r _ => (0 ≤ r.toInt ∧ r.toInt ≤ 9)) (fun _ _ => True) (fun _ => False)) args s 0 0 (fun _ => False) := ⟨_, rfl⟩
  rw [← hQ, show entryFrame m args 3 = _ from (congrArg (fun z => entryFrame m z 3) hargs).trans (lg_entry_eq _ _ _)]
  generalize (lg_sl ([.ref (ad (64 * (i + 1) + 6)), .int a0]) ++ List.replicate (3 - (lg_sl ([.ref (ad (64 * (i + 1) + 6)), .int a0])).length) Slot.unset).toArray = ls at hl ⊢
  have hl : lv_has ls 3 [(0, .ref (ad (64 * (i + 1) + 6))), (1, .int a0)] := hl
  refine lv_iload_n hx hb dX5_swiftIn_0 rfl (lv_at hl 1 rfl) ?_
  refine lv_istore_n (lv' := [(2, .int a0), (0, .ref (ad (64 * (i + 1) + 6))), (1, .int a0)]) hx hb dX5_swiftIn_1 rfl hl (by decide) rfl (fun ls hl => ?_)
  have hL2 : ∀ d : Nat, ∀ (v2_2 : Int32) (H : Heap) (locs : List Loc) (ls : Array Slot), -1 ≤ v2_2.toInt ∧ v2_2.toInt ≤ 400 → v2_2.toInt - (-1) < (d : Int) → va_P (dC, dI) vwCl (WL (LC cf) ad E) H → va_S (fun _ : Nat => False) s.heap H locs → lv_has ls 3 [(2, .int v2_2), (0, .ref (ad (64 * (i + 1) + 6))), (1, .int a0)] → W p l e (headSpec v_swiftIn rm_swiftIn).room s m args below meth c H locs 0 0 Q (F0 m 2 ls []) := by
    intro d
    induction d with
    | zero =>
      intro v2_2 H locs ls hv2_2 hx2_0 hP hS hl
      exact absurd hx2_0 (by first | exact ms_zd hv2_2.1 | omega)
    | succ d ih2 =>
      intro v2_2 H locs ls hv2_2 hx2_0 hP hS hl
      refine lv_iload_n hx hb dX5_swiftIn_2 rfl (lv_at hl 0 rfl) ?_
      refine lv_aload_n hx hb dX5_swiftIn_3 rfl (lv_at hl 1 rfl) ?_
      have i1 : 0 ≤ (xi (E (64 * (i + 1) + 6)) 0).toInt ∧ (xi (E (64 * (i + 1) + 6)) 0).toInt ≤ 400 := hI0.iv (64 * (i + 1) + 6) (mP 6 i (by decide) hh0 (kl_le hC 2 (by decide))) (shC_p 6 i (by decide)) (Nat.le_of_ble_eq_true rfl) (spC_p 6 i (by decide) 0)
      refine th_getL (ci := 6) (C := RX5) (T := TX5) (N := 12) (v := .int (xi (E (64 * (i + 1) + 6)) 0)) hx hb hts hinX5 hown hK hP hI (64 * (i + 1) + 6) (mP 6 i (by decide) hh0 (kl_le hC 2 (by decide))) (shC_p 6 i (by decide)) rfl 0 (Nat.le_of_ble_eq_true rfl) (hts _ (vA_in _ _ (in_15 _ (zs16 (zs4 (zs4 (zs1 (zs1 (zs0))))))))) (fun _ h9 => h9) (th_v0L hKp hI0 (64 * (i + 1) + 6) (mP 6 i (by decide) hh0 (kl_le hC 2 (by decide))) (shC_p 6 i (by decide)) (Nat.le_of_ble_eq_true rfl) (spC_p 6 i (by decide) 0) (wl_p rfl rfl (by omega))) dX5_swiftIn_4 ?_
      refine lv_icmp_lt (tgt := 32) hx hb dX5_swiftIn_7 (by decide) (fun c2 => ?_) (fun c2 => ?_)
      · --7 taken
        have t3 : v2_2.toInt < (xi (E (64 * (i + 1) + 6)) 0).toInt := ti_lt c2
        have i4 : -1 ≤ v2_2.toInt ∧ v2_2.toInt ≤ 399 := iv_lt_l t3 hv2_2 i1 (by decide)
        refine lv_iconst (v := 2) hx hb dX5_swiftIn_32 (by decide) ?_
        rw [hQ]
        exact W.iret (v := 2) hx hb hr (fun t ht hW => ⟨⟨2, (), rfl, (iv_w ln_2 (by decide)), trivial⟩, hS.F ht⟩) hS.2.2 dX5_swiftIn_33
      · --7 not
        have t5 : (xi (E (64 * (i + 1) + 6)) 0).toInt ≤ v2_2.toInt := ti_nlt c2
        have i6 : 0 ≤ v2_2.toInt ∧ v2_2.toInt ≤ 400 := iv_le_r t5 i1 hv2_2 (by decide)
        refine lv_aload_n hx hb dX5_swiftIn_10 rfl (lv_at hl 1 rfl) ?_
        refine th_getL (ci := 6) (C := RX5) (T := TX5) (N := 12) (v := .ref (ad (64 * (i + 1) + 11))) hx hb hts hinX5 hown hK hP hI (64 * (i + 1) + 6) (mP 6 i (by decide) hh0 (kl_le hC 2 (by decide))) (shC_p 6 i (by decide)) rfl 11 (Nat.le_of_ble_eq_true rfl) (hts _ (vA_in _ _ (in_15 _ (zs16 (zs4 (zs4 (zs1 (zs1 (zs1 (zs0)))))))))) (fun _ h9 => h9) (hI.fr (64 * (i + 1) + 6) (mP 6 i (by decide) hh0 (kl_le hC 2 (by decide))) (shC_p 6 i (by decide)) (Nat.le_of_ble_eq_true rfl) (64 * (i + 1) + 11) (spC_p 6 i (by decide) 11)) dX5_swiftIn_11 ?_
        refine lv_iload_n hx hb dX5_swiftIn_14 rfl (lv_at hl 0 rfl) ?_
        have n8 : vp_in v2_2 401 := (iv_in (n := 401) i6 (by decide))
        refine th_ialdL hx hb hK hP hI (64 * (i + 1) + 11) (mP 11 i (by decide) hh0 (kl_le hC 2 (by decide))) (shC_p 11 i (by decide)) rfl n8 dX5_swiftIn_15 (fun y7 ey7 => ?_)
        have iy7 : 0 ≤ y7.toInt ∧ y7.toInt ≤ 9 := hI.el (64 * (i + 1) + 11) (mP 11 i (by decide) hh0 (kl_le hC 2 (by decide))) (shC_p 11 i (by decide)) n8 (fun j9 => spC_p 11 i (by decide) j9) ey7
        have ey7 := ey7.trans (hKp.ei (64 * (i + 1) + 11) _ (wl_p rfl rfl (by omega)))
        refine lv_if_eq (tgt := 26) hx hb dX5_swiftIn_16 (by decide) (fun c9 => ?_) (fun c9 => ?_)
        · --16 taken
          have t10 : y7.toInt = 0 := ti_eq c9
          have i11 : 0 ≤ y7.toInt ∧ y7.toInt ≤ 0 := iv_eqi t10 iy7 (il_ 0) (by decide)
          obtain ⟨y12, ey12⟩ : ∃ y : Int32, y = v2_2 + (-1 : Int32) := ⟨_, rfl⟩
          obtain ⟨ty12, iy12⟩ := ti_add (e := (-1)) (f := 399) i6 ln_m1 ey12 (by decide)
          have ty12 : y12.toInt = v2_2.toInt + (-1) := ty12
          have iy12 : -1 ≤ y12.toInt ∧ y12.toInt ≤ 399 := iy12
          refine lv_iinc (v := y12) (lv' := [(2, .int y12), (0, .ref (ad (64 * (i + 1) + 6))), (1, .int a0)]) hx hb dX5_swiftIn_26 hl (k := 0) rfl (by rw [ey12]; rfl) (by decide) rfl (fun ls hl => ?_)
          refine lv_goto (tgt := 2) hx hb dX5_swiftIn_29 (by decide) ?_
          exact ih2 y12 _ _ _ (iv_w iy12 (by decide)) (by first | exact ms_sd hx2_0 ty12 (by decide) | exact ms_sd2 hx2_0 ty12 | omega) hP hS (lv_sub hl [0, 1, 2] rfl)
        · --16 not
          have t13 : ¬ y7.toInt = 0 := ti_ne c9
          have i14 : 1 ≤ y7.toInt ∧ y7.toInt ≤ 9 := iv_ne_l t13 iy7 (il_ 0)
          refine lv_aload_n hx hb dX5_swiftIn_19 rfl (lv_at hl 1 rfl) ?_
          refine th_getL (ci := 6) (C := RX5) (T := TX5) (N := 12) (v := .ref (ad (64 * (i + 1) + 11))) hx hb hts hinX5 hown hK hP hI (64 * (i + 1) + 6) (mP 6 i (by decide) hh0 (kl_le hC 2 (by decide))) (shC_p 6 i (by decide)) rfl 11 (Nat.le_of_ble_eq_true rfl) (hts _ (vA_in _ _ (in_15 _ (zs16 (zs4 (zs4 (zs1 (zs1 (zs1 (zs0)))))))))) (fun _ h9 => h9) (hI.fr (64 * (i + 1) + 6) (mP 6 i (by decide) hh0 (kl_le hC 2 (by decide))) (shC_p 6 i (by decide)) (Nat.le_of_ble_eq_true rfl) (64 * (i + 1) + 11) (spC_p 6 i (by decide) 11)) dX5_swiftIn_20 ?_
          refine lv_iload_n hx hb dX5_swiftIn_23 rfl (lv_at hl 0 rfl) ?_
          have n16 : vp_in v2_2 401 := (iv_in (n := 401) i6 (by decide))
          refine th_ialdL hx hb hK hP hI (64 * (i + 1) + 11) (mP 11 i (by decide) hh0 (kl_le hC 2 (by decide))) (shC_p 11 i (by decide)) rfl n16 dX5_swiftIn_24 (fun y15 ey15 => ?_)
          have iy15 : 0 ≤ y15.toInt ∧ y15.toInt ≤ 9 := hI.el (64 * (i + 1) + 11) (mP 11 i (by decide) hh0 (kl_le hC 2 (by decide))) (shC_p 11 i (by decide)) n16 (fun j9 => spC_p 11 i (by decide) j9) ey15
          have ey15 := ey15.trans (hKp.ei (64 * (i + 1) + 11) _ (wl_p rfl rfl (by omega)))
          rw [hQ]
          exact W.iret (v := y15) hx hb hr (fun t ht hW => ⟨⟨y15, (), rfl, iy15, trivial⟩, hS.F ht⟩) hS.2.2 dX5_swiftIn_25
  exact hL2 (402) a0 _ _ _ (iv_w hh1 (by decide)) (by have h9 := hh1; first | exact ms_bd h9.2 (by decide) | omega) hP hS (lv_sub hl [0, 1, 2] rfl)
def v_letterAt : List Cond := .code yX7_letterAt cX7_letterAt 2 (some .int) :: vA
abbrev rm_letterAt : Room := { frames := 0, cells := 0, slots := 0, locals := 0 }
set_option maxHeartbeats 4000000 in
set_option maxRecDepth 100000 in
theorem q_letterAt (l : Launch) (dC : Nat → ClassId) (dI : Nat → Nat → Nat) (cT : Nat → ClassId) (cf : Nat → Nat) (hC : CF cf) (ad : Nat → Nat) (E : Nat → va_E) (sz : Nat) (a0 : Int32) (hI0 : IXL cT (shC cf) (spC cf) (LC cf) ad E) (hh0 : 0 ≤ a0.toInt ∧ a0.toInt ≤ 2147483647) : Met l yX7_letterAt v_letterAt rm_letterAt (va_Pc [.int a0, .ref (ad 19)] (HWL dC dI (TYC cT) cf ad E sz)) (va_Qi (S := Unit) (fun r _ => True) (fun _ _ => True) (fun _ => False)) 0 0 (fun _ => False) := by
  obtain ⟨⟨hc0, hc1, hc2, hc3, hc4, hc5⟩, hcr⟩ := id hC
  refine Met.ofW (cc := cX7_letterAt) (maxL := 2) (ret := (some .int)) (by decide) rfl ?_
  intro p e s m args below meth c s₁ B hml hv
  obtain ⟨hargs, hsz, hP, hK, hD0, hEV⟩ := hv
  subst hsz
  have hx := B.exec
  have hb := B.bytes
  have hr := B.returns
  have hts := atoms_spec (ws := v_letterAt) B.pre
  have hown : s.vm.findClass RX7 = some m.cls := findClass_of_methodNamed B.named
  have hlocks := B.notSynchronized
  have hS : va_S (fun _ : Nat => False) s.heap s.heap [] := va_S.rf
  have hD := hD0
  have hI := hI0
  have hKp : Kp (wl [] []) E E := Kp.rf
  have hl := lv_entry ([.int a0, .ref (ad 19)]) (n := 2) (Nat.le_of_ble_eq_true rfl)
  obtain ⟨Q, hQ⟩ : ∃ Q, Q = MQ below (va_Qi (S := Unit) (fun r _ => True) (fun _ _ => True) (fun _ => False)) args s 0 0 (fun _ => False) := ⟨_, rfl⟩
  rw [← hQ, show entryFrame m args 2 = _ from (congrArg (fun z => entryFrame m z 2) hargs).trans (lg_entry_eq _ _ _)]
  generalize (lg_sl ([.int a0, .ref (ad 19)]) ++ List.replicate (2 - (lg_sl ([.int a0, .ref (ad 19)])).length) Slot.unset).toArray = ls at hl ⊢
  have hl : lv_has ls 2 [(0, .int a0), (1, .ref (ad 19))] := hl
  refine lv_iload_n hx hb dX7_letterAt_0 rfl (lv_at hl 0 rfl) ?_
  refine lv_aload_n hx hb dX7_letterAt_1 rfl (lv_at hl 1 rfl) ?_
  refine va_alen (v := 14) hx hb hK hP (posL 19 (LC cf)) 0 (hI.ar 19 (mF 19 rfl) rfl) rfl rfl dX7_letterAt_2 ?_
  refine lv_icmp_ge (tgt := 12) hx hb dX7_letterAt_3 (by decide) (fun c1 => ?_) (fun c1 => ?_)
  · --3 taken
    have t2 : (14 : Int) ≤ a0.toInt := ti_le c1
    have i3 : 14 ≤ a0.toInt ∧ a0.toInt ≤ 2147483647 := iv_le_r t2 (il_ 14) hh0 (by decide)
    refine lv_iconst (v := 0) hx hb dX7_letterAt_12 (by decide) ?_
    rw [hQ]
    exact W.iret (v := 0) hx hb hr (fun t ht hW => ⟨⟨0, (), rfl, trivial, trivial⟩, hS.F ht⟩) hS.2.2 dX7_letterAt_13
  · --3 not
    have t4 : a0.toInt < 14 := ti_nle c1
    have i5 : 0 ≤ a0.toInt ∧ a0.toInt ≤ 13 := iv_lt_l t4 hh0 (il_ 14) (by decide)
    refine lv_aload_n hx hb dX7_letterAt_6 rfl (lv_at hl 1 rfl) ?_
    refine lv_iload_n hx hb dX7_letterAt_7 rfl (lv_at hl 0 rfl) ?_
    have n7 : vp_in a0 14 := (iv_in (n := 14) i5 (by decide))
    refine th_ialdL hx hb hK hP hI 19 (mF 19 rfl) rfl rfl n7 dX7_letterAt_8 (fun y6 ey6 => ?_)
    have ey6 := ey6.trans (hKp.ei 19 _ rfl)
    refine lv_goto (tgt := 13) hx hb dX7_letterAt_9 (by decide) ?_
    rw [hQ]
    exact W.iret (v := y6) hx hb hr (fun t ht hW => ⟨⟨y6, (), rfl, trivial, trivial⟩, hS.F ht⟩) hS.2.2 dX7_letterAt_13
def v_run : List Cond := .code yX7_run cX7_run 9 (some .int) :: vA
abbrev rm_run : Room := { frames := 1, cells := 0, slots := 0, locals := 40 }
def w_run : Nat → Nat → Bool := wl [20] []
set_option maxHeartbeats 4000000 in
set_option maxRecDepth 100000 in
theorem q_run (l : Launch) (dC : Nat → ClassId) (dI : Nat → Nat → Nat) (cT : Nat → ClassId) (cf : Nat → Nat) (hC : CF cf) (ad : Nat → Nat) (E : Nat → va_E) (sz : Nat) (a0 : Int32) (a1 : Int32) (i : Nat) (hI0 : IXL cT (shC cf) (spC cf) (LC cf) ad E) (hh0 : i < cf 1) (hh1 : 0 ≤ a0.toInt ∧ a0.toInt ≤ 200) (hh2 : 0 ≤ a1.toInt ∧ a1.toInt ≤ 200) (hh3 : a1.toInt ≤ ((cf (9 + 2 * i) : Nat) : Int)) : Met l yX7_run v_run rm_run (va_Pc [.ref (ad (64 * (i + 1) + 1)), .int a0, .int a1, .ref (ad 19), .ref (ad 20)] (HWL dC dI (TYC cT) cf ad E sz)) (va_Qi (S := Nat → va_E) (fun r u => IXL cT (shC cf) (spC cf) (LC cf) ad u ∧ Kp w_run E u ∧ (True)) (HBL dC dI (LC cf) ad) (va_A (WL (LC cf) ad E) sz)) 0 0 (va_A (WL (LC cf) ad E) sz) := by
  obtain ⟨⟨hc0, hc1, hc2, hc3, hc4, hc5⟩, hcr⟩ := id hC
  refine Met.ofW (cc := cX7_run) (maxL := 9) (ret := (some .int)) (by decide) rfl ?_
  intro p e s m args below meth c s₁ B hml hv
  obtain ⟨hargs, hsz, hP, hK, hD0, hEV⟩ := hv
  subst hsz
  have hx := B.exec
  have hb := B.bytes
  have hr := B.returns
  have hts := atoms_spec (ws := v_run) B.pre
  have hown : s.vm.findClass RX7 = some m.cls := findClass_of_methodNamed B.named
  have hlocks := B.notSynchronized
  have hinX7 : ∀ w ∈ u_ws RX7 TX7 6, w ∈ v_run := fun w h => vA_in _ w (in_X7 w h)
  generalize hAe : va_A (WL (LC cf) ad E) s.heap.size = A at hEV ⊢
  have hA : ∀ q : Nat, s.heap.size ≤ q → A q := fun q h => by rw [← hAe]; exact Or.inr h
  have hD : va_D A (WL (LC cf) ad E) := by rw [← hAe]; exact hD0.self
  have hS : va_S A s.heap s.heap [] := va_S.rf
  have hI := hI0
  have hKp : Kp w_run E E := Kp.rf
  have hl := lv_entry ([.ref (ad (64 * (i + 1) + 1)), .int a0, .int a1, .ref (ad 19), .ref (ad 20)]) (n := 9) (Nat.le_of_ble_eq_true rfl)
  obtain ⟨Q, hQ⟩ : ∃ Q, Q = MQ below (va_Qi (S := Nat → va_E) (fun r u => IXL cT (shC cf) (spC cf) (LC cf) ad u ∧ Kp w_run E u ∧ (True)) (HBL dC dI (LC cf) ad) (A)) args s 0 0 (A) := ⟨_, rfl⟩
  rw [← hQ, show entryFrame m args 9 = _ from (congrArg (fun z => entryFrame m z 9) hargs).trans (lg_entry_eq _ _ _)]
  generalize (lg_sl ([.ref (ad (64 * (i + 1) + 1)), .int a0, .int a1, .ref (ad 19), .ref (ad 20)]) ++ List.replicate (9 - (lg_sl ([.ref (ad (64 * (i + 1) + 1)), .int a0, .int a1, .ref (ad 19), .ref (ad 20)])).length) Slot.unset).toArray = ls at hl ⊢
  have hl : lv_has ls 9 [(0, .ref (ad (64 * (i + 1) + 1))), (1, .int a0), (2, .int a1), (3, .ref (ad 19)), (4, .ref (ad 20))] := hl
  refine lv_iconst (v := 0) hx hb dX7_run_0 (by decide) ?_
  refine lv_istore (lv' := [(5, .int 0), (0, .ref (ad (64 * (i + 1) + 1))), (1, .int a0), (2, .int a1), (3, .ref (ad 19)), (4, .ref (ad 20))]) hx hb dX7_run_1 hl (by decide) rfl (fun ls hl => ?_)
  refine lv_iload_n hx hb dX7_run_3 rfl (lv_at hl 2 rfl) ?_
  refine lv_istore (lv' := [(6, .int a0), (5, .int 0), (0, .ref (ad (64 * (i + 1) + 1))), (1, .int a0), (2, .int a1), (3, .ref (ad 19)), (4, .ref (ad 20))]) hx hb dX7_run_4 hl (by decide) rfl (fun ls hl => ?_)
  have hL6 : ∀ d : Nat, ∀ (v6_6 : Int32) (v6_5 : Int32) (E6_ : Nat → va_E) (H : Heap) (locs : List Loc) (ls : Array Slot), 0 ≤ v6_6.toInt ∧ v6_6.toInt ≤ 200 → 0 ≤ v6_5.toInt ∧ v6_5.toInt ≤ 200 → 200 - v6_6.toInt < (d : Int) → IXL cT (shC cf) (spC cf) (LC cf) ad E6_ → Kp w_run E E6_ → va_P (dC, dI) vwCl (WL (LC cf) ad E6_) H → va_S A s.heap H locs → lv_has ls 9 [(6, .int v6_6), (5, .int v6_5), (0, .ref (ad (64 * (i + 1) + 1))), (1, .int a0), (2, .int a1), (3, .ref (ad 19)), (4, .ref (ad 20))] → W p l e (headSpec v_run rm_run).room s m args below meth c H locs 0 0 Q (F0 m 6 ls []) := by
    intro d
    induction d with
    | zero =>
      intro v6_6 v6_5 E6_ H locs ls hv6_6 hv6_5 hx6_0 hI hKp hP hS hl
      exact absurd hx6_0 (by first | exact ms_zu hv6_6.2 | omega)
    | succ d ih6 =>
      intro v6_6 v6_5 E6_ H locs ls hv6_6 hv6_5 hx6_0 hI hKp hP hS hl
      refine lv_iload hx hb dX7_run_6 (lv_at hl 0 rfl) ?_
      refine lv_iload_n hx hb dX7_run_8 rfl (lv_at hl 4 rfl) ?_
      refine lv_icmp_ge (tgt := 150) hx hb dX7_run_9 (by decide) (fun c1 => ?_) (fun c1 => ?_)
      · --9 taken
        have t2 : a1.toInt ≤ v6_6.toInt := ti_le c1
        refine lv_iload hx hb dX7_run_150 (lv_at hl 1 rfl) ?_
        refine lv_if_le (tgt := 165) hx hb dX7_run_152 (by decide) (fun c3 => ?_) (fun c3 => ?_)
        · --152 taken
          have t4 : v6_5.toInt ≤ 0 := ti_le c3
          have i5 : 0 ≤ v6_5.toInt ∧ v6_5.toInt ≤ 0 := iv_le_l t4 hv6_5 (il_ 0) (by decide)
          refine lv_iconst (v := 0) hx hb dX7_run_165 (by decide) ?_
          rw [hQ]
          exact W.iret (v := 0) hx hb hr (fun t ht hW => ⟨⟨0, E6_, rfl, ⟨hI, hKp, trivial⟩, by show va_P (dC, dI) vwCl (WL (LC cf) ad E6_) t.heap; rw [ht]; exact hP⟩, hS.F ht⟩) hS.2.2 dX7_run_166
        · --152 not
          have t6 : (0 : Int) < v6_5.toInt := ti_nle c3
          have i7 : 1 ≤ v6_5.toInt ∧ v6_5.toInt ≤ 200 := iv_lt_r t6 (il_ 0) hv6_5 (by decide)
          refine lv_aload hx hb dX7_run_155 (lv_at hl 6 rfl) ?_
          refine lv_iload hx hb dX7_run_157 (lv_at hl 1 rfl) ?_
          refine lv_iconst (v := 1) hx hb dX7_run_159 (by decide) ?_
          refine lv_isub hx hb dX7_run_160 ?_
          refine lv_topi (fun y8 ey8 => ?_)
          obtain ⟨ty8, iy8⟩ := ti_sub (e := 0) (f := 199) i7 ln_1 ey8 (by decide)
          have ty8 : y8.toInt = v6_5.toInt - 1 := ty8
          have iy8 : 0 ≤ y8.toInt ∧ y8.toInt ≤ 199 := iy8
          have n10 : vp_in y8 200 := (iv_in (n := 200) iy8 (by decide))
          refine th_ialdL hx hb hK hP hI 20 (mF 20 rfl) rfl rfl n10 dX7_run_161 (fun y9 ey9 => ?_)
          refine lv_goto (tgt := 166) hx hb dX7_run_162 (by decide) ?_
          rw [hQ]
          exact W.iret (v := y9) hx hb hr (fun t ht hW => ⟨⟨y9, E6_, rfl, ⟨hI, hKp, trivial⟩, by show va_P (dC, dI) vwCl (WL (LC cf) ad E6_) t.heap; rw [ht]; exact hP⟩, hS.F ht⟩) hS.2.2 dX7_run_166
      · --9 not
        have t11 : v6_6.toInt < a1.toInt := ti_nle c1
        have i12 : 0 ≤ v6_6.toInt ∧ v6_6.toInt ≤ 199 := iv_lt_l t11 hv6_6 hh2 (by decide)
        have i13 : 1 ≤ a1.toInt ∧ a1.toInt ≤ 200 := iv_lt_r t11 hv6_6 hh2 (by decide)
        refine lv_aload_n hx hb dX7_run_12 rfl (lv_at hl 2 rfl) ?_
        refine th_getL (ci := 8) (C := RX7) (T := TX7) (N := 6) (v := .ref (ad (64 * (i + 1) + 2))) hx hb hts hinX7 hown hK hP hI (64 * (i + 1) + 1) (mP 1 i (by decide) hh0 (kl_le hC 1 (by decide))) (shC_p 1 i (by decide)) rfl 2 (Nat.le_of_ble_eq_true rfl) (hts _ (vA_in _ _ (in_7 _ (zs4 (zs4 (zs1 (zs1 (zs1 (zs0))))))))) (fun _ h9 => h9) (hI.fr (64 * (i + 1) + 1) (mP 1 i (by decide) hh0 (kl_le hC 1 (by decide))) (shC_p 1 i (by decide)) (Nat.le_of_ble_eq_true rfl) (64 * (i + 1) + 2) (spC_p 1 i (by decide) 2)) dX7_run_13 ?_
        refine lv_iload hx hb dX7_run_16 (lv_at hl 0 rfl) ?_
        have n15 : vp_in v6_6 (cf (9 + 2 * i)) := (vp_in_iff.mpr ⟨by omega, by omega⟩)
        refine th_ialdL hx hb hK hP hI (64 * (i + 1) + 2) (mP 2 i (by decide) hh0 (kl_le hC 1 (by decide))) (shC_p 2 i (by decide)) rfl n15 dX7_run_18 (fun y14 ey14 => ?_)
        have ey14 := ey14.trans (hKp.ei (64 * (i + 1) + 2) _ (wl_p rfl rfl (by omega)))
        refine lv_istore (lv' := [(7, .int y14), (6, .int v6_6), (5, .int v6_5), (0, .ref (ad (64 * (i + 1) + 1))), (1, .int a0), (2, .int a1), (3, .ref (ad 19)), (4, .ref (ad 20))]) hx hb dX7_run_19 hl (by decide) rfl (fun ls hl => ?_)
        refine lv_iload hx hb dX7_run_21 (lv_at hl 0 rfl) ?_
        refine lv_iconst (v := 0) hx hb dX7_run_23 (by decide) ?_
        refine th_pi (va_runS (As := [.int 0]) (rest := [.int y14]) ⟨hx, hb, hml, hown, hts⟩ (q_casSign l (0 : Int32) (iv_w ln_0 (by decide))) (va_cwS 1 hts (gi_S (in_7 _ (zs4 (zs4 (zs4 (zs0))))) (in_7 _ (zs4 (zs4 (zs4 (zs1 (zs0)))))) (in_7 _ (zs1 (zs1 (zs0)))) (in_7 _ (zs4 (zs4 (zs4 (zs1 (zs1 (zs0)))))))) rfl rfl rfl hz_yX7_asSign_1 ⟨Nat.le_of_ble_eq_true rfl, Nat.le_of_ble_eq_true rfl⟩) ⟨fun _ _ _ _ q => q, fun _ _ _ => ⟨rfl, trivial⟩⟩ rfl rfl hl.1 rfl (lv_room (Nat.le_of_ble_eq_true rfl)) dX7_run_24 ⟨Nat.le_of_ble_eq_true rfl, Nat.le_of_ble_eq_true rfl⟩) hS (fun r16 H1 locs1 hw hk1 hS => ?_)
        have hP := ub_keep hP hk1
        generalize H1 = H at hP hS ⊢
        generalize locs1 = locs at hS ⊢
        obtain ⟨f17, f18⟩ := hw
        refine lv_icmp_gt (tgt := 110) hx hb dX7_run_27 (by decide) (fun c19 => ?_) (fun c19 => ?_)
        · --27 taken
          have t20 : r16.toInt < y14.toInt := ti_lt c19
          have i21 : -354 ≤ y14.toInt ∧ y14.toInt ≤ 2147483647 := iv_lt_r t20 f17 (iv_all _) (by decide)
          refine lv_iload hx hb dX7_run_110 (lv_at hl 2 rfl) ?_
          refine lv_aload hx hb dX7_run_112 (lv_at hl 7 rfl) ?_
          refine va_alen (v := 200) hx hb hK hP (posL 20 (LC cf)) 0 (hI.ar 20 (mF 20 rfl) rfl) rfl rfl dX7_run_114 ?_
          refine lv_icmp_ge (tgt := 144) hx hb dX7_run_115 (by decide) (fun c22 => ?_) (fun c22 => ?_)
          · --115 taken
            have t23 : (200 : Int) ≤ v6_5.toInt := ti_le c22
            have i24 : 200 ≤ v6_5.toInt ∧ v6_5.toInt ≤ 200 := iv_le_r t23 (il_ 200) hv6_5 (by decide)
            obtain ⟨y25, ey25⟩ : ∃ y : Int32, y = v6_6 + (1 : Int32) := ⟨_, rfl⟩
            obtain ⟨ty25, iy25⟩ := ti_add (e := 1) (f := 200) i12 ln_1 ey25 (by decide)
            have ty25 : y25.toInt = v6_6.toInt + 1 := ty25
            have iy25 : 1 ≤ y25.toInt ∧ y25.toInt ≤ 200 := iy25
            refine lv_iinc (v := y25) (lv' := [(6, .int y25), (7, .int y14), (5, .int v6_5), (0, .ref (ad (64 * (i + 1) + 1))), (1, .int a0), (2, .int a1), (3, .ref (ad 19)), (4, .ref (ad 20))]) hx hb dX7_run_144 hl (k := 1) rfl (by rw [ey25]; rfl) (by decide) rfl (fun ls hl => ?_)
            refine lv_goto (tgt := 6) hx hb dX7_run_147 (by decide) ?_
            exact ih6 y25 v6_5 E6_ _ _ _ (iv_w iy25 (by decide)) (iv_w i24 (by decide)) (by first | exact ms_su hx6_0 ty25 (by decide) | omega) hI hKp hP hS (lv_sub hl [0, 2, 3, 4, 5, 6, 7] rfl)
          · --115 not
            have t26 : v6_5.toInt < 200 := ti_nle c22
            have i27 : 0 ≤ v6_5.toInt ∧ v6_5.toInt ≤ 199 := iv_lt_l t26 hv6_5 (il_ 200) (by decide)
            refine lv_aload hx hb dX7_run_118 (lv_at hl 7 rfl) ?_
            refine lv_iload hx hb dX7_run_120 (lv_at hl 2 rfl) ?_
            refine lv_iload hx hb dX7_run_122 (lv_at hl 0 rfl) ?_
            refine lv_if_lt (tgt := 132) hx hb dX7_run_124 (by decide) (fun c28 => ?_) (fun c28 => ?_)
            · --124 taken
              have t29 : y14.toInt < 0 := ti_lt c28
              have i30 : -354 ≤ y14.toInt ∧ y14.toInt ≤ -1 := iv_lt_l t29 i21 (il_ 0) (by decide)
              refine lv_iconst (v := -1) hx hb dX7_run_132 (by decide) ?_
              refine lv_iload hx hb dX7_run_133 (lv_at hl 0 rfl) ?_
              refine lv_isub hx hb dX7_run_135 ?_
              refine lv_topi (fun y31 ey31 => ?_)
              obtain ⟨ty31, iy31⟩ := ti_sub (e := 0) (f := 353) ln_m1 i30 ey31 (by decide)
              have ty31 : y31.toInt = -1 - y14.toInt := ty31
              have iy31 : 0 ≤ y31.toInt ∧ y31.toInt ≤ 353 := iy31
              refine lv_aload_n hx hb dX7_run_136 rfl (lv_at hl 6 rfl) ?_
              refine th_riL (va_runS (As := [.int y31, .ref (ad 19)]) (rest := [.int v6_5, .ref (ad 20)]) ⟨hx, hb, hml, hown, hts⟩ (q_letterAt l dC dI cT cf hC ad E6_ H.size y31 hI (iv_w iy31 (by decide))) (va_cwS 2 hts (gi_S (in_7 _ (zs16 (zs4 (zs1 (zs1 (zs0)))))) (in_7 _ (zs16 (zs4 (zs1 (zs1 (zs1 (zs0))))))) (in_7 _ (zs1 (zs1 (zs0)))) (in_7 _ (zs16 (zs4 (zs4 (zs0)))))) rfl rfl rfl hz_yX7_letterAt_2 ⟨Nat.le_of_ble_eq_true rfl, Nat.le_of_ble_eq_true rfl⟩) ⟨HWL_bl, (HWL_wi hP hK (WL_D hD) hS hA hEV)⟩ rfl rfl hl.1 rfl (lv_room (Nat.le_of_ble_eq_true rfl)) dX7_run_137 ⟨Nat.le_of_ble_eq_true rfl, Nat.le_of_ble_eq_true rfl⟩) hS hP (fun r32 H locs hw hP hS => ?_)
              have n33 : vp_in v6_5 200 := (iv_in (n := 200) i27 (by decide))
              refine th_iastL hx hb hK hP (WL_D hD) hS hI 20 (mF 20 rfl) rfl rfl n33 (okI rfl (iv_all _)) dX7_run_140 (fun H locs E34 pw35 hI hP hS => ?_)
              have hKp := hKp.pw pw35 rfl
              obtain ⟨y36, ey36⟩ : ∃ y : Int32, y = v6_5 + (1 : Int32) := ⟨_, rfl⟩
              obtain ⟨ty36, iy36⟩ := ti_add (e := 1) (f := 200) i27 ln_1 ey36 (by decide)
              have ty36 : y36.toInt = v6_5.toInt + 1 := ty36
              have iy36 : 1 ≤ y36.toInt ∧ y36.toInt ≤ 200 := iy36
              refine lv_iinc (v := y36) (lv' := [(5, .int y36), (7, .int y14), (6, .int v6_6), (0, .ref (ad (64 * (i + 1) + 1))), (1, .int a0), (2, .int a1), (3, .ref (ad 19)), (4, .ref (ad 20))]) hx hb dX7_run_141 hl (k := 2) rfl (by rw [ey36]; rfl) (by decide) rfl (fun ls hl => ?_)
              obtain ⟨y37, ey37⟩ : ∃ y : Int32, y = v6_6 + (1 : Int32) := ⟨_, rfl⟩
              obtain ⟨ty37, iy37⟩ := ti_add (e := 1) (f := 200) i12 ln_1 ey37 (by decide)
              have ty37 : y37.toInt = v6_6.toInt + 1 := ty37
              have iy37 : 1 ≤ y37.toInt ∧ y37.toInt ≤ 200 := iy37
              refine lv_iinc (v := y37) (lv' := [(6, .int y37), (5, .int y36), (7, .int y14), (0, .ref (ad (64 * (i + 1) + 1))), (1, .int a0), (2, .int a1), (3, .ref (ad 19)), (4, .ref (ad 20))]) hx hb dX7_run_144 hl (k := 2) rfl (by rw [ey37]; rfl) (by decide) rfl (fun ls hl => ?_)
              refine lv_goto (tgt := 6) hx hb dX7_run_147 (by decide) ?_
              exact ih6 y37 y36 E34 _ _ _ (iv_w iy37 (by decide)) (iv_w iy36 (by decide)) (by first | exact ms_su hx6_0 ty37 (by decide) | omega) hI hKp hP hS (lv_sub hl [0, 1, 3, 4, 5, 6, 7] rfl)
            · --124 not
              have t38 : (0 : Int) ≤ y14.toInt := ti_nlt c28
              have i39 : 0 ≤ y14.toInt ∧ y14.toInt ≤ 2147483647 := iv_le_r t38 (il_ 0) i21 (by decide)
              refine lv_iload hx hb dX7_run_127 (lv_at hl 0 rfl) ?_
              refine lv_goto (tgt := 140) hx hb dX7_run_129 (by decide) ?_
              have n40 : vp_in v6_5 200 := (iv_in (n := 200) i27 (by decide))
              refine th_iastL hx hb hK hP (WL_D hD) hS hI 20 (mF 20 rfl) rfl rfl n40 (okI rfl (iv_w i39 (by decide))) dX7_run_140 (fun H locs E41 pw42 hI hP hS => ?_)
              have hKp := hKp.pw pw42 rfl
              obtain ⟨y43, ey43⟩ : ∃ y : Int32, y = v6_5 + (1 : Int32) := ⟨_, rfl⟩
              obtain ⟨ty43, iy43⟩ := ti_add (e := 1) (f := 200) i27 ln_1 ey43 (by decide)
              have ty43 : y43.toInt = v6_5.toInt + 1 := ty43
              have iy43 : 1 ≤ y43.toInt ∧ y43.toInt ≤ 200 := iy43
              refine lv_iinc (v := y43) (lv' := [(5, .int y43), (7, .int y14), (6, .int v6_6), (0, .ref (ad (64 * (i + 1) + 1))), (1, .int a0), (2, .int a1), (3, .ref (ad 19)), (4, .ref (ad 20))]) hx hb dX7_run_141 hl (k := 2) rfl (by rw [ey43]; rfl) (by decide) rfl (fun ls hl => ?_)
              obtain ⟨y44, ey44⟩ : ∃ y : Int32, y = v6_6 + (1 : Int32) := ⟨_, rfl⟩
              obtain ⟨ty44, iy44⟩ := ti_add (e := 1) (f := 200) i12 ln_1 ey44 (by decide)
              have ty44 : y44.toInt = v6_6.toInt + 1 := ty44
              have iy44 : 1 ≤ y44.toInt ∧ y44.toInt ≤ 200 := iy44
              refine lv_iinc (v := y44) (lv' := [(6, .int y44), (5, .int y43), (7, .int y14), (0, .ref (ad (64 * (i + 1) + 1))), (1, .int a0), (2, .int a1), (3, .ref (ad 19)), (4, .ref (ad 20))]) hx hb dX7_run_144 hl (k := 2) rfl (by rw [ey44]; rfl) (by decide) rfl (fun ls hl => ?_)
              refine lv_goto (tgt := 6) hx hb dX7_run_147 (by decide) ?_
              exact ih6 y44 y43 E41 _ _ _ (iv_w iy44 (by decide)) (iv_w iy43 (by decide)) (by first | exact ms_su hx6_0 ty44 (by decide) | omega) hI hKp hP hS (lv_sub hl [0, 1, 3, 4, 5, 6, 7] rfl)
        · --27 not
          have t45 : y14.toInt ≤ r16.toInt := ti_nlt c19
          have i46 : -2147483648 ≤ y14.toInt ∧ y14.toInt ≤ -100 := iv_le_l t45 (iv_all _) f17 (by decide)
          refine lv_bipush (v := -100) hx hb dX7_run_30 (by decide) ?_
          refine lv_iload hx hb dX7_run_32 (lv_at hl 0 rfl) ?_
          refine lv_isub hx hb dX7_run_34 ?_
          refine lv_topi (fun y47 ey47 => ?_)
          obtain ⟨ty47, iy47⟩ := ti_sub (e := 0) (f := 2147483548) ln_m100 i46 ey47 (by decide)
          have ty47 : y47.toInt = -100 - y14.toInt := ty47
          have iy47 : 0 ≤ y47.toInt ∧ y47.toInt ≤ 2147483548 := iy47
          refine lv_istore (lv' := [(8, .int y47), (7, .int y14), (6, .int v6_6), (5, .int v6_5), (0, .ref (ad (64 * (i + 1) + 1))), (1, .int a0), (2, .int a1), (3, .ref (ad 19)), (4, .ref (ad 20))]) hx hb dX7_run_35 hl (by decide) rfl (fun ls hl => ?_)
          refine lv_iload hx hb dX7_run_37 (lv_at hl 0 rfl) ?_
          refine lv_bipush (v := 33) hx hb dX7_run_39 (by decide) ?_
          refine lv_icmp_ne (tgt := 74) hx hb dX7_run_41 (by decide) (fun c48 => ?_) (fun c48 => ?_)
          · --41 taken
            have t49 : ¬ y47.toInt = 33 := ti_ne c48
            refine lv_iload hx hb dX7_run_74 (lv_at hl 3 rfl) ?_
            refine lv_iconst (v := 1) hx hb dX7_run_76 (by decide) ?_
            refine lv_icmp_le (tgt := 107) hx hb dX7_run_77 (by decide) (fun c50 => ?_) (fun c50 => ?_)
            · --77 taken
              have t51 : v6_5.toInt ≤ 1 := ti_le c50
              have i52 : 0 ≤ v6_5.toInt ∧ v6_5.toInt ≤ 1 := iv_le_l t51 hv6_5 (il_ 1) (by decide)
              refine lv_goto (tgt := 144) hx hb dX7_run_107 (by decide) ?_
              obtain ⟨y53, ey53⟩ : ∃ y : Int32, y = v6_6 + (1 : Int32) := ⟨_, rfl⟩
              obtain ⟨ty53, iy53⟩ := ti_add (e := 1) (f := 200) i12 ln_1 ey53 (by decide)
              have ty53 : y53.toInt = v6_6.toInt + 1 := ty53
              have iy53 : 1 ≤ y53.toInt ∧ y53.toInt ≤ 200 := iy53
              refine lv_iinc (v := y53) (lv' := [(6, .int y53), (8, .int y47), (7, .int y14), (5, .int v6_5), (0, .ref (ad (64 * (i + 1) + 1))), (1, .int a0), (2, .int a1), (3, .ref (ad 19)), (4, .ref (ad 20))]) hx hb dX7_run_144 hl (k := 2) rfl (by rw [ey53]; rfl) (by decide) rfl (fun ls hl => ?_)
              refine lv_goto (tgt := 6) hx hb dX7_run_147 (by decide) ?_
              exact ih6 y53 v6_5 E6_ _ _ _ (iv_w iy53 (by decide)) (iv_w i52 (by decide)) (by first | exact ms_su hx6_0 ty53 (by decide) | omega) hI hKp hP hS (lv_sub hl [0, 3, 4, 5, 6, 7, 8] rfl)
            · --77 not
              have t54 : (1 : Int) < v6_5.toInt := ti_nle c50
              have i55 : 2 ≤ v6_5.toInt ∧ v6_5.toInt ≤ 200 := iv_lt_r t54 (il_ 1) hv6_5 (by decide)
              obtain ⟨y56, ey56⟩ : ∃ y : Int32, y = v6_5 + (-1 : Int32) := ⟨_, rfl⟩
              obtain ⟨ty56, iy56⟩ := ti_add (e := 1) (f := 199) i55 ln_m1 ey56 (by decide)
              have ty56 : y56.toInt = v6_5.toInt + (-1) := ty56
              have iy56 : 1 ≤ y56.toInt ∧ y56.toInt ≤ 199 := iy56
              refine lv_iinc (v := y56) (lv' := [(5, .int y56), (8, .int y47), (7, .int y14), (6, .int v6_6), (0, .ref (ad (64 * (i + 1) + 1))), (1, .int a0), (2, .int a1), (3, .ref (ad 19)), (4, .ref (ad 20))]) hx hb dX7_run_80 hl (k := 3) rfl (by rw [ey56]; rfl) (by decide) rfl (fun ls hl => ?_)
              refine lv_aload hx hb dX7_run_83 (lv_at hl 8 rfl) ?_
              refine lv_iload hx hb dX7_run_85 (lv_at hl 0 rfl) ?_
              refine lv_iconst (v := 1) hx hb dX7_run_87 (by decide) ?_
              refine lv_isub hx hb dX7_run_88 ?_
              refine lv_topi (fun y57 ey57 => ?_)
              obtain ⟨ty57, iy57⟩ := ti_sub (e := 0) (f := 198) iy56 ln_1 ey57 (by decide)
              have ty57 : y57.toInt = y56.toInt - 1 := ty57
              have iy57 : 0 ≤ y57.toInt ∧ y57.toInt ≤ 198 := iy57
              refine lv_iload hx hb dX7_run_89 (lv_at hl 1 rfl) ?_
              refine lv_aload hx hb dX7_run_91 (lv_at hl 8 rfl) ?_
              refine lv_iload hx hb dX7_run_93 (lv_at hl 0 rfl) ?_
              refine lv_iconst (v := 1) hx hb dX7_run_95 (by decide) ?_
              refine lv_isub hx hb dX7_run_96 ?_
              refine lv_topi (fun y58 ey58 => ?_)
              obtain ⟨ty58, iy58⟩ := ti_sub (e := 0) (f := 198) iy56 ln_1 ey58 (by decide)
              have ty58 : y58.toInt = y56.toInt - 1 := ty58
              have iy58 : 0 ≤ y58.toInt ∧ y58.toInt ≤ 198 := iy58
              have n60 : vp_in y58 200 := (iv_in (n := 200) iy58 (by decide))
              refine th_ialdL hx hb hK hP hI 20 (mF 20 rfl) rfl rfl n60 dX7_run_97 (fun y59 ey59 => ?_)
              refine lv_aload hx hb dX7_run_98 (lv_at hl 8 rfl) ?_
              refine lv_iload hx hb dX7_run_100 (lv_at hl 0 rfl) ?_
              have n62 : vp_in y56 200 := (iv_in (n := 200) iy56 (by decide))
              refine th_ialdL hx hb hK hP hI 20 (mF 20 rfl) rfl rfl n62 dX7_run_102 (fun y61 ey61 => ?_)
              refine th_pi (va_runS (As := [.int y47, .int y59, .int y61]) (rest := [.int y57, .ref (ad 20)]) ⟨hx, hb, hml, hown, hts⟩ (q_cjoin l y47 y59 y61) (va_cwS 3 hts (gi_S (in_7 _ (zs4 (zs4 (zs4 (zs1 (zs1 (zs1 (zs0)))))))) (in_7 _ (zs16 (zs0))) (in_7 _ (zs1 (zs1 (zs0)))) (in_7 _ (zs16 (zs1 (zs0))))) rfl rfl rfl hz_yX7_join_3 ⟨Nat.le_of_ble_eq_true rfl, Nat.le_of_ble_eq_true rfl⟩) ⟨fun _ _ _ _ q => q, fun _ _ _ => ⟨rfl, trivial⟩⟩ rfl rfl hl.1 rfl (lv_room (Nat.le_of_ble_eq_true rfl)) dX7_run_103 ⟨Nat.le_of_ble_eq_true rfl, Nat.le_of_ble_eq_true rfl⟩) hS (fun r63 H1 locs1 hw hk1 hS => ?_)
              have hP := ub_keep hP hk1
              generalize H1 = H at hP hS ⊢
              generalize locs1 = locs at hS ⊢
              have n64 : vp_in y57 200 := (iv_in (n := 200) iy57 (by decide))
              refine th_iastL hx hb hK hP (WL_D hD) hS hI 20 (mF 20 rfl) rfl rfl n64 (okI rfl (iv_all _)) dX7_run_106 (fun H locs E65 pw66 hI hP hS => ?_)
              have hKp := hKp.pw pw66 rfl
              refine lv_goto (tgt := 144) hx hb dX7_run_107 (by decide) ?_
              obtain ⟨y67, ey67⟩ : ∃ y : Int32, y = v6_6 + (1 : Int32) := ⟨_, rfl⟩
              obtain ⟨ty67, iy67⟩ := ti_add (e := 1) (f := 200) i12 ln_1 ey67 (by decide)
              have ty67 : y67.toInt = v6_6.toInt + 1 := ty67
              have iy67 : 1 ≤ y67.toInt ∧ y67.toInt ≤ 200 := iy67
              refine lv_iinc (v := y67) (lv' := [(6, .int y67), (5, .int y56), (8, .int y47), (7, .int y14), (0, .ref (ad (64 * (i + 1) + 1))), (1, .int a0), (2, .int a1), (3, .ref (ad 19)), (4, .ref (ad 20))]) hx hb dX7_run_144 hl (k := 3) rfl (by rw [ey67]; rfl) (by decide) rfl (fun ls hl => ?_)
              refine lv_goto (tgt := 6) hx hb dX7_run_147 (by decide) ?_
              exact ih6 y67 y56 E65 _ _ _ (iv_w iy67 (by decide)) (iv_w iy56 (by decide)) (by first | exact ms_su hx6_0 ty67 (by decide) | omega) hI hKp hP hS (lv_sub hl [0, 1, 4, 5, 6, 7, 8] rfl)
          · --41 not
            have t68 : y47.toInt = 33 := ti_eq c48
            have i69 : 33 ≤ y47.toInt ∧ y47.toInt ≤ 33 := iv_eqi t68 iy47 (il_ 33) (by decide)
            refine lv_iload hx hb dX7_run_44 (lv_at hl 3 rfl) ?_
            refine lv_if_le (tgt := 107) hx hb dX7_run_46 (by decide) (fun c70 => ?_) (fun c70 => ?_)
            · --46 taken
              have t71 : v6_5.toInt ≤ 0 := ti_le c70
              have i72 : 0 ≤ v6_5.toInt ∧ v6_5.toInt ≤ 0 := iv_le_l t71 hv6_5 (il_ 0) (by decide)
              refine lv_goto (tgt := 144) hx hb dX7_run_107 (by decide) ?_
              obtain ⟨y73, ey73⟩ : ∃ y : Int32, y = v6_6 + (1 : Int32) := ⟨_, rfl⟩
              obtain ⟨ty73, iy73⟩ := ti_add (e := 1) (f := 200) i12 ln_1 ey73 (by decide)
              have ty73 : y73.toInt = v6_6.toInt + 1 := ty73
              have iy73 : 1 ≤ y73.toInt ∧ y73.toInt ≤ 200 := iy73
              refine lv_iinc (v := y73) (lv' := [(6, .int y73), (8, .int y47), (7, .int y14), (5, .int v6_5), (0, .ref (ad (64 * (i + 1) + 1))), (1, .int a0), (2, .int a1), (3, .ref (ad 19)), (4, .ref (ad 20))]) hx hb dX7_run_144 hl (k := 2) rfl (by rw [ey73]; rfl) (by decide) rfl (fun ls hl => ?_)
              refine lv_goto (tgt := 6) hx hb dX7_run_147 (by decide) ?_
              exact ih6 y73 v6_5 E6_ _ _ _ (iv_w iy73 (by decide)) (iv_w i72 (by decide)) (by first | exact ms_su hx6_0 ty73 (by decide) | omega) hI hKp hP hS (lv_sub hl [0, 3, 4, 5, 6, 7, 8] rfl)
            · --46 not
              have t74 : (0 : Int) < v6_5.toInt := ti_nle c70
              have i75 : 1 ≤ v6_5.toInt ∧ v6_5.toInt ≤ 200 := iv_lt_r t74 (il_ 0) hv6_5 (by decide)
              refine lv_aload hx hb dX7_run_49 (lv_at hl 8 rfl) ?_
              refine lv_iload hx hb dX7_run_51 (lv_at hl 3 rfl) ?_
              refine lv_iconst (v := 1) hx hb dX7_run_53 (by decide) ?_
              refine lv_isub hx hb dX7_run_54 ?_
              refine lv_topi (fun y76 ey76 => ?_)
              obtain ⟨ty76, iy76⟩ := ti_sub (e := 0) (f := 199) i75 ln_1 ey76 (by decide)
              have ty76 : y76.toInt = v6_5.toInt - 1 := ty76
              have iy76 : 0 ≤ y76.toInt ∧ y76.toInt ≤ 199 := iy76
              refine lv_aload hx hb dX7_run_55 (lv_at hl 8 rfl) ?_
              refine lv_iload hx hb dX7_run_57 (lv_at hl 3 rfl) ?_
              refine lv_iconst (v := 1) hx hb dX7_run_59 (by decide) ?_
              refine lv_isub hx hb dX7_run_60 ?_
              refine lv_topi (fun y77 ey77 => ?_)
              obtain ⟨ty77, iy77⟩ := ti_sub (e := 0) (f := 199) i75 ln_1 ey77 (by decide)
              have ty77 : y77.toInt = v6_5.toInt - 1 := ty77
              have iy77 : 0 ≤ y77.toInt ∧ y77.toInt ≤ 199 := iy77
              have n79 : vp_in y77 200 := (iv_in (n := 200) iy77 (by decide))
              refine th_ialdL hx hb hK hP hI 20 (mF 20 rfl) rfl rfl n79 dX7_run_61 (fun y78 ey78 => ?_)
              have hJ70 : ∀ (s70_0 : Int32) (H : Heap) (locs : List Loc) (ls : Array Slot), 0 ≤ s70_0.toInt ∧ s70_0.toInt ≤ 1 → va_P (dC, dI) vwCl (WL (LC cf) ad E6_) H → va_S A s.heap H locs → lv_has ls 9 [(8, .int y47), (7, .int y14), (6, .int v6_6), (5, .int v6_5), (0, .ref (ad (64 * (i + 1) + 1))), (1, .int a0), (2, .int a1), (3, .ref (ad 19)), (4, .ref (ad 20))] → W p l e (headSpec v_run rm_run).room s m args below meth c H locs 0 0 Q (F0 m 70 ls [.int s70_0, .int y76, .ref (ad 20)]) := by
                intro s70_0 H locs ls hs70_0 hP hS hl
                have n80 : vp_in y76 200 := (iv_in (n := 200) iy76 (by decide))
                refine th_iastL hx hb hK hP (WL_D hD) hS hI 20 (mF 20 rfl) rfl rfl n80 (okI rfl (iv_w hs70_0 (by decide))) dX7_run_70 (fun H locs E81 pw82 hI hP hS => ?_)
                have hKp := hKp.pw pw82 rfl
                refine lv_goto (tgt := 107) hx hb dX7_run_71 (by decide) ?_
                refine lv_goto (tgt := 144) hx hb dX7_run_107 (by decide) ?_
                obtain ⟨y83, ey83⟩ : ∃ y : Int32, y = v6_6 + (1 : Int32) := ⟨_, rfl⟩
                obtain ⟨ty83, iy83⟩ := ti_add (e := 1) (f := 200) i12 ln_1 ey83 (by decide)
                have ty83 : y83.toInt = v6_6.toInt + 1 := ty83
                have iy83 : 1 ≤ y83.toInt ∧ y83.toInt ≤ 200 := iy83
                refine lv_iinc (v := y83) (lv' := [(6, .int y83), (8, .int y47), (7, .int y14), (5, .int v6_5), (0, .ref (ad (64 * (i + 1) + 1))), (1, .int a0), (2, .int a1), (3, .ref (ad 19)), (4, .ref (ad 20))]) hx hb dX7_run_144 hl (k := 2) rfl (by rw [ey83]; rfl) (by decide) rfl (fun ls hl => ?_)
                refine lv_goto (tgt := 6) hx hb dX7_run_147 (by decide) ?_
                exact ih6 y83 v6_5 E81 _ _ _ (iv_w iy83 (by decide)) (iv_w i75 (by decide)) (by first | exact ms_su hx6_0 ty83 (by decide) | omega) hI hKp hP hS (lv_sub hl [0, 3, 4, 5, 6, 7, 8] rfl)
              refine lv_if_ne (tgt := 69) hx hb dX7_run_62 (by decide) (fun c84 => ?_) (fun c84 => ?_)
              · --62 taken
                have t85 : ¬ y78.toInt = 0 := ti_ne c84
                refine lv_iconst (v := 0) hx hb dX7_run_69 (by decide) ?_
                exact hJ70 (0 : Int32) _ _ _ (iv_w ln_0 (by decide)) hP hS (lv_sub hl [0, 1, 2, 3, 4, 5, 6, 7, 8] rfl)
              · --62 not
                have t86 : y78.toInt = 0 := ti_eq c84
                have i87 : 0 ≤ y78.toInt ∧ y78.toInt ≤ 0 := iv_eqi t86 (iv_all _) (il_ 0) (by decide)
                refine lv_iconst (v := 1) hx hb dX7_run_65 (by decide) ?_
                refine lv_goto (tgt := 70) hx hb dX7_run_66 (by decide) ?_
                exact hJ70 (1 : Int32) _ _ _ (iv_w ln_1 (by decide)) hP hS (lv_sub hl [0, 1, 2, 3, 4, 5, 6, 7, 8] rfl)
  exact hL6 (201) a0 (0 : Int32) E _ _ _ hh1 (iv_w ln_0 (by decide)) (by have h9 := hh1; first | exact ms_bu h9.1 (by decide) | omega) hI hKp hP hS (lv_sub hl [0, 1, 2, 3, 4, 5, 6] rfl)
def v_worthOf : List Cond := .code yX7_worthOf cX7_worthOf 6 (some .int) :: vA
abbrev rm_worthOf : Room := { frames := 2, cells := 0, slots := 0, locals := 80 }
def w_worthOf : Nat → Nat → Bool := wl [20] []
set_option maxHeartbeats 4000000 in
set_option maxRecDepth 100000 in
theorem q_worthOf (l : Launch) (dC : Nat → ClassId) (dI : Nat → Nat → Nat) (cT : Nat → ClassId) (cf : Nat → Nat) (hC : CF cf) (ad : Nat → Nat) (E : Nat → va_E) (sz : Nat) (a0 : Int32) (i : Nat) (hI0 : IXL cT (shC cf) (spC cf) (LC cf) ad E) (hh0 : i < cf 1) : Met l yX7_worthOf v_worthOf rm_worthOf (va_Pc [.ref (ad (64 * (i + 1) + 1)), .int a0, .ref (ad 19), .ref (ad 20)] (HWL dC dI (TYC cT) cf ad E sz)) (va_Qi (S := Nat → va_E) (fun r u => IXL cT (shC cf) (spC cf) (LC cf) ad u ∧ Kp w_worthOf E u ∧ (True)) (HBL dC dI (LC cf) ad) (va_A (WL (LC cf) ad E) sz)) 0 0 (va_A (WL (LC cf) ad E) sz) := by
  obtain ⟨⟨hc0, hc1, hc2, hc3, hc4, hc5⟩, hcr⟩ := id hC
  refine Met.ofW (cc := cX7_worthOf) (maxL := 6) (ret := (some .int)) (by decide) rfl ?_
  intro p e s m args below meth c s₁ B hml hv
  obtain ⟨hargs, hsz, hP, hK, hD0, hEV⟩ := hv
  subst hsz
  have hx := B.exec
  have hb := B.bytes
  have hr := B.returns
  have hts := atoms_spec (ws := v_worthOf) B.pre
  have hown : s.vm.findClass RX7 = some m.cls := findClass_of_methodNamed B.named
  have hlocks := B.notSynchronized
  have hinX7 : ∀ w ∈ u_ws RX7 TX7 6, w ∈ v_worthOf := fun w h => vA_in _ w (in_X7 w h)
  generalize hAe : va_A (WL (LC cf) ad E) s.heap.size = A at hEV ⊢
  have hA : ∀ q : Nat, s.heap.size ≤ q → A q := fun q h => by rw [← hAe]; exact Or.inr h
  have hD : va_D A (WL (LC cf) ad E) := by rw [← hAe]; exact hD0.self
  have hS : va_S A s.heap s.heap [] := va_S.rf
  have hI := hI0
  have hKp : Kp w_worthOf E E := Kp.rf
  have hl := lv_entry ([.ref (ad (64 * (i + 1) + 1)), .int a0, .ref (ad 19), .ref (ad 20)]) (n := 6) (Nat.le_of_ble_eq_true rfl)
  obtain ⟨Q, hQ⟩ : ∃ Q, Q = MQ below (va_Qi (S := Nat → va_E) (fun r u => IXL cT (shC cf) (spC cf) (LC cf) ad u ∧ Kp w_worthOf E u ∧ (True)) (HBL dC dI (LC cf) ad) (A)) args s 0 0 (A) := ⟨_, rfl⟩
  rw [← hQ, show entryFrame m args 6 = _ from (congrArg (fun z => entryFrame m z 6) hargs).trans (lg_entry_eq _ _ _)]
  generalize (lg_sl ([.ref (ad (64 * (i + 1) + 1)), .int a0, .ref (ad 19), .ref (ad 20)]) ++ List.replicate (6 - (lg_sl ([.ref (ad (64 * (i + 1) + 1)), .int a0, .ref (ad 19), .ref (ad 20)])).length) Slot.unset).toArray = ls at hl ⊢
  have hl : lv_has ls 6 [(0, .ref (ad (64 * (i + 1) + 1))), (1, .int a0), (2, .ref (ad 19)), (3, .ref (ad 20))] := hl
  refine lv_iconst (v := 0) hx hb dX7_worthOf_0 (by decide) ?_
  refine lv_istore (lv' := [(4, .int 0), (0, .ref (ad (64 * (i + 1) + 1))), (1, .int a0), (2, .ref (ad 19)), (3, .ref (ad 20))]) hx hb dX7_worthOf_1 hl (by decide) rfl (fun ls hl => ?_)
  have hL3 : ∀ d : Nat, ∀ (v3_4 : Int32) (E3_ : Nat → va_E) (H : Heap) (locs : List Loc) (ls : Array Slot), 0 ≤ v3_4.toInt ∧ v3_4.toInt ≤ 200 → 200 - v3_4.toInt < (d : Int) → IXL cT (shC cf) (spC cf) (LC cf) ad E3_ → Kp w_worthOf E E3_ → va_P (dC, dI) vwCl (WL (LC cf) ad E3_) H → va_S A s.heap H locs → lv_has ls 6 [(4, .int v3_4), (0, .ref (ad (64 * (i + 1) + 1))), (1, .int a0), (2, .ref (ad 19)), (3, .ref (ad 20))] → W p l e (headSpec v_worthOf rm_worthOf).room s m args below meth c H locs 0 0 Q (F0 m 3 ls []) := by
    intro d
    induction d with
    | zero =>
      intro v3_4 E3_ H locs ls hv3_4 hx3_0 hI hKp hP hS hl
      exact absurd hx3_0 (by first | exact ms_zu hv3_4.2 | omega)
    | succ d ih3 =>
      intro v3_4 E3_ H locs ls hv3_4 hx3_0 hI hKp hP hS hl
      refine lv_iload hx hb dX7_worthOf_3 (lv_at hl 0 rfl) ?_
      refine lv_aload_n hx hb dX7_worthOf_5 rfl (lv_at hl 1 rfl) ?_
      refine th_getL (ci := 8) (C := RX7) (T := TX7) (N := 6) (v := .ref (ad (64 * (i + 1) + 3))) hx hb hts hinX7 hown hK hP hI (64 * (i + 1) + 1) (mP 1 i (by decide) hh0 (kl_le hC 1 (by decide))) (shC_p 1 i (by decide)) rfl 3 (Nat.le_of_ble_eq_true rfl) (hts _ (vA_in _ _ (in_7 _ (zs4 (zs0))))) (fun _ h9 => h9) (hI.fr (64 * (i + 1) + 1) (mP 1 i (by decide) hh0 (kl_le hC 1 (by decide))) (shC_p 1 i (by decide)) (Nat.le_of_ble_eq_true rfl) (64 * (i + 1) + 3) (spC_p 1 i (by decide) 3)) dX7_worthOf_6 ?_
      refine va_alen (v := nI (cf (8 + 2 * i))) hx hb hK hP (posL (64 * (i + 1) + 3) (LC cf)) 0 (hI.ar (64 * (i + 1) + 3) (mP 3 i (by decide) hh0 (kl_le hC 1 (by decide))) (shC_p 3 i (by decide))) rfl rfl dX7_worthOf_9 ?_
      refine lv_topi (fun y1 ey1 => ?_)
      have ty1 : y1.toInt = ((cf (8 + 2 * i) : Nat) : Int) := by rw [ey1]; exact nI_toInt (by have h9 := hcr i; omega)
      have iy1 : 0 ≤ y1.toInt ∧ y1.toInt ≤ 200 := by have h9 := hcr i; omega
      refine lv_icmp_ge (tgt := 108) hx hb dX7_worthOf_10 (by decide) (fun c2 => ?_) (fun c2 => ?_)
      · --10 taken
        have t3 : y1.toInt ≤ v3_4.toInt := ti_le c2
        refine lv_iload_n hx hb dX7_worthOf_108 rfl (lv_at hl 2 rfl) ?_
        refine lv_bipush (v := 110) hx hb dX7_worthOf_109 (by decide) ?_
        refine lv_icmp_ne (tgt := 120) hx hb dX7_worthOf_111 (by decide) (fun c4 => ?_) (fun c4 => ?_)
        · --111 taken
          have t5 : ¬ a0.toInt = 110 := ti_ne c4
          refine lv_iconst (v := 0) hx hb dX7_worthOf_120 (by decide) ?_
          rw [hQ]
          exact W.iret (v := 0) hx hb hr (fun t ht hW => ⟨⟨0, E3_, rfl, ⟨hI, hKp, trivial⟩, by show va_P (dC, dI) vwCl (WL (LC cf) ad E3_) t.heap; rw [ht]; exact hP⟩, hS.F ht⟩) hS.2.2 dX7_worthOf_121
        · --111 not
          have t6 : a0.toInt = 110 := ti_eq c4
          have i7 : 110 ≤ a0.toInt ∧ a0.toInt ≤ 110 := iv_eqi t6 (iv_all _) (il_ 110) (by decide)
          refine lv_sipush (v := 1000) hx hb dX7_worthOf_114 (by decide) ?_
          refine lv_goto (tgt := 121) hx hb dX7_worthOf_117 (by decide) ?_
          rw [hQ]
          exact W.iret (v := 1000) hx hb hr (fun t ht hW => ⟨⟨1000, E3_, rfl, ⟨hI, hKp, trivial⟩, by show va_P (dC, dI) vwCl (WL (LC cf) ad E3_) t.heap; rw [ht]; exact hP⟩, hS.F ht⟩) hS.2.2 dX7_worthOf_121
      · --10 not
        have t8 : v3_4.toInt < y1.toInt := ti_nle c2
        have i9 : 0 ≤ v3_4.toInt ∧ v3_4.toInt ≤ 199 := iv_lt_l t8 hv3_4 iy1 (by decide)
        have i10 : 1 ≤ y1.toInt ∧ y1.toInt ≤ 200 := iv_lt_r t8 hv3_4 iy1 (by decide)
        refine lv_aload_n hx hb dX7_worthOf_13 rfl (lv_at hl 1 rfl) ?_
        refine th_getL (ci := 8) (C := RX7) (T := TX7) (N := 6) (v := .ref (ad (64 * (i + 1) + 3))) hx hb hts hinX7 hown hK hP hI (64 * (i + 1) + 1) (mP 1 i (by decide) hh0 (kl_le hC 1 (by decide))) (shC_p 1 i (by decide)) rfl 3 (Nat.le_of_ble_eq_true rfl) (hts _ (vA_in _ _ (in_7 _ (zs4 (zs0))))) (fun _ h9 => h9) (hI.fr (64 * (i + 1) + 1) (mP 1 i (by decide) hh0 (kl_le hC 1 (by decide))) (shC_p 1 i (by decide)) (Nat.le_of_ble_eq_true rfl) (64 * (i + 1) + 3) (spC_p 1 i (by decide) 3)) dX7_worthOf_14 ?_
        refine lv_iload hx hb dX7_worthOf_17 (lv_at hl 0 rfl) ?_
        have n12 : vp_in v3_4 (cf (8 + 2 * i)) := (vp_in_iff.mpr ⟨by omega, by omega⟩)
        refine th_ialdL hx hb hK hP hI (64 * (i + 1) + 3) (mP 3 i (by decide) hh0 (kl_le hC 1 (by decide))) (shC_p 3 i (by decide)) rfl n12 dX7_worthOf_19 (fun y11 ey11 => ?_)
        have iy11 : 0 ≤ y11.toInt ∧ y11.toInt ≤ 255 := hI.el (64 * (i + 1) + 3) (mP 3 i (by decide) hh0 (kl_le hC 1 (by decide))) (shC_p 3 i (by decide)) n12 (fun j9 => spC_p 3 i (by decide) j9) ey11
        have ey11 := ey11.trans (hKp.ei (64 * (i + 1) + 3) _ (wl_p rfl rfl (by omega)))
        refine lv_iload_n hx hb dX7_worthOf_20 rfl (lv_at hl 2 rfl) ?_
        refine lv_icmp_eq (tgt := 27) hx hb dX7_worthOf_21 (by decide) (fun c13 => ?_) (fun c13 => ?_)
        · --21 taken
          have t14 : y11.toInt = a0.toInt := ti_eq c13
          have i15 : 0 ≤ a0.toInt ∧ a0.toInt ≤ 255 := iv_eqi t14.symm (iv_all _) iy11 (by decide)
          refine lv_aload_n hx hb dX7_worthOf_27 rfl (lv_at hl 1 rfl) ?_
          refine th_getL (ci := 8) (C := RX7) (T := TX7) (N := 6) (v := .ref (ad (64 * (i + 1) + 5))) hx hb hts hinX7 hown hK hP hI (64 * (i + 1) + 1) (mP 1 i (by decide) hh0 (kl_le hC 1 (by decide))) (shC_p 1 i (by decide)) rfl 5 (Nat.le_of_ble_eq_true rfl) (hts _ (vA_in _ _ (in_7 _ (zs4 (zs1 (zs0)))))) (fun _ h9 => h9) (hI.fr (64 * (i + 1) + 1) (mP 1 i (by decide) hh0 (kl_le hC 1 (by decide))) (shC_p 1 i (by decide)) (Nat.le_of_ble_eq_true rfl) (64 * (i + 1) + 5) (spC_p 1 i (by decide) 5)) dX7_worthOf_28 ?_
          refine lv_iload hx hb dX7_worthOf_31 (lv_at hl 0 rfl) ?_
          have n17 : vp_in v3_4 (cf (8 + 2 * i)) := (vp_in_iff.mpr ⟨by omega, by omega⟩)
          refine th_ialdL hx hb hK hP hI (64 * (i + 1) + 5) (mP 5 i (by decide) hh0 (kl_le hC 1 (by decide))) (shC_p 5 i (by decide)) rfl n17 dX7_worthOf_33 (fun y16 ey16 => ?_)
          have jy16 : 0 ≤ y16.toInt ∧ y16.toInt ≤ ((cf (9 + 2 * i) : Nat) : Int) := hI.el (64 * (i + 1) + 5) (mP 5 i (by decide) hh0 (kl_le hC 1 (by decide))) (shC_p 5 i (by decide)) n17 (fun j9 => spC_p 5 i (by decide) j9) ey16
          have iy16 : 0 ≤ y16.toInt ∧ y16.toInt ≤ 200 := by have h9 := hcr i; omega
          have ey16 := ey16.trans (hKp.ei (64 * (i + 1) + 5) _ (wl_p rfl rfl (by omega)))
          refine lv_aload_n hx hb dX7_worthOf_34 rfl (lv_at hl 1 rfl) ?_
          refine th_getL (ci := 8) (C := RX7) (T := TX7) (N := 6) (v := .ref (ad (64 * (i + 1) + 4))) hx hb hts hinX7 hown hK hP hI (64 * (i + 1) + 1) (mP 1 i (by decide) hh0 (kl_le hC 1 (by decide))) (shC_p 1 i (by decide)) rfl 4 (Nat.le_of_ble_eq_true rfl) (hts _ (vA_in _ _ (in_7 _ (zs4 (zs1 (zs1 (zs0))))))) (fun _ h9 => h9) (hI.fr (64 * (i + 1) + 1) (mP 1 i (by decide) hh0 (kl_le hC 1 (by decide))) (shC_p 1 i (by decide)) (Nat.le_of_ble_eq_true rfl) (64 * (i + 1) + 4) (spC_p 1 i (by decide) 4)) dX7_worthOf_35 ?_
          refine lv_iload hx hb dX7_worthOf_38 (lv_at hl 0 rfl) ?_
          have n19 : vp_in v3_4 (cf (8 + 2 * i) + 1) := (vp_in_iff.mpr ⟨by omega, by omega⟩)
          refine th_ialdL hx hb hK hP hI (64 * (i + 1) + 4) (mP 4 i (by decide) hh0 (kl_le hC 1 (by decide))) (shC_p 4 i (by decide)) rfl n19 dX7_worthOf_40 (fun y18 ey18 => ?_)
          have jy18 : 0 ≤ y18.toInt ∧ y18.toInt ≤ ((cf (9 + 2 * i) : Nat) : Int) := hI.el (64 * (i + 1) + 4) (mP 4 i (by decide) hh0 (kl_le hC 1 (by decide))) (shC_p 4 i (by decide)) n19 (fun j9 => spC_p 4 i (by decide) j9) ey18
          have iy18 : 0 ≤ y18.toInt ∧ y18.toInt ≤ 200 := by have h9 := hcr i; omega
          have ey18 := ey18.trans (hKp.ei (64 * (i + 1) + 4) _ (wl_p rfl rfl (by omega)))
          have hJ72 : ∀ (s72_0 : Int32) (E72_ : Nat → va_E) (H : Heap) (locs : List Loc) (ls : Array Slot), 0 ≤ s72_0.toInt ∧ s72_0.toInt ≤ 1 → IXL cT (shC cf) (spC cf) (LC cf) ad E72_ → Kp w_worthOf E E72_ → va_P (dC, dI) vwCl (WL (LC cf) ad E72_) H → va_S A s.heap H locs → lv_has ls 6 [(4, .int v3_4), (0, .ref (ad (64 * (i + 1) + 1))), (1, .int a0), (2, .ref (ad 19)), (3, .ref (ad 20))] → W p l e (headSpec v_worthOf rm_worthOf).room s m args below meth c H locs 0 0 Q (F0 m 72 ls [.int s72_0]) := by
            intro s72_0 E72_ H locs ls hs72_0 hI hKp hP hS hl
            refine lv_istore (lv' := [(5, .int s72_0), (4, .int v3_4), (0, .ref (ad (64 * (i + 1) + 1))), (1, .int a0), (2, .ref (ad 19)), (3, .ref (ad 20))]) hx hb dX7_worthOf_72 hl (by decide) rfl (fun ls hl => ?_)
            refine lv_iload hx hb dX7_worthOf_74 (lv_at hl 0 rfl) ?_
            refine lv_if_eq (tgt := 102) hx hb dX7_worthOf_76 (by decide) (fun c20 => ?_) (fun c20 => ?_)
            · --76 taken
              have t21 : s72_0.toInt = 0 := ti_eq c20
              have i22 : 0 ≤ s72_0.toInt ∧ s72_0.toInt ≤ 0 := iv_eqi t21 hs72_0 (il_ 0) (by decide)
              obtain ⟨y23, ey23⟩ : ∃ y : Int32, y = v3_4 + (1 : Int32) := ⟨_, rfl⟩
              obtain ⟨ty23, iy23⟩ := ti_add (e := 1) (f := 200) i9 ln_1 ey23 (by decide)
              have ty23 : y23.toInt = v3_4.toInt + 1 := ty23
              have iy23 : 1 ≤ y23.toInt ∧ y23.toInt ≤ 200 := iy23
              refine lv_iinc (v := y23) (lv' := [(4, .int y23), (5, .int s72_0), (0, .ref (ad (64 * (i + 1) + 1))), (1, .int a0), (2, .ref (ad 19)), (3, .ref (ad 20))]) hx hb dX7_worthOf_102 hl (k := 1) rfl (by rw [ey23]; rfl) (by decide) rfl (fun ls hl => ?_)
              refine lv_goto (tgt := 3) hx hb dX7_worthOf_105 (by decide) ?_
              exact ih3 y23 E72_ _ _ _ (iv_w iy23 (by decide)) (by first | exact ms_su hx3_0 ty23 (by decide) | omega) hI hKp hP hS (lv_sub hl [0, 2, 3, 4, 5] rfl)
            · --76 not
              have t24 : ¬ s72_0.toInt = 0 := ti_ne c20
              have i25 : 1 ≤ s72_0.toInt ∧ s72_0.toInt ≤ 1 := iv_ne_l t24 hs72_0 (il_ 0)
              refine lv_aload_n hx hb dX7_worthOf_79 rfl (lv_at hl 2 rfl) ?_
              refine lv_aload_n hx hb dX7_worthOf_80 rfl (lv_at hl 2 rfl) ?_
              refine th_getL (ci := 8) (C := RX7) (T := TX7) (N := 6) (v := .ref (ad (64 * (i + 1) + 5))) hx hb hts hinX7 hown hK hP hI (64 * (i + 1) + 1) (mP 1 i (by decide) hh0 (kl_le hC 1 (by decide))) (shC_p 1 i (by decide)) rfl 5 (Nat.le_of_ble_eq_true rfl) (hts _ (vA_in _ _ (in_7 _ (zs4 (zs1 (zs0)))))) (fun _ h9 => h9) (hI.fr (64 * (i + 1) + 1) (mP 1 i (by decide) hh0 (kl_le hC 1 (by decide))) (shC_p 1 i (by decide)) (Nat.le_of_ble_eq_true rfl) (64 * (i + 1) + 5) (spC_p 1 i (by decide) 5)) dX7_worthOf_81 ?_
              refine lv_iload hx hb dX7_worthOf_84 (lv_at hl 1 rfl) ?_
              have n27 : vp_in v3_4 (cf (8 + 2 * i)) := (vp_in_iff.mpr ⟨by omega, by omega⟩)
              refine th_ialdL hx hb hK hP hI (64 * (i + 1) + 5) (mP 5 i (by decide) hh0 (kl_le hC 1 (by decide))) (shC_p 5 i (by decide)) rfl n27 dX7_worthOf_86 (fun y26 ey26 => ?_)
              have jy26 : 0 ≤ y26.toInt ∧ y26.toInt ≤ ((cf (9 + 2 * i) : Nat) : Int) := hI.el (64 * (i + 1) + 5) (mP 5 i (by decide) hh0 (kl_le hC 1 (by decide))) (shC_p 5 i (by decide)) n27 (fun j9 => spC_p 5 i (by decide) j9) ey26
              have iy26 : 0 ≤ y26.toInt ∧ y26.toInt ≤ 200 := by have h9 := hcr i; omega
              have ey26 := ey26.trans (hKp.ei (64 * (i + 1) + 5) _ (wl_p rfl rfl (by omega)))
              refine lv_aload_n hx hb dX7_worthOf_87 rfl (lv_at hl 2 rfl) ?_
              refine th_getL (ci := 8) (C := RX7) (T := TX7) (N := 6) (v := .ref (ad (64 * (i + 1) + 4))) hx hb hts hinX7 hown hK hP hI (64 * (i + 1) + 1) (mP 1 i (by decide) hh0 (kl_le hC 1 (by decide))) (shC_p 1 i (by decide)) rfl 4 (Nat.le_of_ble_eq_true rfl) (hts _ (vA_in _ _ (in_7 _ (zs4 (zs1 (zs1 (zs0))))))) (fun _ h9 => h9) (hI.fr (64 * (i + 1) + 1) (mP 1 i (by decide) hh0 (kl_le hC 1 (by decide))) (shC_p 1 i (by decide)) (Nat.le_of_ble_eq_true rfl) (64 * (i + 1) + 4) (spC_p 1 i (by decide) 4)) dX7_worthOf_88 ?_
              refine lv_iload hx hb dX7_worthOf_91 (lv_at hl 1 rfl) ?_
              refine lv_iconst (v := 1) hx hb dX7_worthOf_93 (by decide) ?_
              refine lv_iadd hx hb dX7_worthOf_94 ?_
              refine lv_topi (fun y28 ey28 => ?_)
              obtain ⟨ty28, iy28⟩ := ti_add (e := 1) (f := 200) i9 ln_1 ey28 (by decide)
              have ty28 : y28.toInt = v3_4.toInt + 1 := ty28
              have iy28 : 1 ≤ y28.toInt ∧ y28.toInt ≤ 200 := iy28
              have n30 : vp_in y28 (cf (8 + 2 * i) + 1) := (vp_in_iff.mpr ⟨by omega, by omega⟩)
              refine th_ialdL hx hb hK hP hI (64 * (i + 1) + 4) (mP 4 i (by decide) hh0 (kl_le hC 1 (by decide))) (shC_p 4 i (by decide)) rfl n30 dX7_worthOf_95 (fun y29 ey29 => ?_)
              have jy29 : 0 ≤ y29.toInt ∧ y29.toInt ≤ ((cf (9 + 2 * i) : Nat) : Int) := hI.el (64 * (i + 1) + 4) (mP 4 i (by decide) hh0 (kl_le hC 1 (by decide))) (shC_p 4 i (by decide)) n30 (fun j9 => spC_p 4 i (by decide) j9) ey29
              have iy29 : 0 ≤ y29.toInt ∧ y29.toInt ≤ 200 := by have h9 := hcr i; omega
              have ey29 := ey29.trans (hKp.ei (64 * (i + 1) + 4) _ (wl_p rfl rfl (by omega)))
              refine lv_aload_n hx hb dX7_worthOf_96 rfl (lv_at hl 4 rfl) ?_
              refine lv_aload_n hx hb dX7_worthOf_97 rfl (lv_at hl 5 rfl) ?_
              refine th_iL (va_runV (As := [.int y26, .int y29, .ref (ad 19), .ref (ad 20)]) (rest := []) ⟨hx, hb, hml, hown, hts⟩ (q_run l dC dI cT cf hC ad E72_ H.size y26 y29 i hI (by omega) iy26 iy29 (by omega)) (cwV 4 hts (gi_V (in_7 _ (zs4 (zs1 (zs1 (zs1 (zs0)))))) (in_7 _ (zs4 (zs4 (zs0)))) (in_7 _ (zs4 (zs4 (zs1 (zs0))))) (in_7 _ (zs1 (zs1 (zs0)))) (in_7 _ (zs4 (zs4 (zs1 (zs1 (zs0))))))) rfl rfl rfl ⟨rfl, hz_yX7_run_4⟩ ⟨Nat.le_of_ble_eq_true rfl, Nat.le_of_ble_eq_true rfl⟩) ⟨HWL_bl, va_recv hK hP (ci := 8) (q0 := posL (64 * (i + 1) + 1) (LC cf)) rfl (hI.ob (64 * (i + 1) + 1) (mP 1 i (by decide) hh0 (kl_le hC 1 (by decide))) (shC_p 1 i (by decide))), (HWL_wi hP hK (WL_D hD) hS hA hEV)⟩ rfl rfl hl.1 rfl (lv_room (Nat.le_of_ble_eq_true rfl)) dX7_worthOf_98 ⟨Nat.le_of_ble_eq_true rfl, Nat.le_of_ble_eq_true rfl⟩) (WL_D hD) hS hA (fun r31 E32 H locs hw hP hS => ?_)
              obtain ⟨hI, kq33, hw⟩ := hw
              have hKb := hKp
              have hKp := hKp.tr kq33 (wl_sub rfl rfl)
              rw [hQ]
              exact W.iret (v := r31) hx hb hr (fun t ht hW => ⟨⟨r31, E32, rfl, ⟨hI, hKp, trivial⟩, by show va_P (dC, dI) vwCl (WL (LC cf) ad E32) t.heap; rw [ht]; exact hP⟩, hS.F ht⟩) hS.2.2 dX7_worthOf_101
          refine lv_icmp_eq (tgt := 67) hx hb dX7_worthOf_41 (by decide) (fun c34 => ?_) (fun c34 => ?_)
          · --41 taken
            have t35 : y16.toInt = y18.toInt := ti_eq c34
            refine lv_iconst (v := 1) hx hb dX7_worthOf_67 (by decide) ?_
            refine lv_goto (tgt := 72) hx hb dX7_worthOf_68 (by decide) ?_
            exact hJ72 (1 : Int32) E3_ _ _ _ (iv_w ln_1 (by decide)) hI hKp hP hS (lv_sub hl [0, 1, 2, 3, 4] rfl)
          · --41 not
            have t36 : ¬ y16.toInt = y18.toInt := ti_ne c34
            refine lv_aload_n hx hb dX7_worthOf_44 rfl (lv_at hl 1 rfl) ?_
            refine lv_aload_n hx hb dX7_worthOf_45 rfl (lv_at hl 1 rfl) ?_
            refine th_getL (ci := 8) (C := RX7) (T := TX7) (N := 6) (v := .ref (ad (64 * (i + 1) + 4))) hx hb hts hinX7 hown hK hP hI (64 * (i + 1) + 1) (mP 1 i (by decide) hh0 (kl_le hC 1 (by decide))) (shC_p 1 i (by decide)) rfl 4 (Nat.le_of_ble_eq_true rfl) (hts _ (vA_in _ _ (in_7 _ (zs4 (zs1 (zs1 (zs0))))))) (fun _ h9 => h9) (hI.fr (64 * (i + 1) + 1) (mP 1 i (by decide) hh0 (kl_le hC 1 (by decide))) (shC_p 1 i (by decide)) (Nat.le_of_ble_eq_true rfl) (64 * (i + 1) + 4) (spC_p 1 i (by decide) 4)) dX7_worthOf_46 ?_
            refine lv_iload hx hb dX7_worthOf_49 (lv_at hl 0 rfl) ?_
            have n38 : vp_in v3_4 (cf (8 + 2 * i) + 1) := (vp_in_iff.mpr ⟨by omega, by omega⟩)
            refine th_ialdL hx hb hK hP hI (64 * (i + 1) + 4) (mP 4 i (by decide) hh0 (kl_le hC 1 (by decide))) (shC_p 4 i (by decide)) rfl n38 dX7_worthOf_51 (fun y37 ey37 => ?_)
            have jy37 : 0 ≤ y37.toInt ∧ y37.toInt ≤ ((cf (9 + 2 * i) : Nat) : Int) := hI.el (64 * (i + 1) + 4) (mP 4 i (by decide) hh0 (kl_le hC 1 (by decide))) (shC_p 4 i (by decide)) n38 (fun j9 => spC_p 4 i (by decide) j9) ey37
            have iy37 : 0 ≤ y37.toInt ∧ y37.toInt ≤ 200 := by have h9 := hcr i; omega
            have ey37 := ey37.trans (hKp.ei (64 * (i + 1) + 4) _ (wl_p rfl rfl (by omega)))
            refine lv_aload_n hx hb dX7_worthOf_52 rfl (lv_at hl 1 rfl) ?_
            refine th_getL (ci := 8) (C := RX7) (T := TX7) (N := 6) (v := .ref (ad (64 * (i + 1) + 5))) hx hb hts hinX7 hown hK hP hI (64 * (i + 1) + 1) (mP 1 i (by decide) hh0 (kl_le hC 1 (by decide))) (shC_p 1 i (by decide)) rfl 5 (Nat.le_of_ble_eq_true rfl) (hts _ (vA_in _ _ (in_7 _ (zs4 (zs1 (zs0)))))) (fun _ h9 => h9) (hI.fr (64 * (i + 1) + 1) (mP 1 i (by decide) hh0 (kl_le hC 1 (by decide))) (shC_p 1 i (by decide)) (Nat.le_of_ble_eq_true rfl) (64 * (i + 1) + 5) (spC_p 1 i (by decide) 5)) dX7_worthOf_53 ?_
            refine lv_iload hx hb dX7_worthOf_56 (lv_at hl 0 rfl) ?_
            have n40 : vp_in v3_4 (cf (8 + 2 * i)) := (vp_in_iff.mpr ⟨by omega, by omega⟩)
            refine th_ialdL hx hb hK hP hI (64 * (i + 1) + 5) (mP 5 i (by decide) hh0 (kl_le hC 1 (by decide))) (shC_p 5 i (by decide)) rfl n40 dX7_worthOf_58 (fun y39 ey39 => ?_)
            have jy39 : 0 ≤ y39.toInt ∧ y39.toInt ≤ ((cf (9 + 2 * i) : Nat) : Int) := hI.el (64 * (i + 1) + 5) (mP 5 i (by decide) hh0 (kl_le hC 1 (by decide))) (shC_p 5 i (by decide)) n40 (fun j9 => spC_p 5 i (by decide) j9) ey39
            have iy39 : 0 ≤ y39.toInt ∧ y39.toInt ≤ 200 := by have h9 := hcr i; omega
            have ey39 := ey39.trans (hKp.ei (64 * (i + 1) + 5) _ (wl_p rfl rfl (by omega)))
            refine lv_aload_n hx hb dX7_worthOf_59 rfl (lv_at hl 3 rfl) ?_
            refine lv_aload_n hx hb dX7_worthOf_60 rfl (lv_at hl 4 rfl) ?_
            refine th_iL (va_runV (As := [.int y37, .int y39, .ref (ad 19), .ref (ad 20)]) (rest := []) ⟨hx, hb, hml, hown, hts⟩ (q_run l dC dI cT cf hC ad E3_ H.size y37 y39 i hI (by omega) iy37 iy39 (by omega)) (cwV 4 hts (gi_V (in_7 _ (zs4 (zs1 (zs1 (zs1 (zs0)))))) (in_7 _ (zs4 (zs4 (zs0)))) (in_7 _ (zs4 (zs4 (zs1 (zs0))))) (in_7 _ (zs1 (zs1 (zs0)))) (in_7 _ (zs4 (zs4 (zs1 (zs1 (zs0))))))) rfl rfl rfl ⟨rfl, hz_yX7_run_4⟩ ⟨Nat.le_of_ble_eq_true rfl, Nat.le_of_ble_eq_true rfl⟩) ⟨HWL_bl, va_recv hK hP (ci := 8) (q0 := posL (64 * (i + 1) + 1) (LC cf)) rfl (hI.ob (64 * (i + 1) + 1) (mP 1 i (by decide) hh0 (kl_le hC 1 (by decide))) (shC_p 1 i (by decide))), (HWL_wi hP hK (WL_D hD) hS hA hEV)⟩ rfl rfl hl.1 rfl (lv_room (Nat.le_of_ble_eq_true rfl)) dX7_worthOf_61 ⟨Nat.le_of_ble_eq_true rfl, Nat.le_of_ble_eq_true rfl⟩) (WL_D hD) hS hA (fun r41 E42 H locs hw hP hS => ?_)
            obtain ⟨hI, kq43, hw⟩ := hw
            have hKb := hKp
            have hKp := hKp.tr kq43 (wl_sub rfl rfl)
            refine lv_if_eq (tgt := 71) hx hb dX7_worthOf_64 (by decide) (fun c44 => ?_) (fun c44 => ?_)
            · --64 taken
              have t45 : r41.toInt = 0 := ti_eq c44
              have i46 : 0 ≤ r41.toInt ∧ r41.toInt ≤ 0 := iv_eqi t45 (iv_all _) (il_ 0) (by decide)
              refine lv_iconst (v := 0) hx hb dX7_worthOf_71 (by decide) ?_
              exact hJ72 (0 : Int32) E42 _ _ _ (iv_w ln_0 (by decide)) hI hKp hP hS (lv_sub hl [0, 1, 2, 3, 4] rfl)
            · --64 not
              have t47 : ¬ r41.toInt = 0 := ti_ne c44
              refine lv_iconst (v := 1) hx hb dX7_worthOf_67 (by decide) ?_
              refine lv_goto (tgt := 72) hx hb dX7_worthOf_68 (by decide) ?_
              exact hJ72 (1 : Int32) E42 _ _ _ (iv_w ln_1 (by decide)) hI hKp hP hS (lv_sub hl [0, 1, 2, 3, 4] rfl)
        · --21 not
          have t48 : ¬ y11.toInt = a0.toInt := ti_ne c13
          refine lv_goto (tgt := 102) hx hb dX7_worthOf_24 (by decide) ?_
          obtain ⟨y49, ey49⟩ : ∃ y : Int32, y = v3_4 + (1 : Int32) := ⟨_, rfl⟩
          obtain ⟨ty49, iy49⟩ := ti_add (e := 1) (f := 200) i9 ln_1 ey49 (by decide)
          have ty49 : y49.toInt = v3_4.toInt + 1 := ty49
          have iy49 : 1 ≤ y49.toInt ∧ y49.toInt ≤ 200 := iy49
          refine lv_iinc (v := y49) (lv' := [(4, .int y49), (0, .ref (ad (64 * (i + 1) + 1))), (1, .int a0), (2, .ref (ad 19)), (3, .ref (ad 20))]) hx hb dX7_worthOf_102 hl (k := 0) rfl (by rw [ey49]; rfl) (by decide) rfl (fun ls hl => ?_)
          refine lv_goto (tgt := 3) hx hb dX7_worthOf_105 (by decide) ?_
          exact ih3 y49 E3_ _ _ _ (iv_w iy49 (by decide)) (by first | exact ms_su hx3_0 ty49 (by decide) | omega) hI hKp hP hS (lv_sub hl [0, 1, 2, 3, 4] rfl)
  exact hL3 (201) (0 : Int32) E _ _ _ (iv_w ln_0 (by decide)) (by have h9 := ln_0; first | exact ms_bu h9.1 (by decide) | omega) hI hKp hP hS (lv_sub hl [0, 1, 2, 3, 4] rfl)
def v_isKnownC : List Cond := .code yX0_isKnown cX0_isKnown 2 (some .boolean) :: vA
abbrev rm_isKnownC : Room := { frames := 1, cells := 0, slots := 0, locals := 40 }
set_option maxHeartbeats 4000000 in
set_option maxRecDepth 100000 in
theorem q_isKnownC (l : Launch) (dC : Nat → ClassId) (dI : Nat → Nat → Nat) (cT : Nat → ClassId) (cf : Nat → Nat) (hC : CF cf) (ad : Nat → Nat) (E : Nat → va_E) (sz : Nat) (a0 : Int32) (hI0 : IXL cT (shC cf) (spC cf) (LC cf) ad E)  : Met l yX0_isKnown v_isKnownC rm_isKnownC (va_Pc [.ref (ad 1), .int a0] (HWL dC dI (TYC cT) cf ad E sz)) (va_Qi (S := Unit) (fun r _ => (r = 1 ∧ (0 ≤ a0.toInt ∧ a0.toInt ≤ (xi (E 1) 0).toInt) ∧ (0 ≤ a0.toInt ∧ a0.toInt ≤ 400)) ∨ (r = 0 ∧ (¬ (0 ≤ a0.toInt ∧ a0.toInt ≤ (xi (E 1) 0).toInt)))) (fun _ _ => True) (fun _ => False)) 0 0 (fun _ => False) := by
  obtain ⟨⟨hc0, hc1, hc2, hc3, hc4, hc5⟩, hcr⟩ := id hC
  refine Met.ofW (cc := cX0_isKnown) (maxL := 2) (ret := (some .boolean)) (by decide) rfl ?_
  intro p e s m args below meth c s₁ B hml hv
  obtain ⟨hargs, hsz, hP, hK, hD0, hEV⟩ := hv
  subst hsz
  have hx := B.exec
  have hb := B.bytes
  have hr := B.returns
  have hts := atoms_spec (ws := v_isKnownC) B.pre
  have hown : s.vm.findClass RX0 = some m.cls := findClass_of_methodNamed B.named
  have hlocks := B.notSynchronized
  have hinX0 : ∀ w ∈ u_ws RX0 TX0 11, w ∈ v_isKnownC := fun w h => vA_in _ w (in_X0 w h)
  have hS : va_S (fun _ : Nat => False) s.heap s.heap [] := va_S.rf
  have hD := hD0
  have hI := hI0
  have hKp : Kp (wl [] []) E E := Kp.rf
  have hl := lv_entry ([.ref (ad 1), .int a0]) (n := 2) (Nat.le_of_ble_eq_true rfl)
  obtain ⟨Q, hQ⟩ : ∃ Q, Q = MQ below (va_Qi (S := Unit) (fun r _ => (r = 1 ∧ (0 ≤ a0.toInt ∧ a0.toInt ≤ (xi (E 1) 0).toInt) ∧ (0 ≤ a0.toInt ∧ a0.toInt ≤ 400)) ∨ (r = 0 ∧ (¬ (0 ≤ a0.toInt ∧ a0.toInt ≤ (xi (E 1) 0).toInt)))) (fun _ _ => True) (fun _ => False)) args s 0 0 (fun _ => False) := ⟨_, rfl⟩
  rw [← hQ, show entryFrame m args 2 = _ from (congrArg (fun z => entryFrame m z 2) hargs).trans (lg_entry_eq _ _ _)]
  generalize (lg_sl ([.ref (ad 1), .int a0]) ++ List.replicate (2 - (lg_sl ([.ref (ad 1), .int a0])).length) Slot.unset).toArray = ls at hl ⊢
  have hl : lv_has ls 2 [(0, .ref (ad 1)), (1, .int a0)] := hl
  refine lv_iload_n hx hb dX0_isKnown_0 rfl (lv_at hl 1 rfl) ?_
  refine lv_iconst (v := 0) hx hb dX0_isKnown_1 (by decide) ?_
  refine lv_aload_n hx hb dX0_isKnown_2 rfl (lv_at hl 0 rfl) ?_
  have i1 : 0 ≤ (xi (E 1) 0).toInt ∧ (xi (E 1) 0).toInt ≤ 400 := hI0.iv 1 (mF 1 rfl) rfl (Nat.le_of_ble_eq_true rfl) rfl
  refine th_getL (ci := 1) (C := RX0) (T := TX0) (N := 11) (v := .int (xi (E 1) 0)) hx hb hts hinX0 hown hK hP hI 1 (mF 1 rfl) rfl rfl 0 (Nat.le_of_ble_eq_true rfl) (hts _ (vA_in _ _ (in_5 _ (zs1 (zs1 (zs0)))))) (fun _ h9 => h9) (th_v0L hKp hI0 1 (mF 1 rfl) rfl (Nat.le_of_ble_eq_true rfl) rfl rfl) dX0_isKnown_3 ?_
  refine th_pi (va_runSN (As := [.int a0, .int 0, .int (xi (E 1) 0)]) (rest := []) ⟨hx, hb, hml, hown, hts⟩ (q_cwithin l a0 (0 : Int32) (xi (E 1) 0)) ⟨va_cnB 3 hts (gi_0 (in_4 _ (zs16 (zs4 (zs4 (zs0)))))) rfl rfl rfl (hEV.1.1 _ (List.mem_of_getElem? (i := 3) rfl)) (hts _ (vA_in _ _ (in_4 _ (zs16 (zs4 (zs1 (zs1 (zs1 (zs0))))))))) hz_yX12_within_3 ⟨Nat.le_of_ble_eq_true rfl, Nat.le_of_ble_eq_true rfl⟩, (hts _ (vA_in _ _ (in_4 _ (zs16 (zs4 (zs1 (zs1 (zs0)))))))), trivial⟩ ⟨fun _ _ _ _ q => q, fun _ _ _ => ⟨rfl, trivial⟩⟩ rfl rfl hl.1 rfl (lv_room (Nat.le_of_ble_eq_true rfl)) dX0_isKnown_6 ⟨Nat.le_of_ble_eq_true rfl, Nat.le_of_ble_eq_true rfl⟩) hS (fun r2 H1 locs1 hw hk1 hS => ?_)
  have hP := ub_keep hP hk1
  generalize H1 = H at hP hS ⊢
  generalize locs1 = locs at hS ⊢
  rcases hw with hw | hw
  · -- cwithin, case 0
    obtain ⟨rfl, f3⟩ := hw
    have t4 : (0 : Int) ≤ a0.toInt := f3.1
    have t5 : a0.toInt ≤ (xi (E 1) 0).toInt := f3.2
    have i6 : 0 ≤ a0.toInt ∧ a0.toInt ≤ 2147483647 := iv_le_r t4 (il_ 0) (iv_all _) (by decide)
    have i7 : 0 ≤ a0.toInt ∧ a0.toInt ≤ 400 := iv_le_l t5 i6 i1 (by decide)
    rw [hQ]
    exact W.zret (v := 1) hx hb hr rfl (fun t ht hW => ⟨⟨1, (), rfl, Or.inl ⟨rfl, by have h8 := ln_1; all_goals omega, i7⟩, trivial⟩, hS.F ht⟩) hS.2.2 dX0_isKnown_9
  · -- cwithin, case 1
    obtain ⟨rfl, f8⟩ := hw
    have t9 : ¬ ((0 : Int) ≤ a0.toInt ∧ a0.toInt ≤ (xi (E 1) 0).toInt) := f8
    rw [hQ]
    exact W.zret (v := 0) hx hb hr rfl (fun t ht hW => ⟨⟨0, (), rfl, Or.inr (⟨rfl, by have h8 := ln_0; all_goals omega⟩), trivial⟩, hS.F ht⟩) hS.2.2 dX0_isKnown_9
def v_isBoatC : List Cond := .code yX0_isBoat cX0_isBoat 2 (some .boolean) :: vA
abbrev rm_isBoatC : Room := { frames := 1, cells := 0, slots := 0, locals := 40 }
set_option maxHeartbeats 4000000 in
set_option maxRecDepth 100000 in
theorem q_isBoatC (l : Launch) (dC : Nat → ClassId) (dI : Nat → Nat → Nat) (cT : Nat → ClassId) (cf : Nat → Nat) (hC : CF cf) (ad : Nat → Nat) (E : Nat → va_E) (sz : Nat) (a0 : Int32) (hI0 : IXL cT (shC cf) (spC cf) (LC cf) ad E)  : Met l yX0_isBoat v_isBoatC rm_isBoatC (va_Pc [.ref (ad 1), .int a0] (HWL dC dI (TYC cT) cf ad E sz)) (va_Qi (S := Unit) (fun r _ => (r = 1 ∧ (0 ≤ a0.toInt ∧ a0.toInt < (xi (E 1) 1).toInt) ∧ (0 ≤ a0.toInt ∧ a0.toInt ≤ 15)) ∨ (r = 0 ∧ (¬ (0 ≤ a0.toInt ∧ a0.toInt < (xi (E 1) 1).toInt)))) (fun _ _ => True) (fun _ => False)) 0 0 (fun _ => False) := by
  obtain ⟨⟨hc0, hc1, hc2, hc3, hc4, hc5⟩, hcr⟩ := id hC
  refine Met.ofW (cc := cX0_isBoat) (maxL := 2) (ret := (some .boolean)) (by decide) rfl ?_
  intro p e s m args below meth c s₁ B hml hv
  obtain ⟨hargs, hsz, hP, hK, hD0, hEV⟩ := hv
  subst hsz
  have hx := B.exec
  have hb := B.bytes
  have hr := B.returns
  have hts := atoms_spec (ws := v_isBoatC) B.pre
  have hown : s.vm.findClass RX0 = some m.cls := findClass_of_methodNamed B.named
  have hlocks := B.notSynchronized
  have hinX0 : ∀ w ∈ u_ws RX0 TX0 11, w ∈ v_isBoatC := fun w h => vA_in _ w (in_X0 w h)
  have hS : va_S (fun _ : Nat => False) s.heap s.heap [] := va_S.rf
  have hD := hD0
  have hI := hI0
  have hKp : Kp (wl [] []) E E := Kp.rf
  have hl := lv_entry ([.ref (ad 1), .int a0]) (n := 2) (Nat.le_of_ble_eq_true rfl)
  obtain ⟨Q, hQ⟩ : ∃ Q, Q = MQ below (va_Qi (S := Unit) (fun r _ => (r = 1 ∧ (0 ≤ a0.toInt ∧ a0.toInt < (xi (E 1) 1).toInt) ∧ (0 ≤ a0.toInt ∧ a0.toInt ≤ 15)) ∨ (r = 0 ∧ (¬ (0 ≤ a0.toInt ∧ a0.toInt < (xi (E 1) 1).toInt)))) (fun _ _ => True) (fun _ => False)) args s 0 0 (fun _ => False) := ⟨_, rfl⟩
  rw [← hQ, show entryFrame m args 2 = _ from (congrArg (fun z => entryFrame m z 2) hargs).trans (lg_entry_eq _ _ _)]
  generalize (lg_sl ([.ref (ad 1), .int a0]) ++ List.replicate (2 - (lg_sl ([.ref (ad 1), .int a0])).length) Slot.unset).toArray = ls at hl ⊢
  have hl : lv_has ls 2 [(0, .ref (ad 1)), (1, .int a0)] := hl
  refine lv_iload_n hx hb dX0_isBoat_0 rfl (lv_at hl 1 rfl) ?_
  refine lv_iconst (v := 0) hx hb dX0_isBoat_1 (by decide) ?_
  refine lv_aload_n hx hb dX0_isBoat_2 rfl (lv_at hl 0 rfl) ?_
  have i1 : 0 ≤ (xi (E 1) 1).toInt ∧ (xi (E 1) 1).toInt ≤ 16 := hI0.iv 1 (mF 1 rfl) rfl (Nat.le_of_ble_eq_true rfl) rfl
  refine th_getL (ci := 1) (C := RX0) (T := TX0) (N := 11) (v := .int (xi (E 1) 1)) hx hb hts hinX0 hown hK hP hI 1 (mF 1 rfl) rfl rfl 1 (Nat.le_of_ble_eq_true rfl) (hts _ (vA_in _ _ (in_4 _ (zs16 (zs4 (zs1 (zs0))))))) (fun _ h9 => h9) (th_v0L hKp hI0 1 (mF 1 rfl) rfl (Nat.le_of_ble_eq_true rfl) rfl rfl) dX0_isBoat_3 ?_
  refine lv_iconst (v := 1) hx hb dX0_isBoat_6 (by decide) ?_
  refine lv_isub hx hb dX0_isBoat_7 ?_
  refine lv_topi (fun y2 ey2 => ?_)
  obtain ⟨ty2, iy2⟩ := ti_sub (e := (-1)) (f := 15) i1 ln_1 ey2 (by decide)
  have ty2 : y2.toInt = (xi (E 1) 1).toInt - 1 := ty2
  have iy2 : -1 ≤ y2.toInt ∧ y2.toInt ≤ 15 := iy2
  refine th_pi (va_runSN (As := [.int a0, .int 0, .int y2]) (rest := []) ⟨hx, hb, hml, hown, hts⟩ (q_cwithin l a0 (0 : Int32) y2) ⟨va_cnB 3 hts (gi_0 (in_4 _ (zs16 (zs4 (zs4 (zs0)))))) rfl rfl rfl (hEV.1.1 _ (List.mem_of_getElem? (i := 3) rfl)) (hts _ (vA_in _ _ (in_4 _ (zs16 (zs4 (zs1 (zs1 (zs1 (zs0))))))))) hz_yX12_within_3 ⟨Nat.le_of_ble_eq_true rfl, Nat.le_of_ble_eq_true rfl⟩, (hts _ (vA_in _ _ (in_4 _ (zs16 (zs4 (zs1 (zs1 (zs0)))))))), trivial⟩ ⟨fun _ _ _ _ q => q, fun _ _ _ => ⟨rfl, trivial⟩⟩ rfl rfl hl.1 rfl (lv_room (Nat.le_of_ble_eq_true rfl)) dX0_isBoat_8 ⟨Nat.le_of_ble_eq_true rfl, Nat.le_of_ble_eq_true rfl⟩) hS (fun r3 H1 locs1 hw hk1 hS => ?_)
  have hP := ub_keep hP hk1
  generalize H1 = H at hP hS ⊢
  generalize locs1 = locs at hS ⊢
  rcases hw with hw | hw
  · -- cwithin, case 0
    obtain ⟨rfl, f4⟩ := hw
    have t5 : (0 : Int) ≤ a0.toInt := f4.1
    have t6 : a0.toInt ≤ y2.toInt := f4.2
    have i7 : 0 ≤ a0.toInt ∧ a0.toInt ≤ 2147483647 := iv_le_r t5 (il_ 0) (iv_all _) (by decide)
    have i8 : 0 ≤ a0.toInt ∧ a0.toInt ≤ 15 := iv_le_l t6 i7 iy2 (by decide)
    have i9 : 0 ≤ y2.toInt ∧ y2.toInt ≤ 15 := iv_le_r t6 i7 iy2 (by decide)
    rw [hQ]
    exact W.zret (v := 1) hx hb hr rfl (fun t ht hW => ⟨⟨1, (), rfl, Or.inl ⟨rfl, by have h8 := ln_1; all_goals omega, i8⟩, trivial⟩, hS.F ht⟩) hS.2.2 dX0_isBoat_11
  · -- cwithin, case 1
    obtain ⟨rfl, f10⟩ := hw
    have t11 : ¬ ((0 : Int) ≤ a0.toInt ∧ a0.toInt ≤ y2.toInt) := f10
    rw [hQ]
    exact W.zret (v := 0) hx hb hr rfl (fun t ht hW => ⟨⟨0, (), rfl, Or.inr (⟨rfl, by have h8 := ln_0; all_goals omega⟩), trivial⟩, hS.F ht⟩) hS.2.2 dX0_isBoat_11
def v_isRaceC : List Cond := .code yX0_isRace cX0_isRace 2 (some .boolean) :: vA
abbrev rm_isRaceC : Room := { frames := 1, cells := 0, slots := 0, locals := 40 }
set_option maxHeartbeats 4000000 in
set_option maxRecDepth 100000 in
theorem q_isRaceC (l : Launch) (dC : Nat → ClassId) (dI : Nat → Nat → Nat) (cT : Nat → ClassId) (cf : Nat → Nat) (hC : CF cf) (ad : Nat → Nat) (E : Nat → va_E) (sz : Nat) (a0 : Int32) (hI0 : IXL cT (shC cf) (spC cf) (LC cf) ad E)  : Met l yX0_isRace v_isRaceC rm_isRaceC (va_Pc [.ref (ad 1), .int a0] (HWL dC dI (TYC cT) cf ad E sz)) (va_Qi (S := Unit) (fun r _ => (r = 1 ∧ (0 ≤ a0.toInt ∧ a0.toInt < ((cf 2 : Nat) : Int)) ∧ (0 ≤ a0.toInt ∧ a0.toInt ≤ 19)) ∨ (r = 0 ∧ (¬ (0 ≤ a0.toInt ∧ a0.toInt < ((cf 2 : Nat) : Int))))) (fun _ _ => True) (fun _ => False)) 0 0 (fun _ => False) := by
  obtain ⟨⟨hc0, hc1, hc2, hc3, hc4, hc5⟩, hcr⟩ := id hC
  refine Met.ofW (cc := cX0_isRace) (maxL := 2) (ret := (some .boolean)) (by decide) rfl ?_
  intro p e s m args below meth c s₁ B hml hv
  obtain ⟨hargs, hsz, hP, hK, hD0, hEV⟩ := hv
  subst hsz
  have hx := B.exec
  have hb := B.bytes
  have hr := B.returns
  have hts := atoms_spec (ws := v_isRaceC) B.pre
  have hown : s.vm.findClass RX0 = some m.cls := findClass_of_methodNamed B.named
  have hlocks := B.notSynchronized
  have hinX0 : ∀ w ∈ u_ws RX0 TX0 11, w ∈ v_isRaceC := fun w h => vA_in _ w (in_X0 w h)
  have hS : va_S (fun _ : Nat => False) s.heap s.heap [] := va_S.rf
  have hD := hD0
  have hI := hI0
  have hKp : Kp (wl [] []) E E := Kp.rf
  have hl := lv_entry ([.ref (ad 1), .int a0]) (n := 2) (Nat.le_of_ble_eq_true rfl)
  obtain ⟨Q, hQ⟩ : ∃ Q, Q = MQ below (va_Qi (S := Unit) (fun r _ => (r = 1 ∧ (0 ≤ a0.toInt ∧ a0.toInt < ((cf 2 : Nat) : Int)) ∧ (0 ≤ a0.toInt ∧ a0.toInt ≤ 19)) ∨ (r = 0 ∧ (¬ (0 ≤ a0.toInt ∧ a0.toInt < ((cf 2 : Nat) : Int))))) (fun _ _ => True) (fun _ => False)) args s 0 0 (fun _ => False) := ⟨_, rfl⟩
  rw [← hQ, show entryFrame m args 2 = _ from (congrArg (fun z => entryFrame m z 2) hargs).trans (lg_entry_eq _ _ _)]
  generalize (lg_sl ([.ref (ad 1), .int a0]) ++ List.replicate (2 - (lg_sl ([.ref (ad 1), .int a0])).length) Slot.unset).toArray = ls at hl ⊢
  have hl : lv_has ls 2 [(0, .ref (ad 1)), (1, .int a0)] := hl
  refine lv_iload_n hx hb dX0_isRace_0 rfl (lv_at hl 1 rfl) ?_
  refine lv_iconst (v := 0) hx hb dX0_isRace_1 (by decide) ?_
  refine lv_aload_n hx hb dX0_isRace_2 rfl (lv_at hl 0 rfl) ?_
  refine th_getL (ci := 1) (C := RX0) (T := TX0) (N := 11) (v := .ref (ad 9)) hx hb hts hinX0 hown hK hP hI 1 (mF 1 rfl) rfl rfl 5 (Nat.le_of_ble_eq_true rfl) (hts _ (vA_in _ _ (in_5 _ (zs1 (zs0))))) (fun _ h9 => h9) (hI.fr 1 (mF 1 rfl) rfl (Nat.le_of_ble_eq_true rfl) 9 rfl) dX0_isRace_3 ?_
  refine th_riL (va_runV (As := []) (rest := [.int 0, .int a0]) ⟨hx, hb, hml, hown, hts⟩ (q_size2 l dC dI cT cf hC ad E s.heap.size hI) (cwV 0 hts (gi_V (in_4 _ (zs16 (zs16 (zs1 (zs1 (zs0)))))) (in_4 _ (zs16 (zs16 (zs1 (zs1 (zs1 (zs0))))))) (in_4 _ (zs16 (zs16 (zs4 (zs0))))) (in_3 _ (zs16 (zs1 (zs1 (zs0))))) (in_4 _ (zs16 (zs1 (zs1 (zs1 (zs0))))))) rfl rfl rfl ⟨rfl, hz_yJx4a65c_size_8abf5_0⟩ ⟨Nat.le_of_ble_eq_true rfl, Nat.le_of_ble_eq_true rfl⟩) ⟨HWL_bl, va_recv hK hP (ci := 0) (q0 := posL 9 (LC cf)) rfl (hI.ob 9 (mF 9 rfl) rfl), (HWL_wiR hP hK (WL_D hD) hS hEV)⟩ rfl rfl hl.1 rfl (lv_room (Nat.le_of_ble_eq_true rfl)) dX0_isRace_6 ⟨Nat.le_of_ble_eq_true rfl, Nat.le_of_ble_eq_true rfl⟩) hS hP (fun r1 H locs hw hP hS => ?_)
  obtain ⟨f2, f3⟩ := hw
  refine lv_iconst (v := 1) hx hb dX0_isRace_9 (by decide) ?_
  refine lv_isub hx hb dX0_isRace_10 ?_
  refine lv_topi (fun y4 ey4 => ?_)
  obtain ⟨ty4, iy4⟩ := ti_sub (e := (-1)) (f := 19) f2 ln_1 ey4 (by decide)
  have ty4 : y4.toInt = r1.toInt - 1 := ty4
  have iy4 : -1 ≤ y4.toInt ∧ y4.toInt ≤ 19 := iy4
  refine th_pi (va_runSN (As := [.int a0, .int 0, .int y4]) (rest := []) ⟨hx, hb, hml, hown, hts⟩ (q_cwithin l a0 (0 : Int32) y4) ⟨va_cnB 3 hts (gi_0 (in_4 _ (zs16 (zs4 (zs4 (zs0)))))) rfl rfl rfl (hEV.1.1 _ (List.mem_of_getElem? (i := 3) rfl)) (hts _ (vA_in _ _ (in_4 _ (zs16 (zs4 (zs1 (zs1 (zs1 (zs0))))))))) hz_yX12_within_3 ⟨Nat.le_of_ble_eq_true rfl, Nat.le_of_ble_eq_true rfl⟩, (hts _ (vA_in _ _ (in_4 _ (zs16 (zs4 (zs1 (zs1 (zs0)))))))), trivial⟩ ⟨fun _ _ _ _ q => q, fun _ _ _ => ⟨rfl, trivial⟩⟩ rfl rfl hl.1 rfl (lv_room (Nat.le_of_ble_eq_true rfl)) dX0_isRace_11 ⟨Nat.le_of_ble_eq_true rfl, Nat.le_of_ble_eq_true rfl⟩) hS (fun r5 H1 locs1 hw hk1 hS => ?_)
  have hP := ub_keep hP hk1
  generalize H1 = H at hP hS ⊢
  generalize locs1 = locs at hS ⊢
  rcases hw with hw | hw
  · -- cwithin, case 0
    obtain ⟨rfl, f6⟩ := hw
    have t7 : (0 : Int) ≤ a0.toInt := f6.1
    have t8 : a0.toInt ≤ y4.toInt := f6.2
    have i9 : 0 ≤ a0.toInt ∧ a0.toInt ≤ 2147483647 := iv_le_r t7 (il_ 0) (iv_all _) (by decide)
    have i10 : 0 ≤ a0.toInt ∧ a0.toInt ≤ 19 := iv_le_l t8 i9 iy4 (by decide)
    have i11 : 0 ≤ y4.toInt ∧ y4.toInt ≤ 19 := iv_le_r t8 i9 iy4 (by decide)
    rw [hQ]
    exact W.zret (v := 1) hx hb hr rfl (fun t ht hW => ⟨⟨1, (), rfl, Or.inl ⟨rfl, by have h8 := ln_1; all_goals omega, i10⟩, trivial⟩, hS.F ht⟩) hS.2.2 dX0_isRace_14
  · -- cwithin, case 1
    obtain ⟨rfl, f12⟩ := hw
    have t13 : ¬ ((0 : Int) ≤ a0.toInt ∧ a0.toInt ≤ y4.toInt) := f12
    rw [hQ]
    exact W.zret (v := 0) hx hb hr rfl (fun t ht hW => ⟨⟨0, (), rfl, Or.inr (⟨rfl, by have h8 := ln_0; all_goals omega⟩), trivial⟩, hS.F ht⟩) hS.2.2 dX0_isRace_14
def v_isCountedC : List Cond := .code yX0_isCounted cX0_isCounted 3 (some .boolean) :: vA
abbrev rm_isCountedC : Room := { frames := 3, cells := 0, slots := 0, locals := 120 }
set_option maxHeartbeats 4000000 in
set_option maxRecDepth 100000 in
theorem q_isCountedC (l : Launch) (dC : Nat → ClassId) (dI : Nat → Nat → Nat) (cT : Nat → ClassId) (cf : Nat → Nat) (hC : CF cf) (ad : Nat → Nat) (E : Nat → va_E) (sz : Nat) (a0 : Int32) (a1 : Int32) (hI0 : IXL cT (shC cf) (spC cf) (LC cf) ad E)  : Met l yX0_isCounted v_isCountedC rm_isCountedC (va_Pc [.ref (ad 1), .int a0, .int a1] (HWL dC dI (TYC cT) cf ad E sz)) (va_Qi (S := Unit) (fun r _ => (r = 1 ∧ ((0 ≤ a1.toInt ∧ a1.toInt ≤ (xi (E 1) 0).toInt) ∧ (0 ≤ a0.toInt ∧ a0.toInt < ((cf 2 : Nat) : Int)) ∧ (xi (E (64 * (a0.toNatClampNeg + 1) + 6)) 0).toInt ≤ a1.toInt) ∧ (0 ≤ a0.toInt ∧ a0.toInt ≤ 19) ∧ (0 ≤ a1.toInt ∧ a1.toInt ≤ 400)) ∨ (r = 0 ∧ (¬ ((0 ≤ a1.toInt ∧ a1.toInt ≤ (xi (E 1) 0).toInt) ∧ (0 ≤ a0.toInt ∧ a0.toInt < ((cf 2 : Nat) : Int)) ∧ (xi (E (64 * (a0.toNatClampNeg + 1) + 6)) 0).toInt ≤ a1.toInt)))) (fun _ _ => True) (fun _ => False)) 0 0 (fun _ => False) := by
  obtain ⟨⟨hc0, hc1, hc2, hc3, hc4, hc5⟩, hcr⟩ := id hC
  refine Met.ofW (cc := cX0_isCounted) (maxL := 3) (ret := (some .boolean)) (by decide) rfl ?_
  intro p e s m args below meth c s₁ B hml hv
  obtain ⟨hargs, hsz, hP, hK, hD0, hEV⟩ := hv
  subst hsz
  have hx := B.exec
  have hb := B.bytes
  have hr := B.returns
  have hts := atoms_spec (ws := v_isCountedC) B.pre
  have hown : s.vm.findClass RX0 = some m.cls := findClass_of_methodNamed B.named
  have hlocks := B.notSynchronized
  have hinX0 : ∀ w ∈ u_ws RX0 TX0 11, w ∈ v_isCountedC := fun w h => vA_in _ w (in_X0 w h)
  have hinX5 : ∀ w ∈ u_ws RX5 TX5 12, w ∈ v_isCountedC := fun w h => vA_in _ w (in_X5 w h)
  have hS : va_S (fun _ : Nat => False) s.heap s.heap [] := va_S.rf
  have hD := hD0
  have hI := hI0
  have hKp : Kp (wl [] []) E E := Kp.rf
  have hl := lv_entry ([.ref (ad 1), .int a0, .int a1]) (n := 3) (Nat.le_of_ble_eq_true rfl)
  obtain ⟨Q, hQ⟩ : ∃ Q, Q = MQ below (va_Qi (S := Unit) (fun r _ => (r = 1 ∧ ((0 ≤ a1.toInt ∧ a1.toInt ≤ (xi (E 1) 0).toInt) ∧ (0 ≤ a0.toInt ∧ a0.toInt < ((cf 2 : Nat) : Int)) ∧ (xi (E (64 * (a0.toNatClampNeg + 1) + 6)) 0).toInt ≤ a1.toInt) ∧ (0 ≤ a0.toInt ∧ a0.toInt ≤ 19) ∧ (0 ≤ a1.toInt ∧ a1.toInt ≤ 400)) ∨ (r = 0 ∧ (¬ ((0 ≤ a1.toInt ∧ a1.toInt ≤ (xi (E 1) 0).toInt) ∧ (0 ≤ a0.toInt ∧ a0.toInt < ((cf 2 : Nat) : Int)) ∧ (xi (E (64 * (a0.toNatClampNeg + 1) + 6)) 0).toInt ≤ a1.toInt)))) (fun _ _ => True) (fun _ => False)) args s 0 0 (fun _ => False) := ⟨_, rfl⟩
  rw [← hQ, show entryFrame m args 3 = _ from (congrArg (fun z => entryFrame m z 3) hargs).trans (lg_entry_eq _ _ _)]
  generalize (lg_sl ([.ref (ad 1), .int a0, .int a1]) ++ List.replicate (3 - (lg_sl ([.ref (ad 1), .int a0, .int a1])).length) Slot.unset).toArray = ls at hl ⊢
  have hl : lv_has ls 3 [(0, .ref (ad 1)), (1, .int a0), (2, .int a1)] := hl
  refine lv_aload_n hx hb dX0_isCounted_0 rfl (lv_at hl 0 rfl) ?_
  refine lv_iload_n hx hb dX0_isCounted_1 rfl (lv_at hl 2 rfl) ?_
  refine th_riL (va_runV (As := [.int a1]) (rest := []) ⟨hx, hb, hml, hown, hts⟩ (q_isKnownC l dC dI cT cf hC ad E s.heap.size a1 hI) (cwV 1 hts (gi_V (in_6 _ (zs1 (zs1 (zs0)))) (in_6 _ (zs1 (zs1 (zs1 (zs0))))) (in_6 _ (zs4 (zs0))) (in_5 _ (zs4 (zs1 (zs1 (zs0))))) (in_6 _ (zs4 (zs1 (zs0))))) rfl rfl rfl ⟨rfl, hz_yX0_isKnown_1⟩ ⟨Nat.le_of_ble_eq_true rfl, Nat.le_of_ble_eq_true rfl⟩) ⟨HWL_bl, va_recv hK hP (ci := 1) (q0 := posL 1 (LC cf)) rfl (hI.ob 1 (mF 1 rfl) rfl), (HWL_wiR hP hK (WL_D hD) hS hEV)⟩ rfl rfl hl.1 rfl (lv_room (Nat.le_of_ble_eq_true rfl)) dX0_isCounted_2 ⟨Nat.le_of_ble_eq_true rfl, Nat.le_of_ble_eq_true rfl⟩) hS hP (fun r1 H locs hw hP hS => ?_)
  rcases hw with hw | hw
  · -- isKnownC, case 0
    obtain ⟨rfl, f2, f3⟩ := hw
    have i4 : 0 ≤ (xi (E 1) 0).toInt ∧ (xi (E 1) 0).toInt ≤ 400 := hI0.iv 1 (mF 1 rfl) rfl (Nat.le_of_ble_eq_true rfl) rfl
    refine lv_if_eq (tgt := 38) hx hb dX0_isCounted_5 (by decide) (fun c5 => ?_) (fun c5 => ?_)
    · --5 taken
      exact absurd c5 (by decide)
    · --5 not
      refine lv_aload_n hx hb dX0_isCounted_8 rfl (lv_at hl 0 rfl) ?_
      refine lv_iload_n hx hb dX0_isCounted_9 rfl (lv_at hl 1 rfl) ?_
      refine th_riL (va_runV (As := [.int a0]) (rest := []) ⟨hx, hb, hml, hown, hts⟩ (q_isRaceC l dC dI cT cf hC ad E H.size a0 hI) (cwV 1 hts (gi_V (in_6 _ (zs4 (zs1 (zs1 (zs0))))) (in_6 _ (zs4 (zs1 (zs1 (zs1 (zs0)))))) (in_6 _ (zs4 (zs4 (zs0)))) (in_5 _ (zs4 (zs1 (zs1 (zs0))))) (in_6 _ (zs4 (zs4 (zs1 (zs0)))))) rfl rfl rfl ⟨rfl, hz_yX0_isRace_1⟩ ⟨Nat.le_of_ble_eq_true rfl, Nat.le_of_ble_eq_true rfl⟩) ⟨HWL_bl, va_recv hK hP (ci := 1) (q0 := posL 1 (LC cf)) rfl (hI.ob 1 (mF 1 rfl) rfl), (HWL_wiR hP hK (WL_D hD) hS hEV)⟩ rfl rfl hl.1 rfl (lv_room (Nat.le_of_ble_eq_true rfl)) dX0_isCounted_10 ⟨Nat.le_of_ble_eq_true rfl, Nat.le_of_ble_eq_true rfl⟩) hS hP (fun r6 H locs hw hP hS => ?_)
      rcases hw with hw | hw
      · -- isRaceC, case 0
        obtain ⟨rfl, f7, f8⟩ := hw
        refine lv_if_eq (tgt := 38) hx hb dX0_isCounted_13 (by decide) (fun c9 => ?_) (fun c9 => ?_)
        · --13 taken
          exact absurd c9 (by decide)
        · --13 not
          refine lv_aload_n hx hb dX0_isCounted_16 rfl (lv_at hl 0 rfl) ?_
          refine th_getL (ci := 1) (C := RX0) (T := TX0) (N := 11) (v := .ref (ad 9)) hx hb hts hinX0 hown hK hP hI 1 (mF 1 rfl) rfl rfl 5 (Nat.le_of_ble_eq_true rfl) (hts _ (vA_in _ _ (in_5 _ (zs1 (zs0))))) (fun _ h9 => h9) (hI.fr 1 (mF 1 rfl) rfl (Nat.le_of_ble_eq_true rfl) 9 rfl) dX0_isCounted_17 ?_
          refine lv_iload_n hx hb dX0_isCounted_20 rfl (lv_at hl 1 rfl) ?_
          refine th_rrL (va_runV (As := [.int a0]) (rest := []) ⟨hx, hb, hml, hown, hts⟩ (q_get2 l dC dI cT cf hC ad E H.size a0 hI (by omega)) (cwV 1 hts (gi_V (in_4 _ (zs16 (zs16 (zs4 (zs1 (zs0)))))) (in_4 _ (zs16 (zs16 (zs4 (zs1 (zs1 (zs0))))))) (in_4 _ (zs16 (zs16 (zs4 (zs1 (zs1 (zs1 (zs0)))))))) (in_3 _ (zs16 (zs1 (zs1 (zs0))))) (in_3 _ (zs16 (zs16 (zs4 (zs1 (zs1 (zs1 (zs0))))))))) rfl rfl rfl ⟨rfl, hz_yJx4a65c_get_915e3_1⟩ ⟨Nat.le_of_ble_eq_true rfl, Nat.le_of_ble_eq_true rfl⟩) ⟨HWL_bl, va_recv hK hP (ci := 0) (q0 := posL 9 (LC cf)) rfl (hI.ob 9 (mF 9 rfl) rfl), (HWL_wiR hP hK (WL_D hD) hS hEV)⟩ rfl rfl hl.1 rfl (lv_room (Nat.le_of_ble_eq_true rfl)) dX0_isCounted_21 ⟨Nat.le_of_ble_eq_true rfl, Nat.le_of_ble_eq_true rfl⟩) hS hP (fun r10 H locs hw hP hS => ?_)
          obtain rfl := hw
          have lv11 : a0.toNatClampNeg < cf 2 := by rw [tn_]; omega
          refine va_castS (cC := dC 6) hx hb hown (hts _ (vA_in _ _ (in_6 _ zs0))) (hK.1 6 _ rfl).2 (va_recv hK hP (ci := 6) (q0 := posL (64 * (a0.toNatClampNeg + 1) + 6) (LC cf)) rfl (hI.ob (64 * (a0.toNatClampNeg + 1) + 6) (mP 6 a0.toNatClampNeg (by decide) lv11 (kl_le hC 2 (by decide))) (shC_p 6 a0.toNatClampNeg (by decide)))) dX0_isCounted_24 ?_
          have i12 : 0 ≤ (xi (E (64 * (a0.toNatClampNeg + 1) + 6)) 0).toInt ∧ (xi (E (64 * (a0.toNatClampNeg + 1) + 6)) 0).toInt ≤ 400 := hI0.iv (64 * (a0.toNatClampNeg + 1) + 6) (mP 6 a0.toNatClampNeg (by decide) lv11 (kl_le hC 2 (by decide))) (shC_p 6 a0.toNatClampNeg (by decide)) (Nat.le_of_ble_eq_true rfl) (spC_p 6 a0.toNatClampNeg (by decide) 0)
          refine th_getL (ci := 6) (C := RX5) (T := TX5) (N := 12) (v := .int (xi (E (64 * (a0.toNatClampNeg + 1) + 6)) 0)) hx hb hts hinX5 hown hK hP hI (64 * (a0.toNatClampNeg + 1) + 6) (mP 6 a0.toNatClampNeg (by decide) lv11 (kl_le hC 2 (by decide))) (shC_p 6 a0.toNatClampNeg (by decide)) rfl 0 (Nat.le_of_ble_eq_true rfl) (hts _ (vA_in _ _ (in_6 _ (zs1 (zs0))))) (fun _ h9 => h9) (th_v0L hKp hI0 (64 * (a0.toNatClampNeg + 1) + 6) (mP 6 a0.toNatClampNeg (by decide) lv11 (kl_le hC 2 (by decide))) (shC_p 6 a0.toNatClampNeg (by decide)) (Nat.le_of_ble_eq_true rfl) (spC_p 6 a0.toNatClampNeg (by decide) 0) (wl_p rfl rfl (by omega))) dX0_isCounted_27 ?_
          refine lv_iload_n hx hb dX0_isCounted_30 rfl (lv_at hl 2 rfl) ?_
          refine lv_icmp_gt (tgt := 38) hx hb dX0_isCounted_31 (by decide) (fun c13 => ?_) (fun c13 => ?_)
          · --31 taken
            have t14 : a1.toInt < (xi (E (64 * (a0.toNatClampNeg + 1) + 6)) 0).toInt := ti_lt c13
            have i15 : 0 ≤ a1.toInt ∧ a1.toInt ≤ 399 := iv_lt_l t14 f3 i12 (by decide)
            have i16 : 1 ≤ (xi (E (64 * (a0.toNatClampNeg + 1) + 6)) 0).toInt ∧ (xi (E (64 * (a0.toNatClampNeg + 1) + 6)) 0).toInt ≤ 400 := iv_lt_r t14 f3 i12 (by decide)
            refine lv_iconst (v := 0) hx hb dX0_isCounted_38 (by decide) ?_
            rw [hQ]
            exact W.zret (v := 0) hx hb hr rfl (fun t ht hW => ⟨⟨0, (), rfl, Or.inr (⟨rfl, by have h8 := ln_0; all_goals omega⟩), trivial⟩, hS.F ht⟩) hS.2.2 dX0_isCounted_39
          · --31 not
            have t17 : (xi (E (64 * (a0.toNatClampNeg + 1) + 6)) 0).toInt ≤ a1.toInt := ti_nlt c13
            refine lv_iconst (v := 1) hx hb dX0_isCounted_34 (by decide) ?_
            refine lv_goto (tgt := 39) hx hb dX0_isCounted_35 (by decide) ?_
            rw [hQ]
            exact W.zret (v := 1) hx hb hr rfl (fun t ht hW => ⟨⟨1, (), rfl, Or.inl ⟨rfl, by have h8 := ln_1; all_goals omega, f8, f3⟩, trivial⟩, hS.F ht⟩) hS.2.2 dX0_isCounted_39
      · -- isRaceC, case 1
        obtain ⟨rfl, f18⟩ := hw
        refine lv_if_eq (tgt := 38) hx hb dX0_isCounted_13 (by decide) (fun c19 => ?_) (fun c19 => ?_)
        · --13 taken
          refine lv_iconst (v := 0) hx hb dX0_isCounted_38 (by decide) ?_
          rw [hQ]
          exact W.zret (v := 0) hx hb hr rfl (fun t ht hW => ⟨⟨0, (), rfl, Or.inr (⟨rfl, by have h8 := ln_0; all_goals omega⟩), trivial⟩, hS.F ht⟩) hS.2.2 dX0_isCounted_39
        · --13 not
          exact absurd c19 (by decide)
  · -- isKnownC, case 1
    obtain ⟨rfl, f20⟩ := hw
    have i21 : 0 ≤ (xi (E 1) 0).toInt ∧ (xi (E 1) 0).toInt ≤ 400 := hI0.iv 1 (mF 1 rfl) rfl (Nat.le_of_ble_eq_true rfl) rfl
    refine lv_if_eq (tgt := 38) hx hb dX0_isCounted_5 (by decide) (fun c22 => ?_) (fun c22 => ?_)
    · --5 taken
      refine lv_iconst (v := 0) hx hb dX0_isCounted_38 (by decide) ?_
      rw [hQ]
      exact W.zret (v := 0) hx hb hr rfl (fun t ht hW => ⟨⟨0, (), rfl, Or.inr (⟨rfl, by have h8 := ln_0; all_goals omega⟩), trivial⟩, hS.F ht⟩) hS.2.2 dX0_isCounted_39
    · --5 not
      exact absurd c22 (by decide)
def v_isEnteredC : List Cond := .code yX0_isEntered cX0_isEntered 3 (some .boolean) :: vA
abbrev rm_isEnteredC : Room := { frames := 3, cells := 0, slots := 0, locals := 120 }
set_option maxHeartbeats 4000000 in
set_option maxRecDepth 100000 in
theorem q_isEnteredC (l : Launch) (dC : Nat → ClassId) (dI : Nat → Nat → Nat) (cT : Nat → ClassId) (cf : Nat → Nat) (hC : CF cf) (ad : Nat → Nat) (E : Nat → va_E) (sz : Nat) (a0 : Int32) (a1 : Int32) (hI0 : IXL cT (shC cf) (spC cf) (LC cf) ad E)  : Met l yX0_isEntered v_isEnteredC rm_isEnteredC (va_Pc [.ref (ad 1), .int a0, .int a1] (HWL dC dI (TYC cT) cf ad E sz)) (va_Qi (S := Unit) (fun r _ => (r = 1 ∧ ((0 ≤ a0.toInt ∧ a0.toInt < ((cf 2 : Nat) : Int)) ∧ (0 ≤ a1.toInt ∧ a1.toInt < (xi (E 1) 1).toInt) ∧ (¬ (xi (E (64 * (a0.toNatClampNeg + 1) + 7)) a1.toNatClampNeg).toInt = -1 ∧ (xi (E (64 * (a0.toNatClampNeg + 1) + 7)) a1.toNatClampNeg).toInt ≤ (xi (E 1) 0).toInt)) ∧ (0 ≤ a0.toInt ∧ a0.toInt ≤ 19) ∧ (0 ≤ a1.toInt ∧ a1.toInt ≤ 15)) ∨ (r = 0 ∧ (¬ ((0 ≤ a0.toInt ∧ a0.toInt < ((cf 2 : Nat) : Int)) ∧ (0 ≤ a1.toInt ∧ a1.toInt < (xi (E 1) 1).toInt) ∧ (¬ (xi (E (64 * (a0.toNatClampNeg + 1) + 7)) a1.toNatClampNeg).toInt = -1 ∧ (xi (E (64 * (a0.toNatClampNeg + 1) + 7)) a1.toNatClampNeg).toInt ≤ (xi (E 1) 0).toInt))))) (fun _ _ => True) (fun _ => False)) 0 0 (fun _ => False) := by
  obtain ⟨⟨hc0, hc1, hc2, hc3, hc4, hc5⟩, hcr⟩ := id hC
  refine Met.ofW (cc := cX0_isEntered) (maxL := 3) (ret := (some .boolean)) (by decide) rfl ?_
  intro p e s m args below meth c s₁ B hml hv
  obtain ⟨hargs, hsz, hP, hK, hD0, hEV⟩ := hv
  subst hsz
  have hx := B.exec
  have hb := B.bytes
  have hr := B.returns
  have hts := atoms_spec (ws := v_isEnteredC) B.pre
  have hown : s.vm.findClass RX0 = some m.cls := findClass_of_methodNamed B.named
  have hlocks := B.notSynchronized
  have hinX0 : ∀ w ∈ u_ws RX0 TX0 11, w ∈ v_isEnteredC := fun w h => vA_in _ w (in_X0 w h)
  have hS : va_S (fun _ : Nat => False) s.heap s.heap [] := va_S.rf
  have hD := hD0
  have hI := hI0
  have hKp : Kp (wl [] []) E E := Kp.rf
  have hl := lv_entry ([.ref (ad 1), .int a0, .int a1]) (n := 3) (Nat.le_of_ble_eq_true rfl)
  obtain ⟨Q, hQ⟩ : ∃ Q, Q = MQ below (va_Qi (S := Unit) (fun r _ => (r = 1 ∧ ((0 ≤ a0.toInt ∧ a0.toInt < ((cf 2 : Nat) : Int)) ∧ (0 ≤ a1.toInt ∧ a1.toInt < (xi (E 1) 1).toInt) ∧ (¬ (xi (E (64 * (a0.toNatClampNeg + 1) + 7)) a1.toNatClampNeg).toInt = -1 ∧ (xi (E (64 * (a0.toNatClampNeg + 1) + 7)) a1.toNatClampNeg).toInt ≤ (xi (E 1) 0).toInt)) ∧ (0 ≤ a0.toInt ∧ a0.toInt ≤ 19) ∧ (0 ≤ a1.toInt ∧ a1.toInt ≤ 15)) ∨ (r = 0 ∧ (¬ ((0 ≤ a0.toInt ∧ a0.toInt < ((cf 2 : Nat) : Int)) ∧ (0 ≤ a1.toInt ∧ a1.toInt < (xi (E 1) 1).toInt) ∧ (¬ (xi (E (64 * (a0.toNatClampNeg + 1) + 7)) a1.toNatClampNeg).toInt = -1 ∧ (xi (E (64 * (a0.toNatClampNeg + 1) + 7)) a1.toNatClampNeg).toInt ≤ (xi (E 1) 0).toInt))))) (fun _ _ => True) (fun _ => False)) args s 0 0 (fun _ => False) := ⟨_, rfl⟩
  rw [← hQ, show entryFrame m args 3 = _ from (congrArg (fun z => entryFrame m z 3) hargs).trans (lg_entry_eq _ _ _)]
  generalize (lg_sl ([.ref (ad 1), .int a0, .int a1]) ++ List.replicate (3 - (lg_sl ([.ref (ad 1), .int a0, .int a1])).length) Slot.unset).toArray = ls at hl ⊢
  have hl : lv_has ls 3 [(0, .ref (ad 1)), (1, .int a0), (2, .int a1)] := hl
  refine lv_aload_n hx hb dX0_isEntered_0 rfl (lv_at hl 0 rfl) ?_
  refine lv_iload_n hx hb dX0_isEntered_1 rfl (lv_at hl 1 rfl) ?_
  refine th_riL (va_runV (As := [.int a0]) (rest := []) ⟨hx, hb, hml, hown, hts⟩ (q_isRaceC l dC dI cT cf hC ad E s.heap.size a0 hI) (cwV 1 hts (gi_V (in_6 _ (zs4 (zs1 (zs1 (zs0))))) (in_6 _ (zs4 (zs1 (zs1 (zs1 (zs0)))))) (in_6 _ (zs4 (zs4 (zs0)))) (in_5 _ (zs4 (zs1 (zs1 (zs0))))) (in_6 _ (zs4 (zs4 (zs1 (zs0)))))) rfl rfl rfl ⟨rfl, hz_yX0_isRace_1⟩ ⟨Nat.le_of_ble_eq_true rfl, Nat.le_of_ble_eq_true rfl⟩) ⟨HWL_bl, va_recv hK hP (ci := 1) (q0 := posL 1 (LC cf)) rfl (hI.ob 1 (mF 1 rfl) rfl), (HWL_wiR hP hK (WL_D hD) hS hEV)⟩ rfl rfl hl.1 rfl (lv_room (Nat.le_of_ble_eq_true rfl)) dX0_isEntered_2 ⟨Nat.le_of_ble_eq_true rfl, Nat.le_of_ble_eq_true rfl⟩) hS hP (fun r1 H locs hw hP hS => ?_)
  rcases hw with hw | hw
  · -- isRaceC, case 0
    obtain ⟨rfl, f2, f3⟩ := hw
    refine lv_if_eq (tgt := 42) hx hb dX0_isEntered_5 (by decide) (fun c4 => ?_) (fun c4 => ?_)
    · --5 taken
      exact absurd c4 (by decide)
    · --5 not
      refine lv_aload_n hx hb dX0_isEntered_8 rfl (lv_at hl 0 rfl) ?_
      refine lv_iload_n hx hb dX0_isEntered_9 rfl (lv_at hl 2 rfl) ?_
      refine th_riL (va_runV (As := [.int a1]) (rest := []) ⟨hx, hb, hml, hown, hts⟩ (q_isBoatC l dC dI cT cf hC ad E H.size a1 hI) (cwV 1 hts (gi_V (in_6 _ (zs4 (zs4 (zs1 (zs1 (zs1 (zs0))))))) (in_6 _ (zs4 (zs4 (zs4 (zs0))))) (in_6 _ (zs4 (zs4 (zs4 (zs1 (zs0)))))) (in_5 _ (zs4 (zs1 (zs1 (zs0))))) (in_5 _ (zs16 (zs16 (zs4 (zs1 (zs1 (zs0)))))))) rfl rfl rfl ⟨rfl, hz_yX0_isBoat_1⟩ ⟨Nat.le_of_ble_eq_true rfl, Nat.le_of_ble_eq_true rfl⟩) ⟨HWL_bl, va_recv hK hP (ci := 1) (q0 := posL 1 (LC cf)) rfl (hI.ob 1 (mF 1 rfl) rfl), (HWL_wiR hP hK (WL_D hD) hS hEV)⟩ rfl rfl hl.1 rfl (lv_room (Nat.le_of_ble_eq_true rfl)) dX0_isEntered_10 ⟨Nat.le_of_ble_eq_true rfl, Nat.le_of_ble_eq_true rfl⟩) hS hP (fun r5 H locs hw hP hS => ?_)
      rcases hw with hw | hw
      · -- isBoatC, case 0
        obtain ⟨rfl, f6, f7⟩ := hw
        have i8 : 0 ≤ (xi (E 1) 1).toInt ∧ (xi (E 1) 1).toInt ≤ 16 := hI0.iv 1 (mF 1 rfl) rfl (Nat.le_of_ble_eq_true rfl) rfl
        refine lv_if_eq (tgt := 42) hx hb dX0_isEntered_13 (by decide) (fun c9 => ?_) (fun c9 => ?_)
        · --13 taken
          exact absurd c9 (by decide)
        · --13 not
          refine lv_aload_n hx hb dX0_isEntered_16 rfl (lv_at hl 0 rfl) ?_
          refine th_getL (ci := 1) (C := RX0) (T := TX0) (N := 11) (v := .ref (ad 9)) hx hb hts hinX0 hown hK hP hI 1 (mF 1 rfl) rfl rfl 5 (Nat.le_of_ble_eq_true rfl) (hts _ (vA_in _ _ (in_5 _ (zs1 (zs0))))) (fun _ h9 => h9) (hI.fr 1 (mF 1 rfl) rfl (Nat.le_of_ble_eq_true rfl) 9 rfl) dX0_isEntered_17 ?_
          refine lv_iload_n hx hb dX0_isEntered_20 rfl (lv_at hl 1 rfl) ?_
          refine th_rrL (va_runV (As := [.int a0]) (rest := []) ⟨hx, hb, hml, hown, hts⟩ (q_get2 l dC dI cT cf hC ad E H.size a0 hI (by omega)) (cwV 1 hts (gi_V (in_4 _ (zs16 (zs16 (zs4 (zs1 (zs0)))))) (in_4 _ (zs16 (zs16 (zs4 (zs1 (zs1 (zs0))))))) (in_4 _ (zs16 (zs16 (zs4 (zs1 (zs1 (zs1 (zs0)))))))) (in_3 _ (zs16 (zs1 (zs1 (zs0))))) (in_3 _ (zs16 (zs16 (zs4 (zs1 (zs1 (zs1 (zs0))))))))) rfl rfl rfl ⟨rfl, hz_yJx4a65c_get_915e3_1⟩ ⟨Nat.le_of_ble_eq_true rfl, Nat.le_of_ble_eq_true rfl⟩) ⟨HWL_bl, va_recv hK hP (ci := 0) (q0 := posL 9 (LC cf)) rfl (hI.ob 9 (mF 9 rfl) rfl), (HWL_wiR hP hK (WL_D hD) hS hEV)⟩ rfl rfl hl.1 rfl (lv_room (Nat.le_of_ble_eq_true rfl)) dX0_isEntered_21 ⟨Nat.le_of_ble_eq_true rfl, Nat.le_of_ble_eq_true rfl⟩) hS hP (fun r10 H locs hw hP hS => ?_)
          obtain rfl := hw
          have lv11 : a0.toNatClampNeg < cf 2 := by rw [tn_]; omega
          refine va_castS (cC := dC 6) hx hb hown (hts _ (vA_in _ _ (in_6 _ zs0))) (hK.1 6 _ rfl).2 (va_recv hK hP (ci := 6) (q0 := posL (64 * (a0.toNatClampNeg + 1) + 6) (LC cf)) rfl (hI.ob (64 * (a0.toNatClampNeg + 1) + 6) (mP 6 a0.toNatClampNeg (by decide) lv11 (kl_le hC 2 (by decide))) (shC_p 6 a0.toNatClampNeg (by decide)))) dX0_isEntered_24 ?_
          refine lv_iload_n hx hb dX0_isEntered_27 rfl (lv_at hl 2 rfl) ?_
          refine lv_aload_n hx hb dX0_isEntered_28 rfl (lv_at hl 0 rfl) ?_
          have i12 : 0 ≤ (xi (E 1) 0).toInt ∧ (xi (E 1) 0).toInt ≤ 400 := hI0.iv 1 (mF 1 rfl) rfl (Nat.le_of_ble_eq_true rfl) rfl
          refine th_getL (ci := 1) (C := RX0) (T := TX0) (N := 11) (v := .int (xi (E 1) 0)) hx hb hts hinX0 hown hK hP hI 1 (mF 1 rfl) rfl rfl 0 (Nat.le_of_ble_eq_true rfl) (hts _ (vA_in _ _ (in_5 _ (zs1 (zs1 (zs0)))))) (fun _ h9 => h9) (th_v0L hKp hI0 1 (mF 1 rfl) rfl (Nat.le_of_ble_eq_true rfl) rfl rfl) dX0_isEntered_29 ?_
          refine th_riL (va_runV (As := [.int a1, .int (xi (E 1) 0)]) (rest := []) ⟨hx, hb, hml, hown, hts⟩ (q_isEnteredIn l dC dI cT cf hC ad E H.size a1 (xi (E 1) 0) a0.toNatClampNeg hI (by omega) f7) (cwV 2 hts (gi_V (in_6 _ (zs4 (zs4 (zs4 (zs1 (zs1 (zs0))))))) (in_6 _ (zs4 (zs4 (zs4 (zs1 (zs1 (zs1 (zs0)))))))) (in_6 _ (zs16 (zs0))) (in_6 _ (zs16 (zs1 (zs0)))) (in_6 _ (zs16 (zs1 (zs1 (zs0)))))) rfl rfl rfl ⟨rfl, hz_yX5_isEnteredIn_2⟩ ⟨Nat.le_of_ble_eq_true rfl, Nat.le_of_ble_eq_true rfl⟩) ⟨HWL_bl, va_recv hK hP (ci := 6) (q0 := posL (64 * (a0.toNatClampNeg + 1) + 6) (LC cf)) rfl (hI.ob (64 * (a0.toNatClampNeg + 1) + 6) (mP 6 a0.toNatClampNeg (by decide) lv11 (kl_le hC 2 (by decide))) (shC_p 6 a0.toNatClampNeg (by decide))), (HWL_wiR hP hK (WL_D hD) hS hEV)⟩ rfl rfl hl.1 rfl (lv_room (Nat.le_of_ble_eq_true rfl)) dX0_isEntered_32 ⟨Nat.le_of_ble_eq_true rfl, Nat.le_of_ble_eq_true rfl⟩) hS hP (fun r13 H locs hw hP hS => ?_)
          rcases hw with hw | hw
          · -- isEnteredIn, case 0
            obtain ⟨rfl, f14⟩ := hw
            refine lv_if_eq (tgt := 42) hx hb dX0_isEntered_35 (by decide) (fun c15 => ?_) (fun c15 => ?_)
            · --35 taken
              exact absurd c15 (by decide)
            · --35 not
              refine lv_iconst (v := 1) hx hb dX0_isEntered_38 (by decide) ?_
              refine lv_goto (tgt := 43) hx hb dX0_isEntered_39 (by decide) ?_
              rw [hQ]
              exact W.zret (v := 1) hx hb hr rfl (fun t ht hW => ⟨⟨1, (), rfl, Or.inl ⟨rfl, by have h8 := ln_1; all_goals omega, f3, f7⟩, trivial⟩, hS.F ht⟩) hS.2.2 dX0_isEntered_43
          · -- isEnteredIn, case 1
            obtain ⟨rfl, f16⟩ := hw
            refine lv_if_eq (tgt := 42) hx hb dX0_isEntered_35 (by decide) (fun c17 => ?_) (fun c17 => ?_)
            · --35 taken
              refine lv_iconst (v := 0) hx hb dX0_isEntered_42 (by decide) ?_
              rw [hQ]
              exact W.zret (v := 0) hx hb hr rfl (fun t ht hW => ⟨⟨0, (), rfl, Or.inr (⟨rfl, by have h8 := ln_0; all_goals omega⟩), trivial⟩, hS.F ht⟩) hS.2.2 dX0_isEntered_43
            · --35 not
              exact absurd c17 (by decide)
      · -- isBoatC, case 1
        obtain ⟨rfl, f18⟩ := hw
        have i19 : 0 ≤ (xi (E 1) 1).toInt ∧ (xi (E 1) 1).toInt ≤ 16 := hI0.iv 1 (mF 1 rfl) rfl (Nat.le_of_ble_eq_true rfl) rfl
        refine lv_if_eq (tgt := 42) hx hb dX0_isEntered_13 (by decide) (fun c20 => ?_) (fun c20 => ?_)
        · --13 taken
          refine lv_iconst (v := 0) hx hb dX0_isEntered_42 (by decide) ?_
          rw [hQ]
          exact W.zret (v := 0) hx hb hr rfl (fun t ht hW => ⟨⟨0, (), rfl, Or.inr (⟨rfl, by have h8 := ln_0; all_goals omega⟩), trivial⟩, hS.F ht⟩) hS.2.2 dX0_isEntered_43
        · --13 not
          exact absurd c20 (by decide)
  · -- isRaceC, case 1
    obtain ⟨rfl, f21⟩ := hw
    refine lv_if_eq (tgt := 42) hx hb dX0_isEntered_5 (by decide) (fun c22 => ?_) (fun c22 => ?_)
    · --5 taken
      refine lv_iconst (v := 0) hx hb dX0_isEntered_42 (by decide) ?_
      rw [hQ]
      exact W.zret (v := 0) hx hb hr rfl (fun t ht hW => ⟨⟨0, (), rfl, Or.inr (⟨rfl, by have h8 := ln_0; all_goals omega⟩), trivial⟩, hS.F ht⟩) hS.2.2 dX0_isEntered_43
    · --5 not
      exact absurd c22 (by decide)
def v_isProtestedC : List Cond := .code yX0_isProtested cX0_isProtested 3 (some .boolean) :: vA
abbrev rm_isProtestedC : Room := { frames := 3, cells := 0, slots := 0, locals := 120 }
set_option maxHeartbeats 4000000 in
set_option maxRecDepth 100000 in
theorem q_isProtestedC (l : Launch) (dC : Nat → ClassId) (dI : Nat → Nat → Nat) (cT : Nat → ClassId) (cf : Nat → Nat) (hC : CF cf) (ad : Nat → Nat) (E : Nat → va_E) (sz : Nat) (a0 : Int32) (a1 : Int32) (hI0 : IXL cT (shC cf) (spC cf) (LC cf) ad E)  : Met l yX0_isProtested v_isProtestedC rm_isProtestedC (va_Pc [.ref (ad 1), .int a0, .int a1] (HWL dC dI (TYC cT) cf ad E sz)) (va_Qi (S := Unit) (fun r _ => (r = 1 ∧ ((0 ≤ a1.toInt ∧ a1.toInt ≤ (xi (E 1) 0).toInt) ∧ (0 ≤ a0.toInt ∧ a0.toInt < ((cf 5 : Nat) : Int)) ∧ (xi (E (64 * (a0.toNatClampNeg + 1) + 14)) 4).toInt ≤ a1.toInt) ∧ (0 ≤ a0.toInt ∧ a0.toInt ≤ 29) ∧ (0 ≤ a1.toInt ∧ a1.toInt ≤ 400)) ∨ (r = 0 ∧ (¬ ((0 ≤ a1.toInt ∧ a1.toInt ≤ (xi (E 1) 0).toInt) ∧ (0 ≤ a0.toInt ∧ a0.toInt < ((cf 5 : Nat) : Int)) ∧ (xi (E (64 * (a0.toNatClampNeg + 1) + 14)) 4).toInt ≤ a1.toInt)))) (fun _ _ => True) (fun _ => False)) 0 0 (fun _ => False) := by
  obtain ⟨⟨hc0, hc1, hc2, hc3, hc4, hc5⟩, hcr⟩ := id hC
  refine Met.ofW (cc := cX0_isProtested) (maxL := 3) (ret := (some .boolean)) (by decide) rfl ?_
  intro p e s m args below meth c s₁ B hml hv
  obtain ⟨hargs, hsz, hP, hK, hD0, hEV⟩ := hv
  subst hsz
  have hx := B.exec
  have hb := B.bytes
  have hr := B.returns
  have hts := atoms_spec (ws := v_isProtestedC) B.pre
  have hown : s.vm.findClass RX0 = some m.cls := findClass_of_methodNamed B.named
  have hlocks := B.notSynchronized
  have hinX0 : ∀ w ∈ u_ws RX0 TX0 11, w ∈ v_isProtestedC := fun w h => vA_in _ w (in_X0 w h)
  have hinX4 : ∀ w ∈ u_ws RX4 TX4 10, w ∈ v_isProtestedC := fun w h => vA_in _ w (in_X4 w h)
  have hS : va_S (fun _ : Nat => False) s.heap s.heap [] := va_S.rf
  have hD := hD0
  have hI := hI0
  have hKp : Kp (wl [] []) E E := Kp.rf
  have hl := lv_entry ([.ref (ad 1), .int a0, .int a1]) (n := 3) (Nat.le_of_ble_eq_true rfl)
  obtain ⟨Q, hQ⟩ : ∃ Q, Q = MQ below (va_Qi (S := Unit) (fun r _ => (r = 1 ∧ ((0 ≤ a1.toInt ∧ a1.toInt ≤ (xi (E 1) 0).toInt) ∧ (0 ≤ a0.toInt ∧ a0.toInt < ((cf 5 : Nat) : Int)) ∧ (xi (E (64 * (a0.toNatClampNeg + 1) + 14)) 4).toInt ≤ a1.toInt) ∧ (0 ≤ a0.toInt ∧ a0.toInt ≤ 29) ∧ (0 ≤ a1.toInt ∧ a1.toInt ≤ 400)) ∨ (r = 0 ∧ (¬ ((0 ≤ a1.toInt ∧ a1.toInt ≤ (xi (E 1) 0).toInt) ∧ (0 ≤ a0.toInt ∧ a0.toInt < ((cf 5 : Nat) : Int)) ∧ (xi (E (64 * (a0.toNatClampNeg + 1) + 14)) 4).toInt ≤ a1.toInt)))) (fun _ _ => True) (fun _ => False)) args s 0 0 (fun _ => False) := ⟨_, rfl⟩
  rw [← hQ, show entryFrame m args 3 = _ from (congrArg (fun z => entryFrame m z 3) hargs).trans (lg_entry_eq _ _ _)]
  generalize (lg_sl ([.ref (ad 1), .int a0, .int a1]) ++ List.replicate (3 - (lg_sl ([.ref (ad 1), .int a0, .int a1])).length) Slot.unset).toArray = ls at hl ⊢
  have hl : lv_has ls 3 [(0, .ref (ad 1)), (1, .int a0), (2, .int a1)] := hl
  refine lv_aload_n hx hb dX0_isProtested_0 rfl (lv_at hl 0 rfl) ?_
  refine lv_iload_n hx hb dX0_isProtested_1 rfl (lv_at hl 2 rfl) ?_
  refine th_riL (va_runV (As := [.int a1]) (rest := []) ⟨hx, hb, hml, hown, hts⟩ (q_isKnownC l dC dI cT cf hC ad E s.heap.size a1 hI) (cwV 1 hts (gi_V (in_6 _ (zs1 (zs1 (zs0)))) (in_6 _ (zs1 (zs1 (zs1 (zs0))))) (in_6 _ (zs4 (zs0))) (in_5 _ (zs4 (zs1 (zs1 (zs0))))) (in_6 _ (zs4 (zs1 (zs0))))) rfl rfl rfl ⟨rfl, hz_yX0_isKnown_1⟩ ⟨Nat.le_of_ble_eq_true rfl, Nat.le_of_ble_eq_true rfl⟩) ⟨HWL_bl, va_recv hK hP (ci := 1) (q0 := posL 1 (LC cf)) rfl (hI.ob 1 (mF 1 rfl) rfl), (HWL_wiR hP hK (WL_D hD) hS hEV)⟩ rfl rfl hl.1 rfl (lv_room (Nat.le_of_ble_eq_true rfl)) dX0_isProtested_2 ⟨Nat.le_of_ble_eq_true rfl, Nat.le_of_ble_eq_true rfl⟩) hS hP (fun r1 H locs hw hP hS => ?_)
  rcases hw with hw | hw
  · -- isKnownC, case 0
    obtain ⟨rfl, f2, f3⟩ := hw
    have i4 : 0 ≤ (xi (E 1) 0).toInt ∧ (xi (E 1) 0).toInt ≤ 400 := hI0.iv 1 (mF 1 rfl) rfl (Nat.le_of_ble_eq_true rfl) rfl
    refine lv_if_eq (tgt := 47) hx hb dX0_isProtested_5 (by decide) (fun c5 => ?_) (fun c5 => ?_)
    · --5 taken
      exact absurd c5 (by decide)
    · --5 not
      refine lv_iload_n hx hb dX0_isProtested_8 rfl (lv_at hl 1 rfl) ?_
      refine lv_iconst (v := 0) hx hb dX0_isProtested_9 (by decide) ?_
      refine lv_aload_n hx hb dX0_isProtested_10 rfl (lv_at hl 0 rfl) ?_
      refine th_getL (ci := 1) (C := RX0) (T := TX0) (N := 11) (v := .ref (ad 12)) hx hb hts hinX0 hown hK hP hI 1 (mF 1 rfl) rfl rfl 8 (Nat.le_of_ble_eq_true rfl) (hts _ (vA_in _ _ (in_5 _ (zs4 (zs4 (zs0)))))) (fun _ h9 => h9) (hI.fr 1 (mF 1 rfl) rfl (Nat.le_of_ble_eq_true rfl) 12 rfl) dX0_isProtested_11 ?_
      refine th_riL (va_runV (As := []) (rest := [.int 0, .int a0]) ⟨hx, hb, hml, hown, hts⟩ (q_size5 l dC dI cT cf hC ad E H.size hI) (cwV 0 hts (gi_V (in_4 _ (zs16 (zs16 (zs1 (zs1 (zs0)))))) (in_4 _ (zs16 (zs16 (zs1 (zs1 (zs1 (zs0))))))) (in_4 _ (zs16 (zs16 (zs4 (zs0))))) (in_3 _ (zs16 (zs1 (zs1 (zs0))))) (in_4 _ (zs16 (zs1 (zs1 (zs1 (zs0))))))) rfl rfl rfl ⟨rfl, hz_yJx4a65c_size_8abf5_0⟩ ⟨Nat.le_of_ble_eq_true rfl, Nat.le_of_ble_eq_true rfl⟩) ⟨HWL_bl, va_recv hK hP (ci := 0) (q0 := posL 12 (LC cf)) rfl (hI.ob 12 (mF 12 rfl) rfl), (HWL_wiR hP hK (WL_D hD) hS hEV)⟩ rfl rfl hl.1 rfl (lv_room (Nat.le_of_ble_eq_true rfl)) dX0_isProtested_14 ⟨Nat.le_of_ble_eq_true rfl, Nat.le_of_ble_eq_true rfl⟩) hS hP (fun r6 H locs hw hP hS => ?_)
      obtain ⟨f7, f8⟩ := hw
      refine lv_iconst (v := 1) hx hb dX0_isProtested_17 (by decide) ?_
      refine lv_isub hx hb dX0_isProtested_18 ?_
      refine lv_topi (fun y9 ey9 => ?_)
      obtain ⟨ty9, iy9⟩ := ti_sub (e := (-1)) (f := 29) f7 ln_1 ey9 (by decide)
      have ty9 : y9.toInt = r6.toInt - 1 := ty9
      have iy9 : -1 ≤ y9.toInt ∧ y9.toInt ≤ 29 := iy9
      refine th_pi (va_runSN (As := [.int a0, .int 0, .int y9]) (rest := []) ⟨hx, hb, hml, hown, hts⟩ (q_cwithin l a0 (0 : Int32) y9) ⟨va_cnB 3 hts (gi_0 (in_4 _ (zs16 (zs4 (zs4 (zs0)))))) rfl rfl rfl (hEV.1.1 _ (List.mem_of_getElem? (i := 3) rfl)) (hts _ (vA_in _ _ (in_4 _ (zs16 (zs4 (zs1 (zs1 (zs1 (zs0))))))))) hz_yX12_within_3 ⟨Nat.le_of_ble_eq_true rfl, Nat.le_of_ble_eq_true rfl⟩, (hts _ (vA_in _ _ (in_4 _ (zs16 (zs4 (zs1 (zs1 (zs0)))))))), trivial⟩ ⟨fun _ _ _ _ q => q, fun _ _ _ => ⟨rfl, trivial⟩⟩ rfl rfl hl.1 rfl (lv_room (Nat.le_of_ble_eq_true rfl)) dX0_isProtested_19 ⟨Nat.le_of_ble_eq_true rfl, Nat.le_of_ble_eq_true rfl⟩) hS (fun r10 H1 locs1 hw hk1 hS => ?_)
      have hP := ub_keep hP hk1
      generalize H1 = H at hP hS ⊢
      generalize locs1 = locs at hS ⊢
      rcases hw with hw | hw
      · -- cwithin, case 0
        obtain ⟨rfl, f11⟩ := hw
        have t12 : (0 : Int) ≤ a0.toInt := f11.1
        have t13 : a0.toInt ≤ y9.toInt := f11.2
        have i14 : 0 ≤ a0.toInt ∧ a0.toInt ≤ 2147483647 := iv_le_r t12 (il_ 0) (iv_all _) (by decide)
        have i15 : 0 ≤ a0.toInt ∧ a0.toInt ≤ 29 := iv_le_l t13 i14 iy9 (by decide)
        have i16 : 0 ≤ y9.toInt ∧ y9.toInt ≤ 29 := iv_le_r t13 i14 iy9 (by decide)
        refine lv_if_eq (tgt := 47) hx hb dX0_isProtested_22 (by decide) (fun c17 => ?_) (fun c17 => ?_)
        · --22 taken
          exact absurd c17 (by decide)
        · --22 not
          refine lv_aload_n hx hb dX0_isProtested_25 rfl (lv_at hl 0 rfl) ?_
          refine th_getL (ci := 1) (C := RX0) (T := TX0) (N := 11) (v := .ref (ad 12)) hx hb hts hinX0 hown hK hP hI 1 (mF 1 rfl) rfl rfl 8 (Nat.le_of_ble_eq_true rfl) (hts _ (vA_in _ _ (in_5 _ (zs4 (zs4 (zs0)))))) (fun _ h9 => h9) (hI.fr 1 (mF 1 rfl) rfl (Nat.le_of_ble_eq_true rfl) 12 rfl) dX0_isProtested_26 ?_
          refine lv_iload_n hx hb dX0_isProtested_29 rfl (lv_at hl 1 rfl) ?_
          refine th_rrL (va_runV (As := [.int a0]) (rest := []) ⟨hx, hb, hml, hown, hts⟩ (q_get5 l dC dI cT cf hC ad E H.size a0 hI (by omega)) (cwV 1 hts (gi_V (in_4 _ (zs16 (zs16 (zs4 (zs1 (zs0)))))) (in_4 _ (zs16 (zs16 (zs4 (zs1 (zs1 (zs0))))))) (in_4 _ (zs16 (zs16 (zs4 (zs1 (zs1 (zs1 (zs0)))))))) (in_3 _ (zs16 (zs1 (zs1 (zs0))))) (in_3 _ (zs16 (zs16 (zs4 (zs1 (zs1 (zs1 (zs0))))))))) rfl rfl rfl ⟨rfl, hz_yJx4a65c_get_915e3_1⟩ ⟨Nat.le_of_ble_eq_true rfl, Nat.le_of_ble_eq_true rfl⟩) ⟨HWL_bl, va_recv hK hP (ci := 0) (q0 := posL 12 (LC cf)) rfl (hI.ob 12 (mF 12 rfl) rfl), (HWL_wiR hP hK (WL_D hD) hS hEV)⟩ rfl rfl hl.1 rfl (lv_room (Nat.le_of_ble_eq_true rfl)) dX0_isProtested_30 ⟨Nat.le_of_ble_eq_true rfl, Nat.le_of_ble_eq_true rfl⟩) hS hP (fun r18 H locs hw hP hS => ?_)
          obtain rfl := hw
          have lv19 : a0.toNatClampNeg < cf 5 := by rw [tn_]; omega
          refine va_castS (cC := dC 5) hx hb hown (hts _ (vA_in _ _ (in_5 _ (zs4 (zs4 (zs1 (zs0))))))) (hK.1 5 _ rfl).2 (va_recv hK hP (ci := 5) (q0 := posL (64 * (a0.toNatClampNeg + 1) + 14) (LC cf)) rfl (hI.ob (64 * (a0.toNatClampNeg + 1) + 14) (mP 14 a0.toNatClampNeg (by decide) lv19 (kl_le hC 5 (by decide))) (shC_p 14 a0.toNatClampNeg (by decide)))) dX0_isProtested_33 ?_
          have i20 : 0 ≤ (xi (E (64 * (a0.toNatClampNeg + 1) + 14)) 4).toInt ∧ (xi (E (64 * (a0.toNatClampNeg + 1) + 14)) 4).toInt ≤ 400 := hI0.iv (64 * (a0.toNatClampNeg + 1) + 14) (mP 14 a0.toNatClampNeg (by decide) lv19 (kl_le hC 5 (by decide))) (shC_p 14 a0.toNatClampNeg (by decide)) (Nat.le_of_ble_eq_true rfl) (spC_p 14 a0.toNatClampNeg (by decide) 4)
          refine th_getL (ci := 5) (C := RX4) (T := TX4) (N := 10) (v := .int (xi (E (64 * (a0.toNatClampNeg + 1) + 14)) 4)) hx hb hts hinX4 hown hK hP hI (64 * (a0.toNatClampNeg + 1) + 14) (mP 14 a0.toNatClampNeg (by decide) lv19 (kl_le hC 5 (by decide))) (shC_p 14 a0.toNatClampNeg (by decide)) rfl 4 (Nat.le_of_ble_eq_true rfl) (hts _ (vA_in _ _ (in_6 _ (zs16 (zs4 (zs1 (zs0))))))) (fun _ h9 => h9) (th_v0L hKp hI0 (64 * (a0.toNatClampNeg + 1) + 14) (mP 14 a0.toNatClampNeg (by decide) lv19 (kl_le hC 5 (by decide))) (shC_p 14 a0.toNatClampNeg (by decide)) (Nat.le_of_ble_eq_true rfl) (spC_p 14 a0.toNatClampNeg (by decide) 4) (wl_p rfl rfl (by omega))) dX0_isProtested_36 ?_
          refine lv_iload_n hx hb dX0_isProtested_39 rfl (lv_at hl 2 rfl) ?_
          refine lv_icmp_gt (tgt := 47) hx hb dX0_isProtested_40 (by decide) (fun c21 => ?_) (fun c21 => ?_)
          · --40 taken
            have t22 : a1.toInt < (xi (E (64 * (a0.toNatClampNeg + 1) + 14)) 4).toInt := ti_lt c21
            have i23 : 0 ≤ a1.toInt ∧ a1.toInt ≤ 399 := iv_lt_l t22 f3 i20 (by decide)
            have i24 : 1 ≤ (xi (E (64 * (a0.toNatClampNeg + 1) + 14)) 4).toInt ∧ (xi (E (64 * (a0.toNatClampNeg + 1) + 14)) 4).toInt ≤ 400 := iv_lt_r t22 f3 i20 (by decide)
            refine lv_iconst (v := 0) hx hb dX0_isProtested_47 (by decide) ?_
            rw [hQ]
            exact W.zret (v := 0) hx hb hr rfl (fun t ht hW => ⟨⟨0, (), rfl, Or.inr (⟨rfl, by have h8 := ln_0; all_goals omega⟩), trivial⟩, hS.F ht⟩) hS.2.2 dX0_isProtested_48
          · --40 not
            have t25 : (xi (E (64 * (a0.toNatClampNeg + 1) + 14)) 4).toInt ≤ a1.toInt := ti_nlt c21
            refine lv_iconst (v := 1) hx hb dX0_isProtested_43 (by decide) ?_
            refine lv_goto (tgt := 48) hx hb dX0_isProtested_44 (by decide) ?_
            rw [hQ]
            exact W.zret (v := 1) hx hb hr rfl (fun t ht hW => ⟨⟨1, (), rfl, Or.inl ⟨rfl, by have h8 := ln_1; all_goals omega, i15, f3⟩, trivial⟩, hS.F ht⟩) hS.2.2 dX0_isProtested_48
      · -- cwithin, case 1
        obtain ⟨rfl, f26⟩ := hw
        have t27 : ¬ ((0 : Int) ≤ a0.toInt ∧ a0.toInt ≤ y9.toInt) := f26
        refine lv_if_eq (tgt := 47) hx hb dX0_isProtested_22 (by decide) (fun c28 => ?_) (fun c28 => ?_)
        · --22 taken
          refine lv_iconst (v := 0) hx hb dX0_isProtested_47 (by decide) ?_
          rw [hQ]
          exact W.zret (v := 0) hx hb hr rfl (fun t ht hW => ⟨⟨0, (), rfl, Or.inr (⟨rfl, by have h8 := ln_0; all_goals omega⟩), trivial⟩, hS.F ht⟩) hS.2.2 dX0_isProtested_48
        · --22 not
          exact absurd c28 (by decide)
  · -- isKnownC, case 1
    obtain ⟨rfl, f29⟩ := hw
    have i30 : 0 ≤ (xi (E 1) 0).toInt ∧ (xi (E 1) 0).toInt ≤ 400 := hI0.iv 1 (mF 1 rfl) rfl (Nat.le_of_ble_eq_true rfl) rfl
    refine lv_if_eq (tgt := 47) hx hb dX0_isProtested_5 (by decide) (fun c31 => ?_) (fun c31 => ?_)
    · --5 taken
      refine lv_iconst (v := 0) hx hb dX0_isProtested_47 (by decide) ?_
      rw [hQ]
      exact W.zret (v := 0) hx hb hr rfl (fun t ht hW => ⟨⟨0, (), rfl, Or.inr (⟨rfl, by have h8 := ln_0; all_goals omega⟩), trivial⟩, hS.F ht⟩) hS.2.2 dX0_isProtested_48
    · --5 not
      exact absurd c31 (by decide)
def v_forget : List Cond := .code yX0_forgetLetters cX0_forgetLetters 1 none :: vA
abbrev rm_forget : Room := { frames := 1, cells := 0, slots := 0, locals := 40 }
def w_forget : Nat → Nat → Bool := wl [19] []
set_option maxHeartbeats 4000000 in
set_option maxRecDepth 100000 in
theorem q_forget (l : Launch) (dC : Nat → ClassId) (dI : Nat → Nat → Nat) (cT : Nat → ClassId) (cf : Nat → Nat) (hC : CF cf) (ad : Nat → Nat) (E : Nat → va_E) (sz : Nat)  (hI0 : IXL cT (shC cf) (spC cf) (LC cf) ad E)  : Met l yX0_forgetLetters v_forget rm_forget (va_Pc [.ref (ad 1)] (HWL dC dI (TYC cT) cf ad E sz)) (va_Qv (S := Nat → va_E) (fun u => IXL cT (shC cf) (spC cf) (LC cf) ad u ∧ Kp w_forget E u ∧ (True)) (HBL dC dI (LC cf) ad) (va_A (WL (LC cf) ad E) sz)) 0 0 (va_A (WL (LC cf) ad E) sz) := by
  obtain ⟨⟨hc0, hc1, hc2, hc3, hc4, hc5⟩, hcr⟩ := id hC
  refine Met.ofW (cc := cX0_forgetLetters) (maxL := 1) (ret := none) (by decide) rfl ?_
  intro p e s m args below meth c s₁ B hml hv
  obtain ⟨hargs, hsz, hP, hK, hD0, hEV⟩ := hv
  subst hsz
  have hx := B.exec
  have hb := B.bytes
  have hr := B.returns
  have hts := atoms_spec (ws := v_forget) B.pre
  have hown : s.vm.findClass RX0 = some m.cls := findClass_of_methodNamed B.named
  have hlocks := B.notSynchronized
  have hinX0 : ∀ w ∈ u_ws RX0 TX0 11, w ∈ v_forget := fun w h => vA_in _ w (in_X0 w h)
  generalize hAe : va_A (WL (LC cf) ad E) s.heap.size = A at hEV ⊢
  have hA : ∀ q : Nat, s.heap.size ≤ q → A q := fun q h => by rw [← hAe]; exact Or.inr h
  have hD : va_D A (WL (LC cf) ad E) := by rw [← hAe]; exact hD0.self
  have hS : va_S A s.heap s.heap [] := va_S.rf
  have hI := hI0
  have hKp : Kp w_forget E E := Kp.rf
  have hl := lv_entry ([.ref (ad 1)]) (n := 1) (Nat.le_of_ble_eq_true rfl)
  obtain ⟨Q, hQ⟩ : ∃ Q, Q = MQ below (va_Qv (S := Nat → va_E) (fun u => IXL cT (shC cf) (spC cf) (LC cf) ad u ∧ Kp w_forget E u ∧ (True)) (HBL dC dI (LC cf) ad) (A)) args s 0 0 (A) := ⟨_, rfl⟩
  rw [← hQ, show entryFrame m args 1 = _ from (congrArg (fun z => entryFrame m z 1) hargs).trans (lg_entry_eq _ _ _)]
  generalize (lg_sl ([.ref (ad 1)]) ++ List.replicate (1 - (lg_sl ([.ref (ad 1)])).length) Slot.unset).toArray = ls at hl ⊢
  have hl : lv_has ls 1 [(0, .ref (ad 1))] := hl
  refine lv_aload_n hx hb dX0_forgetLetters_0 rfl (lv_at hl 0 rfl) ?_
  refine th_getL (ci := 1) (C := RX0) (T := TX0) (N := 11) (v := .ref (ad 19)) hx hb hts hinX0 hown hK hP hI 1 (mF 1 rfl) rfl rfl 9 (Nat.le_of_ble_eq_true rfl) (hts _ (vA_in _ _ (in_5 _ (zs16 (zs4 (zs4 (zs0))))))) (fun _ h9 => h9) (hI.fr 1 (mF 1 rfl) rfl (Nat.le_of_ble_eq_true rfl) 19 rfl) dX0_forgetLetters_1 ?_
  refine lv_iconst (v := 0) hx hb dX0_forgetLetters_4 (by decide) ?_
  refine th_vL (va_runS (As := [.ref (ad 19), .int 0]) (rest := []) ⟨hx, hb, hml, hown, hts⟩ (q_fill19 l dC dI cT cf hC ad E s.heap.size (0 : Int32) hI) (va_cwS 2 hts (gi_S (in_5 _ (zs16 (zs4 (zs4 (zs1 (zs0)))))) (in_5 _ (zs16 (zs4 (zs4 (zs1 (zs1 (zs0))))))) (in_2 _ (zs16 (zs4 (zs1 (zs1 (zs0)))))) (in_2 _ (zs16 (zs16 (zs4 (zs1 (zs1 (zs1 (zs0))))))))) rfl rfl rfl hz_yJ7_fill_53178_2 ⟨Nat.le_of_ble_eq_true rfl, Nat.le_of_ble_eq_true rfl⟩) ⟨HWL_bl, (HWL_wi hP hK (WL_D hD) hS hA hEV)⟩ rfl rfl hl.1 rfl (lv_room (Nat.le_of_ble_eq_true rfl)) dX0_forgetLetters_5 ⟨Nat.le_of_ble_eq_true rfl, Nat.le_of_ble_eq_true rfl⟩) (WL_D hD) hS hA (fun E2 H locs hw hP hS => ?_)
  obtain ⟨hI, kq3, hw⟩ := hw
  have hKb := hKp
  have hKp := hKp.tr kq3 (wl_sub rfl rfl)
  rw [hQ]
  exact W.vret hx hb hr (fun t ht hW => ⟨⟨E2, rfl, ⟨hI, hKp, trivial⟩, by show va_P (dC, dI) vwCl (WL (LC cf) ad E2) t.heap; rw [ht]; exact hP⟩, hS.F ht⟩) hS.2.2 dX0_forgetLetters_8
def v_rulesOnC : List Cond := .code yX0_rulesOn cX0_rulesOn 7 (some .int) :: vA
abbrev rm_rulesOnC : Room := { frames := 3, cells := 0, slots := 0, locals := 120 }
set_option maxHeartbeats 4000000 in
set_option maxRecDepth 100000 in
theorem q_rulesOnC (l : Launch) (dC : Nat → ClassId) (dI : Nat → Nat → Nat) (cT : Nat → ClassId) (cf : Nat → Nat) (hC : CF cf) (ad : Nat → Nat) (E : Nat → va_E) (sz : Nat) (a0 : Int32) (a1 : Int32) (hI0 : IXL cT (shC cf) (spC cf) (LC cf) ad E)  : Met l yX0_rulesOn v_rulesOnC rm_rulesOnC (va_Pc [.ref (ad 1), .int a0, .int a1] (HWL dC dI (TYC cT) cf ad E sz)) (va_Qi (S := Unit) (fun r _ => (-1 ≤ r.toInt ∧ r.toInt ≤ 15) ∧ ((r.toInt = -1 ∨ r.toInt < ((cf 1 : Nat) : Int)))) (fun _ _ => True) (fun _ => False)) 0 0 (fun _ => False) := by
  obtain ⟨⟨hc0, hc1, hc2, hc3, hc4, hc5⟩, hcr⟩ := id hC
  refine Met.ofW (cc := cX0_rulesOn) (maxL := 7) (ret := (some .int)) (by decide) rfl ?_
  intro p e s m args below meth c s₁ B hml hv
  obtain ⟨hargs, hsz, hP, hK, hD0, hEV⟩ := hv
  subst hsz
  have hx := B.exec
  have hb := B.bytes
  have hr := B.returns
  have hts := atoms_spec (ws := v_rulesOnC) B.pre
  have hown : s.vm.findClass RX0 = some m.cls := findClass_of_methodNamed B.named
  have hlocks := B.notSynchronized
  have hinX0 : ∀ w ∈ u_ws RX0 TX0 11, w ∈ v_rulesOnC := fun w h => vA_in _ w (in_X0 w h)
  have hinX7 : ∀ w ∈ u_ws RX7 TX7 6, w ∈ v_rulesOnC := fun w h => vA_in _ w (in_X7 w h)
  have hS : va_S (fun _ : Nat => False) s.heap s.heap [] := va_S.rf
  have hD := hD0
  have hI := hI0
  have hKp : Kp (wl [] []) E E := Kp.rf
  have hl := lv_entry ([.ref (ad 1), .int a0, .int a1]) (n := 7) (Nat.le_of_ble_eq_true rfl)
  obtain ⟨Q, hQ⟩ : ∃ Q, Q = MQ below (va_Qi (S := Unit) (fun r _ => (-1 ≤ r.toInt ∧ r.toInt ≤ 15) ∧ ((r.toInt = -1 ∨ r.toInt < ((cf 1 : Nat) : Int)))) (fun _ _ => True) (fun _ => False)) args s 0 0 (fun _ => False) := ⟨_, rfl⟩
  rw [← hQ, show entryFrame m args 7 = _ from (congrArg (fun z => entryFrame m z 7) hargs).trans (lg_entry_eq _ _ _)]
  generalize (lg_sl ([.ref (ad 1), .int a0, .int a1]) ++ List.replicate (7 - (lg_sl ([.ref (ad 1), .int a0, .int a1])).length) Slot.unset).toArray = ls at hl ⊢
  have hl : lv_has ls 7 [(0, .ref (ad 1)), (1, .int a0), (2, .int a1)] := hl
  refine lv_iconst (v := -1) hx hb dX0_rulesOn_0 (by decide) ?_
  refine lv_istore_n (lv' := [(3, .int (-1)), (0, .ref (ad 1)), (1, .int a0), (2, .int a1)]) hx hb dX0_rulesOn_1 rfl hl (by decide) rfl (fun ls hl => ?_)
  refine lv_iconst (v := 0) hx hb dX0_rulesOn_2 (by decide) ?_
  refine lv_istore (lv' := [(4, .int 0), (3, .int (-1)), (0, .ref (ad 1)), (1, .int a0), (2, .int a1)]) hx hb dX0_rulesOn_3 hl (by decide) rfl (fun ls hl => ?_)
  refine lv_iconst (v := 0) hx hb dX0_rulesOn_5 (by decide) ?_
  refine lv_istore (lv' := [(5, .int 0), (4, .int 0), (3, .int (-1)), (0, .ref (ad 1)), (1, .int a0), (2, .int a1)]) hx hb dX0_rulesOn_6 hl (by decide) rfl (fun ls hl => ?_)
  have hL8 : ∀ d : Nat, ∀ (v8_5 : Int32) (v8_4 : Int32) (v8_3 : Int32) (H : Heap) (locs : List Loc) (ls : Array Slot), 0 ≤ v8_5.toInt ∧ v8_5.toInt ≤ 16 → 0 ≤ v8_4.toInt ∧ v8_4.toInt ≤ 400 → -1 ≤ v8_3.toInt ∧ v8_3.toInt ≤ 15 → (v8_3.toInt = -1 ∨ v8_3.toInt < ((cf 1 : Nat) : Int)) → 16 - v8_5.toInt < (d : Int) → va_P (dC, dI) vwCl (WL (LC cf) ad E) H → va_S (fun _ : Nat => False) s.heap H locs → lv_has ls 7 [(5, .int v8_5), (4, .int v8_4), (3, .int v8_3), (0, .ref (ad 1)), (1, .int a0), (2, .int a1)] → W p l e (headSpec v_rulesOnC rm_rulesOnC).room s m args below meth c H locs 0 0 Q (F0 m 8 ls []) := by
    intro d
    induction d with
    | zero =>
      intro v8_5 v8_4 v8_3 H locs ls hv8_5 hv8_4 hv8_3 hx8_0 hx8_1 hP hS hl
      exact absurd hx8_1 (by first | exact ms_zu hv8_5.2 | omega)
    | succ d ih8 =>
      intro v8_5 v8_4 v8_3 H locs ls hv8_5 hv8_4 hv8_3 hx8_0 hx8_1 hP hS hl
      refine lv_iload hx hb dX0_rulesOn_8 (lv_at hl 0 rfl) ?_
      refine lv_aload_n hx hb dX0_rulesOn_10 rfl (lv_at hl 3 rfl) ?_
      refine th_getL (ci := 1) (C := RX0) (T := TX0) (N := 11) (v := .ref (ad 8)) hx hb hts hinX0 hown hK hP hI 1 (mF 1 rfl) rfl rfl 4 (Nat.le_of_ble_eq_true rfl) (hts _ (vA_in _ _ (in_5 _ (zs16 (zs4 (zs4 (zs4 (zs1 (zs1 (zs1 (zs0))))))))))) (fun _ h9 => h9) (hI.fr 1 (mF 1 rfl) rfl (Nat.le_of_ble_eq_true rfl) 8 rfl) dX0_rulesOn_11 ?_
      refine th_riL (va_runV (As := []) (rest := [.int v8_5]) ⟨hx, hb, hml, hown, hts⟩ (q_size1 l dC dI cT cf hC ad E H.size hI) (cwV 0 hts (gi_V (in_4 _ (zs16 (zs16 (zs1 (zs1 (zs0)))))) (in_4 _ (zs16 (zs16 (zs1 (zs1 (zs1 (zs0))))))) (in_4 _ (zs16 (zs16 (zs4 (zs0))))) (in_3 _ (zs16 (zs1 (zs1 (zs0))))) (in_4 _ (zs16 (zs1 (zs1 (zs1 (zs0))))))) rfl rfl rfl ⟨rfl, hz_yJx4a65c_size_8abf5_0⟩ ⟨Nat.le_of_ble_eq_true rfl, Nat.le_of_ble_eq_true rfl⟩) ⟨HWL_bl, va_recv hK hP (ci := 0) (q0 := posL 8 (LC cf)) rfl (hI.ob 8 (mF 8 rfl) rfl), (HWL_wiR hP hK (WL_D hD) hS hEV)⟩ rfl rfl hl.1 rfl (lv_room (Nat.le_of_ble_eq_true rfl)) dX0_rulesOn_14 ⟨Nat.le_of_ble_eq_true rfl, Nat.le_of_ble_eq_true rfl⟩) hS hP (fun r1 H locs hw hP hS => ?_)
      obtain ⟨f2, f3⟩ := hw
      refine lv_icmp_ge (tgt := 78) hx hb dX0_rulesOn_17 (by decide) (fun c4 => ?_) (fun c4 => ?_)
      · --17 taken
        have t5 : r1.toInt ≤ v8_5.toInt := ti_le c4
        refine lv_iload_n hx hb dX0_rulesOn_78 rfl (lv_at hl 2 rfl) ?_
        rw [hQ]
        exact W.iret (v := v8_3) hx hb hr (fun t ht hW => ⟨⟨v8_3, (), rfl, ⟨hv8_3, by all_goals omega⟩, trivial⟩, hS.F ht⟩) hS.2.2 dX0_rulesOn_79
      · --17 not
        have t6 : v8_5.toInt < r1.toInt := ti_nle c4
        have i7 : 0 ≤ v8_5.toInt ∧ v8_5.toInt ≤ 15 := iv_lt_l t6 hv8_5 f2 (by decide)
        have i8 : 1 ≤ r1.toInt ∧ r1.toInt ≤ 16 := iv_lt_r t6 hv8_5 f2 (by decide)
        refine lv_aload_n hx hb dX0_rulesOn_20 rfl (lv_at hl 3 rfl) ?_
        refine th_getL (ci := 1) (C := RX0) (T := TX0) (N := 11) (v := .ref (ad 8)) hx hb hts hinX0 hown hK hP hI 1 (mF 1 rfl) rfl rfl 4 (Nat.le_of_ble_eq_true rfl) (hts _ (vA_in _ _ (in_5 _ (zs16 (zs4 (zs4 (zs4 (zs1 (zs1 (zs1 (zs0))))))))))) (fun _ h9 => h9) (hI.fr 1 (mF 1 rfl) rfl (Nat.le_of_ble_eq_true rfl) 8 rfl) dX0_rulesOn_21 ?_
        refine lv_iload hx hb dX0_rulesOn_24 (lv_at hl 0 rfl) ?_
        refine th_rrL (va_runV (As := [.int v8_5]) (rest := []) ⟨hx, hb, hml, hown, hts⟩ (q_get1 l dC dI cT cf hC ad E H.size v8_5 hI (by omega)) (cwV 1 hts (gi_V (in_4 _ (zs16 (zs16 (zs4 (zs1 (zs0)))))) (in_4 _ (zs16 (zs16 (zs4 (zs1 (zs1 (zs0))))))) (in_4 _ (zs16 (zs16 (zs4 (zs1 (zs1 (zs1 (zs0)))))))) (in_3 _ (zs16 (zs1 (zs1 (zs0))))) (in_3 _ (zs16 (zs16 (zs4 (zs1 (zs1 (zs1 (zs0))))))))) rfl rfl rfl ⟨rfl, hz_yJx4a65c_get_915e3_1⟩ ⟨Nat.le_of_ble_eq_true rfl, Nat.le_of_ble_eq_true rfl⟩) ⟨HWL_bl, va_recv hK hP (ci := 0) (q0 := posL 8 (LC cf)) rfl (hI.ob 8 (mF 8 rfl) rfl), (HWL_wiR hP hK (WL_D hD) hS hEV)⟩ rfl rfl hl.1 rfl (lv_room (Nat.le_of_ble_eq_true rfl)) dX0_rulesOn_26 ⟨Nat.le_of_ble_eq_true rfl, Nat.le_of_ble_eq_true rfl⟩) hS hP (fun r9 H locs hw hP hS => ?_)
        obtain rfl := hw
        have lv10 : v8_5.toNatClampNeg < cf 1 := by rw [tn_]; omega
        refine va_castS (cC := dC 8) hx hb hown (hts _ (vA_in _ _ (in_6 _ (zs16 (zs4 (zs4 (zs1 (zs1 (zs0))))))))) (hK.1 8 _ rfl).2 (va_recv hK hP (ci := 8) (q0 := posL (64 * (v8_5.toNatClampNeg + 1) + 1) (LC cf)) rfl (hI.ob (64 * (v8_5.toNatClampNeg + 1) + 1) (mP 1 v8_5.toNatClampNeg (by decide) lv10 (kl_le hC 1 (by decide))) (shC_p 1 v8_5.toNatClampNeg (by decide)))) dX0_rulesOn_29 ?_
        refine lv_astore (lv' := [(6, .ref (ad (64 * (v8_5.toNatClampNeg + 1) + 1))), (5, .int v8_5), (4, .int v8_4), (3, .int v8_3), (0, .ref (ad 1)), (1, .int a0), (2, .int a1)]) hx hb dX0_rulesOn_32 hl (by decide) rfl (fun ls hl => ?_)
        refine lv_aload hx hb dX0_rulesOn_34 (lv_at hl 0 rfl) ?_
        have i11 : 0 ≤ (xi (E (64 * (v8_5.toNatClampNeg + 1) + 1)) 1).toInt ∧ (xi (E (64 * (v8_5.toNatClampNeg + 1) + 1)) 1).toInt ≤ 400 := hI0.iv (64 * (v8_5.toNatClampNeg + 1) + 1) (mP 1 v8_5.toNatClampNeg (by decide) lv10 (kl_le hC 1 (by decide))) (shC_p 1 v8_5.toNatClampNeg (by decide)) (Nat.le_of_ble_eq_true rfl) (spC_p 1 v8_5.toNatClampNeg (by decide) 1)
        refine th_getL (ci := 8) (C := RX7) (T := TX7) (N := 6) (v := .int (xi (E (64 * (v8_5.toNatClampNeg + 1) + 1)) 1)) hx hb hts hinX7 hown hK hP hI (64 * (v8_5.toNatClampNeg + 1) + 1) (mP 1 v8_5.toNatClampNeg (by decide) lv10 (kl_le hC 1 (by decide))) (shC_p 1 v8_5.toNatClampNeg (by decide)) rfl 1 (Nat.le_of_ble_eq_true rfl) (hts _ (vA_in _ _ (in_6 _ (zs16 (zs4 (zs4 (zs4 (zs1 (zs1 (zs1 (zs0))))))))))) (fun _ h9 => h9) (th_v0L hKp hI0 (64 * (v8_5.toNatClampNeg + 1) + 1) (mP 1 v8_5.toNatClampNeg (by decide) lv10 (kl_le hC 1 (by decide))) (shC_p 1 v8_5.toNatClampNeg (by decide)) (Nat.le_of_ble_eq_true rfl) (spC_p 1 v8_5.toNatClampNeg (by decide) 1) (wl_p rfl rfl (by omega))) dX0_rulesOn_36 ?_
        refine lv_iload_n hx hb dX0_rulesOn_39 rfl (lv_at hl 6 rfl) ?_
        refine lv_icmp_gt (tgt := 72) hx hb dX0_rulesOn_40 (by decide) (fun c12 => ?_) (fun c12 => ?_)
        · --40 taken
          have t13 : a1.toInt < (xi (E (64 * (v8_5.toNatClampNeg + 1) + 1)) 1).toInt := ti_lt c12
          have i14 : -2147483648 ≤ a1.toInt ∧ a1.toInt ≤ 399 := iv_lt_l t13 (iv_all _) i11 (by decide)
          obtain ⟨y15, ey15⟩ : ∃ y : Int32, y = v8_5 + (1 : Int32) := ⟨_, rfl⟩
          obtain ⟨ty15, iy15⟩ := ti_add (e := 1) (f := 16) i7 ln_1 ey15 (by decide)
          have ty15 : y15.toInt = v8_5.toInt + 1 := ty15
          have iy15 : 1 ≤ y15.toInt ∧ y15.toInt ≤ 16 := iy15
          refine lv_iinc (v := y15) (lv' := [(5, .int y15), (6, .ref (ad (64 * (v8_5.toNatClampNeg + 1) + 1))), (4, .int v8_4), (3, .int v8_3), (0, .ref (ad 1)), (1, .int a0), (2, .int a1)]) hx hb dX0_rulesOn_72 hl (k := 1) rfl (by rw [ey15]; rfl) (by decide) rfl (fun ls hl => ?_)
          refine lv_goto (tgt := 8) hx hb dX0_rulesOn_75 (by decide) ?_
          exact ih8 y15 v8_4 v8_3 _ _ _ (iv_w iy15 (by decide)) hv8_4 hv8_3 (by have h9 := hv8_3; omega) (by first | exact ms_su hx8_1 ty15 (by decide) | omega) hP hS (lv_sub hl [0, 2, 3, 4, 5, 6] rfl)
        · --40 not
          have t16 : (xi (E (64 * (v8_5.toNatClampNeg + 1) + 1)) 1).toInt ≤ a1.toInt := ti_nlt c12
          have i17 : 0 ≤ a1.toInt ∧ a1.toInt ≤ 2147483647 := iv_le_r t16 i11 (iv_all _) (by decide)
          refine lv_aload hx hb dX0_rulesOn_43 (lv_at hl 0 rfl) ?_
          have i18 : 0 ≤ (xi (E (64 * (v8_5.toNatClampNeg + 1) + 1)) 0).toInt ∧ (xi (E (64 * (v8_5.toNatClampNeg + 1) + 1)) 0).toInt ≤ 400 := hI0.iv (64 * (v8_5.toNatClampNeg + 1) + 1) (mP 1 v8_5.toNatClampNeg (by decide) lv10 (kl_le hC 1 (by decide))) (shC_p 1 v8_5.toNatClampNeg (by decide)) (Nat.le_of_ble_eq_true rfl) (spC_p 1 v8_5.toNatClampNeg (by decide) 0)
          refine th_getL (ci := 8) (C := RX7) (T := TX7) (N := 6) (v := .int (xi (E (64 * (v8_5.toNatClampNeg + 1) + 1)) 0)) hx hb hts hinX7 hown hK hP hI (64 * (v8_5.toNatClampNeg + 1) + 1) (mP 1 v8_5.toNatClampNeg (by decide) lv10 (kl_le hC 1 (by decide))) (shC_p 1 v8_5.toNatClampNeg (by decide)) rfl 0 (Nat.le_of_ble_eq_true rfl) (hts _ (vA_in _ _ (in_6 _ (zs16 (zs16 (zs0)))))) (fun _ h9 => h9) (th_v0L hKp hI0 (64 * (v8_5.toNatClampNeg + 1) + 1) (mP 1 v8_5.toNatClampNeg (by decide) lv10 (kl_le hC 1 (by decide))) (shC_p 1 v8_5.toNatClampNeg (by decide)) (Nat.le_of_ble_eq_true rfl) (spC_p 1 v8_5.toNatClampNeg (by decide) 0) (wl_p rfl rfl (by omega))) dX0_rulesOn_45 ?_
          refine lv_iload_n hx hb dX0_rulesOn_48 rfl (lv_at hl 5 rfl) ?_
          refine lv_icmp_gt (tgt := 72) hx hb dX0_rulesOn_49 (by decide) (fun c19 => ?_) (fun c19 => ?_)
          · --49 taken
            have t20 : a0.toInt < (xi (E (64 * (v8_5.toNatClampNeg + 1) + 1)) 0).toInt := ti_lt c19
            have i21 : -2147483648 ≤ a0.toInt ∧ a0.toInt ≤ 399 := iv_lt_l t20 (iv_all _) i18 (by decide)
            obtain ⟨y22, ey22⟩ : ∃ y : Int32, y = v8_5 + (1 : Int32) := ⟨_, rfl⟩
            obtain ⟨ty22, iy22⟩ := ti_add (e := 1) (f := 16) i7 ln_1 ey22 (by decide)
            have ty22 : y22.toInt = v8_5.toInt + 1 := ty22
            have iy22 : 1 ≤ y22.toInt ∧ y22.toInt ≤ 16 := iy22
            refine lv_iinc (v := y22) (lv' := [(5, .int y22), (6, .ref (ad (64 * (v8_5.toNatClampNeg + 1) + 1))), (4, .int v8_4), (3, .int v8_3), (0, .ref (ad 1)), (1, .int a0), (2, .int a1)]) hx hb dX0_rulesOn_72 hl (k := 1) rfl (by rw [ey22]; rfl) (by decide) rfl (fun ls hl => ?_)
            refine lv_goto (tgt := 8) hx hb dX0_rulesOn_75 (by decide) ?_
            exact ih8 y22 v8_4 v8_3 _ _ _ (iv_w iy22 (by decide)) hv8_4 hv8_3 (by have h9 := hv8_3; omega) (by first | exact ms_su hx8_1 ty22 (by decide) | omega) hP hS (lv_sub hl [0, 2, 3, 4, 5, 6] rfl)
          · --49 not
            have t23 : (xi (E (64 * (v8_5.toNatClampNeg + 1) + 1)) 0).toInt ≤ a0.toInt := ti_nlt c19
            have i24 : 0 ≤ a0.toInt ∧ a0.toInt ≤ 2147483647 := iv_le_r t23 i18 (iv_all _) (by decide)
            refine lv_aload hx hb dX0_rulesOn_52 (lv_at hl 0 rfl) ?_
            refine th_getL (ci := 8) (C := RX7) (T := TX7) (N := 6) (v := .int (xi (E (64 * (v8_5.toNatClampNeg + 1) + 1)) 0)) hx hb hts hinX7 hown hK hP hI (64 * (v8_5.toNatClampNeg + 1) + 1) (mP 1 v8_5.toNatClampNeg (by decide) lv10 (kl_le hC 1 (by decide))) (shC_p 1 v8_5.toNatClampNeg (by decide)) rfl 0 (Nat.le_of_ble_eq_true rfl) (hts _ (vA_in _ _ (in_6 _ (zs16 (zs16 (zs0)))))) (fun _ h9 => h9) (th_v0L hKp hI0 (64 * (v8_5.toNatClampNeg + 1) + 1) (mP 1 v8_5.toNatClampNeg (by decide) lv10 (kl_le hC 1 (by decide))) (shC_p 1 v8_5.toNatClampNeg (by decide)) (Nat.le_of_ble_eq_true rfl) (spC_p 1 v8_5.toNatClampNeg (by decide) 0) (wl_p rfl rfl (by omega))) dX0_rulesOn_54 ?_
            refine lv_iload hx hb dX0_rulesOn_57 (lv_at hl 2 rfl) ?_
            refine lv_icmp_lt (tgt := 72) hx hb dX0_rulesOn_59 (by decide) (fun c25 => ?_) (fun c25 => ?_)
            · --59 taken
              have t26 : (xi (E (64 * (v8_5.toNatClampNeg + 1) + 1)) 0).toInt < v8_4.toInt := ti_lt c25
              have i27 : 0 ≤ (xi (E (64 * (v8_5.toNatClampNeg + 1) + 1)) 0).toInt ∧ (xi (E (64 * (v8_5.toNatClampNeg + 1) + 1)) 0).toInt ≤ 399 := iv_lt_l t26 i18 hv8_4 (by decide)
              have i28 : 1 ≤ v8_4.toInt ∧ v8_4.toInt ≤ 400 := iv_lt_r t26 i18 hv8_4 (by decide)
              obtain ⟨y29, ey29⟩ : ∃ y : Int32, y = v8_5 + (1 : Int32) := ⟨_, rfl⟩
              obtain ⟨ty29, iy29⟩ := ti_add (e := 1) (f := 16) i7 ln_1 ey29 (by decide)
              have ty29 : y29.toInt = v8_5.toInt + 1 := ty29
              have iy29 : 1 ≤ y29.toInt ∧ y29.toInt ≤ 16 := iy29
              refine lv_iinc (v := y29) (lv' := [(5, .int y29), (6, .ref (ad (64 * (v8_5.toNatClampNeg + 1) + 1))), (4, .int v8_4), (3, .int v8_3), (0, .ref (ad 1)), (1, .int a0), (2, .int a1)]) hx hb dX0_rulesOn_72 hl (k := 1) rfl (by rw [ey29]; rfl) (by decide) rfl (fun ls hl => ?_)
              refine lv_goto (tgt := 8) hx hb dX0_rulesOn_75 (by decide) ?_
              exact ih8 y29 v8_4 v8_3 _ _ _ (iv_w iy29 (by decide)) (iv_w i28 (by decide)) hv8_3 (by have h9 := hv8_3; omega) (by first | exact ms_su hx8_1 ty29 (by decide) | omega) hP hS (lv_sub hl [0, 2, 3, 4, 5, 6] rfl)
            · --59 not
              have t30 : v8_4.toInt ≤ (xi (E (64 * (v8_5.toNatClampNeg + 1) + 1)) 0).toInt := ti_nlt c25
              refine lv_iload hx hb dX0_rulesOn_62 (lv_at hl 1 rfl) ?_
              refine lv_istore_n (lv' := [(3, .int v8_5), (6, .ref (ad (64 * (v8_5.toNatClampNeg + 1) + 1))), (5, .int v8_5), (4, .int v8_4), (0, .ref (ad 1)), (1, .int a0), (2, .int a1)]) hx hb dX0_rulesOn_64 rfl hl (by decide) rfl (fun ls hl => ?_)
              refine lv_aload hx hb dX0_rulesOn_65 (lv_at hl 1 rfl) ?_
              refine th_getL (ci := 8) (C := RX7) (T := TX7) (N := 6) (v := .int (xi (E (64 * (v8_5.toNatClampNeg + 1) + 1)) 0)) hx hb hts hinX7 hown hK hP hI (64 * (v8_5.toNatClampNeg + 1) + 1) (mP 1 v8_5.toNatClampNeg (by decide) lv10 (kl_le hC 1 (by decide))) (shC_p 1 v8_5.toNatClampNeg (by decide)) rfl 0 (Nat.le_of_ble_eq_true rfl) (hts _ (vA_in _ _ (in_6 _ (zs16 (zs16 (zs0)))))) (fun _ h9 => h9) (th_v0L hKp hI0 (64 * (v8_5.toNatClampNeg + 1) + 1) (mP 1 v8_5.toNatClampNeg (by decide) lv10 (kl_le hC 1 (by decide))) (shC_p 1 v8_5.toNatClampNeg (by decide)) (Nat.le_of_ble_eq_true rfl) (spC_p 1 v8_5.toNatClampNeg (by decide) 0) (wl_p rfl rfl (by omega))) dX0_rulesOn_67 ?_
              refine lv_istore (lv' := [(4, .int (xi (E (64 * (v8_5.toNatClampNeg + 1) + 1)) 0)), (3, .int v8_5), (6, .ref (ad (64 * (v8_5.toNatClampNeg + 1) + 1))), (5, .int v8_5), (0, .ref (ad 1)), (1, .int a0), (2, .int a1)]) hx hb dX0_rulesOn_70 hl (by decide) rfl (fun ls hl => ?_)
              obtain ⟨y31, ey31⟩ : ∃ y : Int32, y = v8_5 + (1 : Int32) := ⟨_, rfl⟩
              obtain ⟨ty31, iy31⟩ := ti_add (e := 1) (f := 16) i7 ln_1 ey31 (by decide)
              have ty31 : y31.toInt = v8_5.toInt + 1 := ty31
              have iy31 : 1 ≤ y31.toInt ∧ y31.toInt ≤ 16 := iy31
              refine lv_iinc (v := y31) (lv' := [(5, .int y31), (4, .int (xi (E (64 * (v8_5.toNatClampNeg + 1) + 1)) 0)), (3, .int v8_5), (6, .ref (ad (64 * (v8_5.toNatClampNeg + 1) + 1))), (0, .ref (ad 1)), (1, .int a0), (2, .int a1)]) hx hb dX0_rulesOn_72 hl (k := 3) rfl (by rw [ey31]; rfl) (by decide) rfl (fun ls hl => ?_)
              refine lv_goto (tgt := 8) hx hb dX0_rulesOn_75 (by decide) ?_
              exact ih8 y31 (xi (E (64 * (v8_5.toNatClampNeg + 1) + 1)) 0) v8_5 _ _ _ (iv_w iy31 (by decide)) i18 (iv_w i7 (by decide)) (by have h9 := i7; omega) (by first | exact ms_su hx8_1 ty31 (by decide) | omega) hP hS (lv_sub hl [0, 1, 2, 4, 5, 6] rfl)
  exact hL8 (17) (0 : Int32) (0 : Int32) (-1 : Int32) _ _ _ (iv_w ln_0 (by decide)) (iv_w ln_0 (by decide)) (iv_w ln_m1 (by decide)) (by have h9 := ln_m1; omega) (by have h9 := ln_0; first | exact ms_bu h9.1 (by decide) | omega) hP hS (lv_sub hl [0, 1, 2, 3, 4, 5] rfl)
def v_worthIn : List Cond := .code yX0_worthIn cX0_worthIn 3 (some .int) :: vA
abbrev rm_worthIn : Room := { frames := 3, cells := 0, slots := 0, locals := 120 }
def w_worthIn : Nat → Nat → Bool := wl [20] []
set_option maxHeartbeats 4000000 in
set_option maxRecDepth 100000 in
theorem q_worthIn (l : Launch) (dC : Nat → ClassId) (dI : Nat → Nat → Nat) (cT : Nat → ClassId) (cf : Nat → Nat) (hC : CF cf) (ad : Nat → Nat) (E : Nat → va_E) (sz : Nat) (a0 : Int32) (a1 : Int32) (hI0 : IXL cT (shC cf) (spC cf) (LC cf) ad E) (hh0 : -1 ≤ a0.toInt ∧ a0.toInt ≤ 15) (hh1 : (a0.toInt = -1 ∨ a0.toInt < ((cf 1 : Nat) : Int))) : Met l yX0_worthIn v_worthIn rm_worthIn (va_Pc [.ref (ad 1), .int a0, .int a1] (HWL dC dI (TYC cT) cf ad E sz)) (va_Qi (S := Nat → va_E) (fun r u => IXL cT (shC cf) (spC cf) (LC cf) ad u ∧ Kp w_worthIn E u ∧ (True)) (HBL dC dI (LC cf) ad) (va_A (WL (LC cf) ad E) sz)) 0 0 (va_A (WL (LC cf) ad E) sz) := by
  obtain ⟨⟨hc0, hc1, hc2, hc3, hc4, hc5⟩, hcr⟩ := id hC
  refine Met.ofW (cc := cX0_worthIn) (maxL := 3) (ret := (some .int)) (by decide) rfl ?_
  intro p e s m args below meth c s₁ B hml hv
  obtain ⟨hargs, hsz, hP, hK, hD0, hEV⟩ := hv
  subst hsz
  have hx := B.exec
  have hb := B.bytes
  have hr := B.returns
  have hts := atoms_spec (ws := v_worthIn) B.pre
  have hown : s.vm.findClass RX0 = some m.cls := findClass_of_methodNamed B.named
  have hlocks := B.notSynchronized
  have hinX0 : ∀ w ∈ u_ws RX0 TX0 11, w ∈ v_worthIn := fun w h => vA_in _ w (in_X0 w h)
  generalize hAe : va_A (WL (LC cf) ad E) s.heap.size = A at hEV ⊢
  have hA : ∀ q : Nat, s.heap.size ≤ q → A q := fun q h => by rw [← hAe]; exact Or.inr h
  have hD : va_D A (WL (LC cf) ad E) := by rw [← hAe]; exact hD0.self
  have hS : va_S A s.heap s.heap [] := va_S.rf
  have hI := hI0
  have hKp : Kp w_worthIn E E := Kp.rf
  have hl := lv_entry ([.ref (ad 1), .int a0, .int a1]) (n := 3) (Nat.le_of_ble_eq_true rfl)
  obtain ⟨Q, hQ⟩ : ∃ Q, Q = MQ below (va_Qi (S := Nat → va_E) (fun r u => IXL cT (shC cf) (spC cf) (LC cf) ad u ∧ Kp w_worthIn E u ∧ (True)) (HBL dC dI (LC cf) ad) (A)) args s 0 0 (A) := ⟨_, rfl⟩
  rw [← hQ, show entryFrame m args 3 = _ from (congrArg (fun z => entryFrame m z 3) hargs).trans (lg_entry_eq _ _ _)]
  generalize (lg_sl ([.ref (ad 1), .int a0, .int a1]) ++ List.replicate (3 - (lg_sl ([.ref (ad 1), .int a0, .int a1])).length) Slot.unset).toArray = ls at hl ⊢
  have hl : lv_has ls 3 [(0, .ref (ad 1)), (1, .int a0), (2, .int a1)] := hl
  refine lv_iload_n hx hb dX0_worthIn_0 rfl (lv_at hl 1 rfl) ?_
  refine lv_iconst (v := -1) hx hb dX0_worthIn_1 (by decide) ?_
  refine lv_icmp_ne (tgt := 9) hx hb dX0_worthIn_2 (by decide) (fun c1 => ?_) (fun c1 => ?_)
  · --2 taken
    have t2 : ¬ a0.toInt = -1 := ti_ne c1
    have i3 : 0 ≤ a0.toInt ∧ a0.toInt ≤ 15 := iv_ne_l t2 hh0 (il_ (-1))
    refine lv_aload_n hx hb dX0_worthIn_9 rfl (lv_at hl 0 rfl) ?_
    refine th_getL (ci := 1) (C := RX0) (T := TX0) (N := 11) (v := .ref (ad 8)) hx hb hts hinX0 hown hK hP hI 1 (mF 1 rfl) rfl rfl 4 (Nat.le_of_ble_eq_true rfl) (hts _ (vA_in _ _ (in_5 _ (zs16 (zs4 (zs4 (zs4 (zs1 (zs1 (zs1 (zs0))))))))))) (fun _ h9 => h9) (hI.fr 1 (mF 1 rfl) rfl (Nat.le_of_ble_eq_true rfl) 8 rfl) dX0_worthIn_10 ?_
    refine lv_iload_n hx hb dX0_worthIn_13 rfl (lv_at hl 1 rfl) ?_
    refine th_rrL (va_runV (As := [.int a0]) (rest := []) ⟨hx, hb, hml, hown, hts⟩ (q_get1 l dC dI cT cf hC ad E s.heap.size a0 hI (by omega)) (cwV 1 hts (gi_V (in_4 _ (zs16 (zs16 (zs4 (zs1 (zs0)))))) (in_4 _ (zs16 (zs16 (zs4 (zs1 (zs1 (zs0))))))) (in_4 _ (zs16 (zs16 (zs4 (zs1 (zs1 (zs1 (zs0)))))))) (in_3 _ (zs16 (zs1 (zs1 (zs0))))) (in_3 _ (zs16 (zs16 (zs4 (zs1 (zs1 (zs1 (zs0))))))))) rfl rfl rfl ⟨rfl, hz_yJx4a65c_get_915e3_1⟩ ⟨Nat.le_of_ble_eq_true rfl, Nat.le_of_ble_eq_true rfl⟩) ⟨HWL_bl, va_recv hK hP (ci := 0) (q0 := posL 8 (LC cf)) rfl (hI.ob 8 (mF 8 rfl) rfl), (HWL_wi hP hK (WL_D hD) hS hA hEV)⟩ rfl rfl hl.1 rfl (lv_room (Nat.le_of_ble_eq_true rfl)) dX0_worthIn_14 ⟨Nat.le_of_ble_eq_true rfl, Nat.le_of_ble_eq_true rfl⟩) hS hP (fun r4 H locs hw hP hS => ?_)
    obtain rfl := hw
    have lv5 : a0.toNatClampNeg < cf 1 := by rw [tn_]; omega
    refine va_castS (cC := dC 8) hx hb hown (hts _ (vA_in _ _ (in_6 _ (zs16 (zs4 (zs4 (zs1 (zs1 (zs0))))))))) (hK.1 8 _ rfl).2 (va_recv hK hP (ci := 8) (q0 := posL (64 * (a0.toNatClampNeg + 1) + 1) (LC cf)) rfl (hI.ob (64 * (a0.toNatClampNeg + 1) + 1) (mP 1 a0.toNatClampNeg (by decide) lv5 (kl_le hC 1 (by decide))) (shC_p 1 a0.toNatClampNeg (by decide)))) dX0_worthIn_17 ?_
    refine lv_iload_n hx hb dX0_worthIn_20 rfl (lv_at hl 2 rfl) ?_
    refine lv_aload_n hx hb dX0_worthIn_21 rfl (lv_at hl 0 rfl) ?_
    refine th_getL (ci := 1) (C := RX0) (T := TX0) (N := 11) (v := .ref (ad 19)) hx hb hts hinX0 hown hK hP hI 1 (mF 1 rfl) rfl rfl 9 (Nat.le_of_ble_eq_true rfl) (hts _ (vA_in _ _ (in_5 _ (zs16 (zs4 (zs4 (zs0))))))) (fun _ h9 => h9) (hI.fr 1 (mF 1 rfl) rfl (Nat.le_of_ble_eq_true rfl) 19 rfl) dX0_worthIn_22 ?_
    refine lv_aload_n hx hb dX0_worthIn_25 rfl (lv_at hl 0 rfl) ?_
    refine th_getL (ci := 1) (C := RX0) (T := TX0) (N := 11) (v := .ref (ad 20)) hx hb hts hinX0 hown hK hP hI 1 (mF 1 rfl) rfl rfl 10 (Nat.le_of_ble_eq_true rfl) (hts _ (vA_in _ _ (in_5 _ (zs16 (zs16 (zs1 (zs1 (zs0)))))))) (fun _ h9 => h9) (hI.fr 1 (mF 1 rfl) rfl (Nat.le_of_ble_eq_true rfl) 20 rfl) dX0_worthIn_26 ?_
    refine th_iL (va_runV (As := [.int a1, .ref (ad 19), .ref (ad 20)]) (rest := []) ⟨hx, hb, hml, hown, hts⟩ (q_worthOf l dC dI cT cf hC ad E H.size a1 a0.toNatClampNeg hI (by omega)) (cwV 3 hts (gi_V (in_6 _ (zs16 (zs16 (zs4 (zs1 (zs1 (zs1 (zs0)))))))) (in_7 _ zs0) (in_7 _ (zs1 (zs0))) (in_7 _ (zs1 (zs1 (zs0)))) (in_7 _ (zs1 (zs1 (zs1 (zs0)))))) rfl rfl rfl ⟨rfl, hz_yX7_worthOf_3⟩ ⟨Nat.le_of_ble_eq_true rfl, Nat.le_of_ble_eq_true rfl⟩) ⟨HWL_bl, va_recv hK hP (ci := 8) (q0 := posL (64 * (a0.toNatClampNeg + 1) + 1) (LC cf)) rfl (hI.ob (64 * (a0.toNatClampNeg + 1) + 1) (mP 1 a0.toNatClampNeg (by decide) lv5 (kl_le hC 1 (by decide))) (shC_p 1 a0.toNatClampNeg (by decide))), (HWL_wi hP hK (WL_D hD) hS hA hEV)⟩ rfl rfl hl.1 rfl (lv_room (Nat.le_of_ble_eq_true rfl)) dX0_worthIn_29 ⟨Nat.le_of_ble_eq_true rfl, Nat.le_of_ble_eq_true rfl⟩) (WL_D hD) hS hA (fun r6 E7 H locs hw hP hS => ?_)
    obtain ⟨hI, kq8, hw⟩ := hw
    have hKb := hKp
    have hKp := hKp.tr kq8 (wl_sub rfl rfl)
    rw [hQ]
    exact W.iret (v := r6) hx hb hr (fun t ht hW => ⟨⟨r6, E7, rfl, ⟨hI, hKp, trivial⟩, by show va_P (dC, dI) vwCl (WL (LC cf) ad E7) t.heap; rw [ht]; exact hP⟩, hS.F ht⟩) hS.2.2 dX0_worthIn_32
  · --2 not
    have t9 : a0.toInt = -1 := ti_eq c1
    have i10 : -1 ≤ a0.toInt ∧ a0.toInt ≤ -1 := iv_eqi t9 hh0 (il_ (-1)) (by decide)
    refine lv_iconst (v := 0) hx hb dX0_worthIn_5 (by decide) ?_
    refine lv_goto (tgt := 32) hx hb dX0_worthIn_6 (by decide) ?_
    rw [hQ]
    exact W.iret (v := 0) hx hb hr (fun t ht hW => ⟨⟨0, E, rfl, ⟨hI, hKp, trivial⟩, by show va_P (dC, dI) vwCl (WL (LC cf) ad E) t.heap; rw [ht]; exact hP⟩, hS.F ht⟩) hS.2.2 dX0_worthIn_32
