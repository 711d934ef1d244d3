def tyX13 : Nat → FieldType := fun k => match k with
  | 0 => .int
  | 1 => .int
  | 2 => .array .int
  | 3 => .array .int
  | 4 => .array .int
  | 5 => .array .int
  | 6 => .array .int
  | 7 => .array .int
  | 8 => .int
  | 9 => .int
  | 10 => .array .byte
  | 11 => .array .byte
  | 12 => .array .int
  | 13 => .array .int
  | 14 => .array .int
  | 15 => .array .int
  | 16 => .int
  | 17 => .int
  | 18 => .array .byte
  | 19 => .int
  | 20 => .int
  | 21 => .int
  | 22 => .int
  | 23 => .int
  | 24 => .int
  | 25 => .int
  | 26 => .boolean
  | 27 => .array .int
  | 28 => .array .int
  | 29 => .array .int
  | 30 => .array .int
  | 31 => .array .int
  | 32 => .array .int
  | 33 => .array .int
  | 34 => .array .int
  | 35 => .array .int
  | 36 => .array .int
  | 37 => .array .int
  | 38 => .array .int
  | 39 => .array .int
  | 40 => .array .int
  | 41 => .array .int
  | 42 => .array .int
  | 43 => .array .int
  | 44 => .array .int
  | 45 => .array .int
  | 46 => .int
  | 47 => .int
  | 48 => .int
  | 49 => .array .int
  | 50 => .array .int
  | 51 => .array .int
  | 52 => .array .int
  | 53 => .array .boolean
  | 54 => .array .boolean
  | 55 => .int
  | 56 => .array .int
  | 57 => .array .int
  | 58 => .array .int
  | 59 => .array .int
  | 60 => .array .int
  | 61 => .array .int
  | 62 => .array .int
  | 63 => .array .int
  | 64 => .array .int
  | 65 => .array .int
  | 66 => .array .int
  | 67 => .array .int
  | 68 => .array .int
  | 69 => .array .int
  | 70 => .array .int
  | 71 => .array .int
  | 72 => .array .int
  | 73 => .array .boolean
  | 74 => .int
  | 75 => .int
  | 76 => .array .int
  | 77 => .array .int
  | 78 => .array .int
  | 79 => .array .int
  | 80 => .array .int
  | 81 => .array .int
  | 82 => .array .int
  | 83 => .array .int
  | 84 => .array .int
  | 85 => .array .int
  | 86 => .int
  | 87 => .int
  | 88 => .int
  | 89 => .int
  | 90 => .array .int
  | 91 => .array .int
  | 92 => .array .int
  | 93 => .array .int
  | 94 => .array .int
  | 95 => .int
  | _ => .array .int
theorem nmX13 : ∀ a, a < 97 → ∀ b, b < 97 → a ≠ b → (TX13 a).2.1 ≠ (TX13 b).2.1 := by decide +kernel
theorem tyX13_ok : ∀ k, k < 97 → parseFieldDescriptor (TX13 k).2.2.1 = some (tyX13 k) := by decide +kernel
set_option maxRecDepth 100000 in
theorem zh_dX13_isIn_0_0 : zc cX13_isIn 0 [26, 27, 161, 0, 12, 26, 28, 163, 0, 7, 4, 167, 0, 4, 3, 172] = true := by decide +kernel
set_option maxRecDepth 100000 in
theorem zh_dX13_isKnown_0_0 : zc cX13_isKnown 0 [27, 3, 42, 180, 0, 232, 184, 0, 235, 172] = true := by decide +kernel
set_option maxRecDepth 100000 in
theorem zh_dX13_isDay_0_0 : zc cX13_isDay 0 [26, 3, 17, 1, 144, 184, 0, 235, 172] = true := by decide +kernel
set_option maxRecDepth 100000 in
theorem zh_dX13_isBoat_0_0 : zc cX13_isBoat 0 [27, 155, 0, 15, 27, 42, 180, 0, 239, 162, 0, 7, 4, 167, 0, 4] = true := by decide +kernel
set_option maxRecDepth 100000 in
theorem zh_dX13_isBoat_16_16 : zc cX13_isBoat 16 [3, 172] = true := by decide +kernel
set_option maxRecDepth 100000 in
theorem zh_dX13_certOn_0_0 : zc cX13_certOn 0 [2, 54, 4, 3, 54, 5, 21, 5, 42, 180, 0, 242, 162, 0, 69, 42] = true := by decide +kernel
set_option maxRecDepth 100000 in
theorem zh_dX13_certOn_16_16 : zc cX13_certOn 16 [180, 0, 9, 21, 5, 46, 27, 160, 0, 52, 42, 180, 0, 25, 21, 5] = true := by decide +kernel
set_option maxRecDepth 100000 in
theorem zh_dX13_certOn_32_32 : zc cX13_certOn 32 [46, 29, 163, 0, 41, 42, 180, 0, 13, 21, 5, 46, 28, 163, 0, 30] = true := by decide +kernel
set_option maxRecDepth 100000 in
theorem zh_dX13_certOn_48_48 : zc cX13_certOn 48 [21, 4, 2, 159, 0, 20, 42, 180, 0, 13, 21, 5, 46, 42, 180, 0] = true := by decide +kernel
set_option maxRecDepth 100000 in
theorem zh_dX13_certOn_62_64 : zc cX13_certOn 64 [13, 21, 4, 46, 161, 0, 7, 21, 5, 54, 4, 132, 5, 1, 167, 255] = true := by decide +kernel
set_option maxRecDepth 100000 in
theorem zh_dX13_certOn_78_80 : zc cX13_certOn 80 [184, 21, 4, 172] = true := by decide +kernel
set_option maxRecDepth 100000 in
theorem zh_dX13_bytesIn_0_0 : zc cX13_bytesIn 0 [3, 60, 16, 24, 61, 28, 155, 0, 27, 27, 26, 28, 122, 17, 0, 255] = true := by decide +kernel
set_option maxRecDepth 100000 in
theorem zh_dX13_bytesIn_16_16 : zc cX13_bytesIn 16 [126, 153, 0, 7, 4, 167, 0, 4, 3, 96, 60, 132, 2, 248, 167, 255] = true := by decide +kernel
set_option maxRecDepth 100000 in
theorem zh_dX13_bytesIn_30_32 : zc cX13_bytesIn 32 [231, 27, 172] = true := by decide +kernel
set_option maxRecDepth 100000 in
theorem zh_dX13_rulesOn_0_0 : zc cX13_rulesOn 0 [2, 62, 3, 54, 4, 21, 4, 42, 180, 1, 114, 162, 0, 55, 42, 180] = true := by decide +kernel
set_option maxRecDepth 100000 in
theorem zh_dX13_rulesOn_15_16 : zc cX13_rulesOn 16 [0, 41, 21, 4, 46, 28, 163, 0, 38, 42, 180, 0, 38, 21, 4, 46] = true := by decide +kernel
set_option maxRecDepth 100000 in
theorem zh_dX13_rulesOn_32_32 : zc cX13_rulesOn 32 [27, 163, 0, 27, 29, 2, 159, 0, 19, 42, 180, 0, 38, 21, 4, 46] = true := by decide +kernel
set_option maxRecDepth 100000 in
theorem zh_dX13_rulesOn_48_48 : zc cX13_rulesOn 48 [42, 180, 0, 38, 29, 46, 161, 0, 6, 21, 4, 62, 132, 4, 1, 167] = true := by decide +kernel
set_option maxRecDepth 100000 in
theorem zh_dX13_rulesOn_63_64 : zc cX13_rulesOn 64 [255, 198, 29, 172] = true := by decide +kernel
set_option maxRecDepth 100000 in
theorem zh_dX13_clear_0_0 : zc cX13_clear 0 [3, 60, 27, 17, 0, 128, 162, 0, 16, 42, 180, 0, 44, 27, 3, 79] = true := by decide +kernel
set_option maxRecDepth 100000 in
theorem zh_dX13_clear_16_16 : zc cX13_clear 16 [132, 1, 1, 167, 255, 239, 177] = true := by decide +kernel
set_option maxRecDepth 100000 in
theorem zh_dX13_isRace_0_0 : zc cX13_isRace 0 [27, 155, 0, 15, 27, 42, 180, 1, 134, 162, 0, 7, 4, 167, 0, 4] = true := by decide +kernel
set_option maxRecDepth 100000 in
theorem zh_dX13_isRace_16_16 : zc cX13_isRace 16 [3, 172] = true := by decide +kernel
set_option maxRecDepth 100000 in
theorem zh_dX13_isEntered_0_0 : zc cX13_isEntered 0 [42, 180, 0, 74, 16, 16, 27, 104, 28, 96, 46, 29, 163, 0, 7, 4] = true := by decide +kernel
set_option maxRecDepth 100000 in
theorem zh_dX13_isEntered_16_16 : zc cX13_isEntered 16 [167, 0, 4, 3, 172] = true := by decide +kernel
set_option maxRecDepth 100000 in
theorem zh_dX13_isEntry_0_0 : zc cX13_isEntry 0 [42, 27, 182, 1, 137, 153, 0, 28, 42, 28, 182, 0, 245, 153, 0, 20] = true := by decide +kernel
set_option maxRecDepth 100000 in
theorem zh_dX13_isEntry_16_16 : zc cX13_isEntry 16 [42, 27, 28, 42, 180, 0, 232, 182, 1, 140, 153, 0, 7, 4, 167, 0] = true := by decide +kernel
set_option maxRecDepth 100000 in
theorem zh_dX13_isEntry_30_32 : zc cX13_isEntry 32 [4, 3, 172] = true := by decide +kernel
set_option maxRecDepth 100000 in
theorem zh_dX13_resultOf_0_0 : zc cX13_resultOf 0 [2, 54, 4, 3, 54, 5, 21, 5, 42, 180, 1, 143, 162, 0, 46, 42] = true := by decide +kernel
set_option maxRecDepth 100000 in
theorem zh_dX13_resultOf_16_16 : zc cX13_resultOf 16 [180, 0, 83, 21, 5, 46, 27, 160, 0, 29, 42, 180, 0, 86, 21, 5] = true := by decide +kernel
set_option maxRecDepth 100000 in
theorem zh_dX13_resultOf_32_32 : zc cX13_resultOf 32 [46, 28, 160, 0, 18, 42, 180, 0, 95, 21, 5, 46, 29, 163, 0, 7] = true := by decide +kernel
set_option maxRecDepth 100000 in
theorem zh_dX13_resultOf_48_48 : zc cX13_resultOf 48 [21, 5, 54, 4, 132, 5, 1, 167, 255, 207, 21, 4, 172] = true := by decide +kernel
set_option maxRecDepth 100000 in
theorem zh_dX13_asks_0_0 : zc cX13_asks 0 [42, 3, 181, 0, 228, 42, 27, 182, 1, 137, 153, 0, 33, 42, 28, 182] = true := by decide +kernel
set_option maxRecDepth 100000 in
theorem zh_dX13_asks_15_16 : zc cX13_asks 16 [0, 245, 153, 0, 25, 42, 29, 182, 0, 252, 153, 0, 17, 42, 180, 0] = true := by decide +kernel
set_option maxRecDepth 100000 in
theorem zh_dX13_asks_30_32 : zc cX13_asks 32 [71, 27, 46, 29, 163, 0, 7, 4, 167, 0, 4, 3, 172] = true := by decide +kernel
set_option maxRecDepth 100000 in
theorem zh_dX13_asksEntry_0_0 : zc cX13_asksEntry 0 [42, 27, 28, 29, 182, 1, 157, 153, 0, 17, 42, 27, 28, 29, 182, 1] = true := by decide +kernel
set_option maxRecDepth 100000 in
theorem zh_dX13_asksEntry_14_16 : zc cX13_asksEntry 16 [140, 153, 0, 7, 4, 167, 0, 4, 3, 172] = true := by decide +kernel
set_option maxRecDepth 100000 in
theorem zh_dX13_farFrom_0_0 : zc cX13_farFrom 0 [3, 42, 180, 0, 135, 27, 46, 28, 100, 28, 42, 180, 0, 135, 27, 46] = true := by decide +kernel
set_option maxRecDepth 100000 in
theorem zh_dX13_farFrom_16_16 : zc cX13_farFrom 16 [100, 42, 180, 0, 141, 27, 46, 100, 184, 1, 129, 184, 1, 129, 54, 4] = true := by decide +kernel
set_option maxRecDepth 100000 in
theorem zh_dX13_farFrom_32_32 : zc cX13_farFrom 32 [3, 42, 180, 0, 138, 27, 46, 29, 100, 29, 42, 180, 0, 138, 27, 46] = true := by decide +kernel
set_option maxRecDepth 100000 in
theorem zh_dX13_farFrom_48_48 : zc cX13_farFrom 48 [100, 42, 180, 0, 141, 27, 46, 100, 184, 1, 129, 184, 1, 129, 54, 5] = true := by decide +kernel
set_option maxRecDepth 100000 in
theorem zh_dX13_farFrom_64_64 : zc cX13_farFrom 64 [21, 4, 21, 5, 184, 1, 129, 172] = true := by decide +kernel
theorem dX13_isIn_0 : decode cX13_isIn 0 = .ok (.iload_n 0, 1) := zo_26 (zi_at zh_dX13_isIn_0_0 0 rfl)
theorem dX13_isIn_1 : decode cX13_isIn 1 = .ok (.iload_n 1, 1) := zo_27 (zi_at zh_dX13_isIn_0_0 1 rfl)
theorem dX13_isIn_2 : decode cX13_isIn 2 = .ok (.if_icmp .lt 12, 3) := zo_161 (zi_at zh_dX13_isIn_0_0 2 rfl) (zi_at zh_dX13_isIn_0_0 3 rfl) (zi_at zh_dX13_isIn_0_0 4 rfl) rfl
theorem dX13_isIn_5 : decode cX13_isIn 5 = .ok (.iload_n 0, 1) := zo_26 (zi_at zh_dX13_isIn_0_0 5 rfl)
theorem dX13_isIn_6 : decode cX13_isIn 6 = .ok (.iload_n 2, 1) := zo_28 (zi_at zh_dX13_isIn_0_0 6 rfl)
theorem dX13_isIn_7 : decode cX13_isIn 7 = .ok (.if_icmp .gt 7, 3) := zo_163 (zi_at zh_dX13_isIn_0_0 7 rfl) (zi_at zh_dX13_isIn_0_0 8 rfl) (zi_at zh_dX13_isIn_0_0 9 rfl) rfl
theorem dX13_isIn_10 : decode cX13_isIn 10 = .ok (.iconst 1, 1) := zo_4 (zi_at zh_dX13_isIn_0_0 10 rfl)
theorem dX13_isIn_11 : decode cX13_isIn 11 = .ok (.goto 4, 3) := zo_167 (zi_at zh_dX13_isIn_0_0 11 rfl) (zi_at zh_dX13_isIn_0_0 12 rfl) (zi_at zh_dX13_isIn_0_0 13 rfl) rfl
theorem dX13_isIn_14 : decode cX13_isIn 14 = .ok (.iconst 0, 1) := zo_3 (zi_at zh_dX13_isIn_0_0 14 rfl)
theorem dX13_isIn_15 : decode cX13_isIn 15 = .ok (.ireturn, 1) := zo_172 (zi_at zh_dX13_isIn_0_0 15 rfl)
theorem dX13_isKnown_0 : decode cX13_isKnown 0 = .ok (.iload_n 1, 1) := zo_27 (zi_at zh_dX13_isKnown_0_0 0 rfl)
theorem dX13_isKnown_1 : decode cX13_isKnown 1 = .ok (.iconst 0, 1) := zo_3 (zi_at zh_dX13_isKnown_0_0 1 rfl)
theorem dX13_isKnown_2 : decode cX13_isKnown 2 = .ok (.aload_n 0, 1) := zo_42 (zi_at zh_dX13_isKnown_0_0 2 rfl)
theorem dX13_isKnown_3 : decode cX13_isKnown 3 = .ok (.getfield 232, 3) := zo_180 (zi_at zh_dX13_isKnown_0_0 3 rfl) (zi_at zh_dX13_isKnown_0_0 4 rfl) (zi_at zh_dX13_isKnown_0_0 5 rfl) rfl
theorem dX13_isKnown_6 : decode cX13_isKnown 6 = .ok (.invokestatic 235, 3) := zo_184 (zi_at zh_dX13_isKnown_0_0 6 rfl) (zi_at zh_dX13_isKnown_0_0 7 rfl) (zi_at zh_dX13_isKnown_0_0 8 rfl) rfl
theorem dX13_isKnown_9 : decode cX13_isKnown 9 = .ok (.ireturn, 1) := zo_172 (zi_at zh_dX13_isKnown_0_0 9 rfl)
theorem dX13_isDay_0 : decode cX13_isDay 0 = .ok (.iload_n 0, 1) := zo_26 (zi_at zh_dX13_isDay_0_0 0 rfl)
theorem dX13_isDay_1 : decode cX13_isDay 1 = .ok (.iconst 0, 1) := zo_3 (zi_at zh_dX13_isDay_0_0 1 rfl)
theorem dX13_isDay_2 : decode cX13_isDay 2 = .ok (.sipush 400, 3) := zo_17 (zi_at zh_dX13_isDay_0_0 2 rfl) (zi_at zh_dX13_isDay_0_0 3 rfl) (zi_at zh_dX13_isDay_0_0 4 rfl) rfl
theorem dX13_isDay_5 : decode cX13_isDay 5 = .ok (.invokestatic 235, 3) := zo_184 (zi_at zh_dX13_isDay_0_0 5 rfl) (zi_at zh_dX13_isDay_0_0 6 rfl) (zi_at zh_dX13_isDay_0_0 7 rfl) rfl
theorem dX13_isDay_8 : decode cX13_isDay 8 = .ok (.ireturn, 1) := zo_172 (zi_at zh_dX13_isDay_0_0 8 rfl)
theorem dX13_isBoat_0 : decode cX13_isBoat 0 = .ok (.iload_n 1, 1) := zo_27 (zi_at zh_dX13_isBoat_0_0 0 rfl)
theorem dX13_isBoat_1 : decode cX13_isBoat 1 = .ok (.ifCond .lt 15, 3) := zo_155 (zi_at zh_dX13_isBoat_0_0 1 rfl) (zi_at zh_dX13_isBoat_0_0 2 rfl) (zi_at zh_dX13_isBoat_0_0 3 rfl) rfl
theorem dX13_isBoat_4 : decode cX13_isBoat 4 = .ok (.iload_n 1, 1) := zo_27 (zi_at zh_dX13_isBoat_0_0 4 rfl)
theorem dX13_isBoat_5 : decode cX13_isBoat 5 = .ok (.aload_n 0, 1) := zo_42 (zi_at zh_dX13_isBoat_0_0 5 rfl)
theorem dX13_isBoat_6 : decode cX13_isBoat 6 = .ok (.getfield 239, 3) := zo_180 (zi_at zh_dX13_isBoat_0_0 6 rfl) (zi_at zh_dX13_isBoat_0_0 7 rfl) (zi_at zh_dX13_isBoat_0_0 8 rfl) rfl
theorem dX13_isBoat_9 : decode cX13_isBoat 9 = .ok (.if_icmp .ge 7, 3) := zo_162 (zi_at zh_dX13_isBoat_0_0 9 rfl) (zi_at zh_dX13_isBoat_0_0 10 rfl) (zi_at zh_dX13_isBoat_0_0 11 rfl) rfl
theorem dX13_isBoat_12 : decode cX13_isBoat 12 = .ok (.iconst 1, 1) := zo_4 (zi_at zh_dX13_isBoat_0_0 12 rfl)
theorem dX13_isBoat_13 : decode cX13_isBoat 13 = .ok (.goto 4, 3) := zo_167 (zi_at zh_dX13_isBoat_0_0 13 rfl) (zi_at zh_dX13_isBoat_0_0 14 rfl) (zi_at zh_dX13_isBoat_0_0 15 rfl) rfl
theorem dX13_isBoat_16 : decode cX13_isBoat 16 = .ok (.iconst 0, 1) := zo_3 (zi_at zh_dX13_isBoat_16_16 0 rfl)
theorem dX13_isBoat_17 : decode cX13_isBoat 17 = .ok (.ireturn, 1) := zo_172 (zi_at zh_dX13_isBoat_16_16 1 rfl)
theorem dX13_certOn_0 : decode cX13_certOn 0 = .ok (.iconst (-1), 1) := zo_2 (zi_at zh_dX13_certOn_0_0 0 rfl)
theorem dX13_certOn_1 : decode cX13_certOn 1 = .ok (.istore 4, 2) := zo_54 (zi_at zh_dX13_certOn_0_0 1 rfl) (zi_at zh_dX13_certOn_0_0 2 rfl)
theorem dX13_certOn_3 : decode cX13_certOn 3 = .ok (.iconst 0, 1) := zo_3 (zi_at zh_dX13_certOn_0_0 3 rfl)
theorem dX13_certOn_4 : decode cX13_certOn 4 = .ok (.istore 5, 2) := zo_54 (zi_at zh_dX13_certOn_0_0 4 rfl) (zi_at zh_dX13_certOn_0_0 5 rfl)
theorem dX13_certOn_6 : decode cX13_certOn 6 = .ok (.iload 5, 2) := zo_21 (zi_at zh_dX13_certOn_0_0 6 rfl) (zi_at zh_dX13_certOn_0_0 7 rfl)
theorem dX13_certOn_8 : decode cX13_certOn 8 = .ok (.aload_n 0, 1) := zo_42 (zi_at zh_dX13_certOn_0_0 8 rfl)
theorem dX13_certOn_9 : decode cX13_certOn 9 = .ok (.getfield 242, 3) := zo_180 (zi_at zh_dX13_certOn_0_0 9 rfl) (zi_at zh_dX13_certOn_0_0 10 rfl) (zi_at zh_dX13_certOn_0_0 11 rfl) rfl
theorem dX13_certOn_12 : decode cX13_certOn 12 = .ok (.if_icmp .ge 69, 3) := zo_162 (zi_at zh_dX13_certOn_0_0 12 rfl) (zi_at zh_dX13_certOn_0_0 13 rfl) (zi_at zh_dX13_certOn_0_0 14 rfl) rfl
theorem dX13_certOn_15 : decode cX13_certOn 15 = .ok (.aload_n 0, 1) := zo_42 (zi_at zh_dX13_certOn_0_0 15 rfl)
theorem dX13_certOn_16 : decode cX13_certOn 16 = .ok (.getfield 9, 3) := zo_180 (zi_at zh_dX13_certOn_16_16 0 rfl) (zi_at zh_dX13_certOn_16_16 1 rfl) (zi_at zh_dX13_certOn_16_16 2 rfl) rfl
theorem dX13_certOn_19 : decode cX13_certOn 19 = .ok (.iload 5, 2) := zo_21 (zi_at zh_dX13_certOn_16_16 3 rfl) (zi_at zh_dX13_certOn_16_16 4 rfl)
theorem dX13_certOn_21 : decode cX13_certOn 21 = .ok (.iaload, 1) := zo_46 (zi_at zh_dX13_certOn_16_16 5 rfl)
theorem dX13_certOn_22 : decode cX13_certOn 22 = .ok (.iload_n 1, 1) := zo_27 (zi_at zh_dX13_certOn_16_16 6 rfl)
theorem dX13_certOn_23 : decode cX13_certOn 23 = .ok (.if_icmp .ne 52, 3) := zo_160 (zi_at zh_dX13_certOn_16_16 7 rfl) (zi_at zh_dX13_certOn_16_16 8 rfl) (zi_at zh_dX13_certOn_16_16 9 rfl) rfl
theorem dX13_certOn_26 : decode cX13_certOn 26 = .ok (.aload_n 0, 1) := zo_42 (zi_at zh_dX13_certOn_16_16 10 rfl)
theorem dX13_certOn_27 : decode cX13_certOn 27 = .ok (.getfield 25, 3) := zo_180 (zi_at zh_dX13_certOn_16_16 11 rfl) (zi_at zh_dX13_certOn_16_16 12 rfl) (zi_at zh_dX13_certOn_16_16 13 rfl) rfl
theorem dX13_certOn_30 : decode cX13_certOn 30 = .ok (.iload 5, 2) := zo_21 (zi_at zh_dX13_certOn_16_16 14 rfl) (zi_at zh_dX13_certOn_16_16 15 rfl)
theorem dX13_certOn_32 : decode cX13_certOn 32 = .ok (.iaload, 1) := zo_46 (zi_at zh_dX13_certOn_32_32 0 rfl)
theorem dX13_certOn_33 : decode cX13_certOn 33 = .ok (.iload_n 3, 1) := zo_29 (zi_at zh_dX13_certOn_32_32 1 rfl)
theorem dX13_certOn_34 : decode cX13_certOn 34 = .ok (.if_icmp .gt 41, 3) := zo_163 (zi_at zh_dX13_certOn_32_32 2 rfl) (zi_at zh_dX13_certOn_32_32 3 rfl) (zi_at zh_dX13_certOn_32_32 4 rfl) rfl
theorem dX13_certOn_37 : decode cX13_certOn 37 = .ok (.aload_n 0, 1) := zo_42 (zi_at zh_dX13_certOn_32_32 5 rfl)
theorem dX13_certOn_38 : decode cX13_certOn 38 = .ok (.getfield 13, 3) := zo_180 (zi_at zh_dX13_certOn_32_32 6 rfl) (zi_at zh_dX13_certOn_32_32 7 rfl) (zi_at zh_dX13_certOn_32_32 8 rfl) rfl
theorem dX13_certOn_41 : decode cX13_certOn 41 = .ok (.iload 5, 2) := zo_21 (zi_at zh_dX13_certOn_32_32 9 rfl) (zi_at zh_dX13_certOn_32_32 10 rfl)
theorem dX13_certOn_43 : decode cX13_certOn 43 = .ok (.iaload, 1) := zo_46 (zi_at zh_dX13_certOn_32_32 11 rfl)
theorem dX13_certOn_44 : decode cX13_certOn 44 = .ok (.iload_n 2, 1) := zo_28 (zi_at zh_dX13_certOn_32_32 12 rfl)
theorem dX13_certOn_45 : decode cX13_certOn 45 = .ok (.if_icmp .gt 30, 3) := zo_163 (zi_at zh_dX13_certOn_32_32 13 rfl) (zi_at zh_dX13_certOn_32_32 14 rfl) (zi_at zh_dX13_certOn_32_32 15 rfl) rfl
theorem dX13_certOn_48 : decode cX13_certOn 48 = .ok (.iload 4, 2) := zo_21 (zi_at zh_dX13_certOn_48_48 0 rfl) (zi_at zh_dX13_certOn_48_48 1 rfl)
theorem dX13_certOn_50 : decode cX13_certOn 50 = .ok (.iconst (-1), 1) := zo_2 (zi_at zh_dX13_certOn_48_48 2 rfl)
theorem dX13_certOn_51 : decode cX13_certOn 51 = .ok (.if_icmp .eq 20, 3) := zo_159 (zi_at zh_dX13_certOn_48_48 3 rfl) (zi_at zh_dX13_certOn_48_48 4 rfl) (zi_at zh_dX13_certOn_48_48 5 rfl) rfl
theorem dX13_certOn_54 : decode cX13_certOn 54 = .ok (.aload_n 0, 1) := zo_42 (zi_at zh_dX13_certOn_48_48 6 rfl)
theorem dX13_certOn_55 : decode cX13_certOn 55 = .ok (.getfield 13, 3) := zo_180 (zi_at zh_dX13_certOn_48_48 7 rfl) (zi_at zh_dX13_certOn_48_48 8 rfl) (zi_at zh_dX13_certOn_48_48 9 rfl) rfl
theorem dX13_certOn_58 : decode cX13_certOn 58 = .ok (.iload 5, 2) := zo_21 (zi_at zh_dX13_certOn_48_48 10 rfl) (zi_at zh_dX13_certOn_48_48 11 rfl)
theorem dX13_certOn_60 : decode cX13_certOn 60 = .ok (.iaload, 1) := zo_46 (zi_at zh_dX13_certOn_48_48 12 rfl)
theorem dX13_certOn_61 : decode cX13_certOn 61 = .ok (.aload_n 0, 1) := zo_42 (zi_at zh_dX13_certOn_48_48 13 rfl)
theorem dX13_certOn_62 : decode cX13_certOn 62 = .ok (.getfield 13, 3) := zo_180 (zi_at zh_dX13_certOn_48_48 14 rfl) (zi_at zh_dX13_certOn_48_48 15 rfl) (zi_at zh_dX13_certOn_62_64 0 rfl) rfl
theorem dX13_certOn_65 : decode cX13_certOn 65 = .ok (.iload 4, 2) := zo_21 (zi_at zh_dX13_certOn_62_64 1 rfl) (zi_at zh_dX13_certOn_62_64 2 rfl)
theorem dX13_certOn_67 : decode cX13_certOn 67 = .ok (.iaload, 1) := zo_46 (zi_at zh_dX13_certOn_62_64 3 rfl)
theorem dX13_certOn_68 : decode cX13_certOn 68 = .ok (.if_icmp .lt 7, 3) := zo_161 (zi_at zh_dX13_certOn_62_64 4 rfl) (zi_at zh_dX13_certOn_62_64 5 rfl) (zi_at zh_dX13_certOn_62_64 6 rfl) rfl
theorem dX13_certOn_71 : decode cX13_certOn 71 = .ok (.iload 5, 2) := zo_21 (zi_at zh_dX13_certOn_62_64 7 rfl) (zi_at zh_dX13_certOn_62_64 8 rfl)
theorem dX13_certOn_73 : decode cX13_certOn 73 = .ok (.istore 4, 2) := zo_54 (zi_at zh_dX13_certOn_62_64 9 rfl) (zi_at zh_dX13_certOn_62_64 10 rfl)
theorem dX13_certOn_75 : decode cX13_certOn 75 = .ok (.iinc 5 1, 3) := zo_132 (zi_at zh_dX13_certOn_62_64 11 rfl) (zi_at zh_dX13_certOn_62_64 12 rfl) (zi_at zh_dX13_certOn_62_64 13 rfl) rfl
theorem dX13_certOn_78 : decode cX13_certOn 78 = .ok (.goto (-72), 3) := zo_167 (zi_at zh_dX13_certOn_62_64 14 rfl) (zi_at zh_dX13_certOn_62_64 15 rfl) (zi_at zh_dX13_certOn_78_80 0 rfl) rfl
theorem dX13_certOn_81 : decode cX13_certOn 81 = .ok (.iload 4, 2) := zo_21 (zi_at zh_dX13_certOn_78_80 1 rfl) (zi_at zh_dX13_certOn_78_80 2 rfl)
theorem dX13_certOn_83 : decode cX13_certOn 83 = .ok (.ireturn, 1) := zo_172 (zi_at zh_dX13_certOn_78_80 3 rfl)
theorem dX13_bytesIn_0 : decode cX13_bytesIn 0 = .ok (.iconst 0, 1) := zo_3 (zi_at zh_dX13_bytesIn_0_0 0 rfl)
theorem dX13_bytesIn_1 : decode cX13_bytesIn 1 = .ok (.istore_n 1, 1) := zo_60 (zi_at zh_dX13_bytesIn_0_0 1 rfl)
theorem dX13_bytesIn_2 : decode cX13_bytesIn 2 = .ok (.bipush 24, 2) := zo_16 (zi_at zh_dX13_bytesIn_0_0 2 rfl) (zi_at zh_dX13_bytesIn_0_0 3 rfl) rfl
theorem dX13_bytesIn_4 : decode cX13_bytesIn 4 = .ok (.istore_n 2, 1) := zo_61 (zi_at zh_dX13_bytesIn_0_0 4 rfl)
theorem dX13_bytesIn_5 : decode cX13_bytesIn 5 = .ok (.iload_n 2, 1) := zo_28 (zi_at zh_dX13_bytesIn_0_0 5 rfl)
theorem dX13_bytesIn_6 : decode cX13_bytesIn 6 = .ok (.ifCond .lt 27, 3) := zo_155 (zi_at zh_dX13_bytesIn_0_0 6 rfl) (zi_at zh_dX13_bytesIn_0_0 7 rfl) (zi_at zh_dX13_bytesIn_0_0 8 rfl) rfl
theorem dX13_bytesIn_9 : decode cX13_bytesIn 9 = .ok (.iload_n 1, 1) := zo_27 (zi_at zh_dX13_bytesIn_0_0 9 rfl)
theorem dX13_bytesIn_10 : decode cX13_bytesIn 10 = .ok (.iload_n 0, 1) := zo_26 (zi_at zh_dX13_bytesIn_0_0 10 rfl)
theorem dX13_bytesIn_11 : decode cX13_bytesIn 11 = .ok (.iload_n 2, 1) := zo_28 (zi_at zh_dX13_bytesIn_0_0 11 rfl)
theorem dX13_bytesIn_12 : decode cX13_bytesIn 12 = .ok (.ishr, 1) := zo_122 (zi_at zh_dX13_bytesIn_0_0 12 rfl)
theorem dX13_bytesIn_13 : decode cX13_bytesIn 13 = .ok (.sipush 255, 3) := zo_17 (zi_at zh_dX13_bytesIn_0_0 13 rfl) (zi_at zh_dX13_bytesIn_0_0 14 rfl) (zi_at zh_dX13_bytesIn_0_0 15 rfl) rfl
theorem dX13_bytesIn_16 : decode cX13_bytesIn 16 = .ok (.iand, 1) := zo_126 (zi_at zh_dX13_bytesIn_16_16 0 rfl)
theorem dX13_bytesIn_17 : decode cX13_bytesIn 17 = .ok (.ifCond .eq 7, 3) := zo_153 (zi_at zh_dX13_bytesIn_16_16 1 rfl) (zi_at zh_dX13_bytesIn_16_16 2 rfl) (zi_at zh_dX13_bytesIn_16_16 3 rfl) rfl
theorem dX13_bytesIn_20 : decode cX13_bytesIn 20 = .ok (.iconst 1, 1) := zo_4 (zi_at zh_dX13_bytesIn_16_16 4 rfl)
theorem dX13_bytesIn_21 : decode cX13_bytesIn 21 = .ok (.goto 4, 3) := zo_167 (zi_at zh_dX13_bytesIn_16_16 5 rfl) (zi_at zh_dX13_bytesIn_16_16 6 rfl) (zi_at zh_dX13_bytesIn_16_16 7 rfl) rfl
theorem dX13_bytesIn_24 : decode cX13_bytesIn 24 = .ok (.iconst 0, 1) := zo_3 (zi_at zh_dX13_bytesIn_16_16 8 rfl)
theorem dX13_bytesIn_25 : decode cX13_bytesIn 25 = .ok (.iadd, 1) := zo_96 (zi_at zh_dX13_bytesIn_16_16 9 rfl)
theorem dX13_bytesIn_26 : decode cX13_bytesIn 26 = .ok (.istore_n 1, 1) := zo_60 (zi_at zh_dX13_bytesIn_16_16 10 rfl)
theorem dX13_bytesIn_27 : decode cX13_bytesIn 27 = .ok (.iinc 2 (-8), 3) := zo_132 (zi_at zh_dX13_bytesIn_16_16 11 rfl) (zi_at zh_dX13_bytesIn_16_16 12 rfl) (zi_at zh_dX13_bytesIn_16_16 13 rfl) rfl
theorem dX13_bytesIn_30 : decode cX13_bytesIn 30 = .ok (.goto (-25), 3) := zo_167 (zi_at zh_dX13_bytesIn_16_16 14 rfl) (zi_at zh_dX13_bytesIn_16_16 15 rfl) (zi_at zh_dX13_bytesIn_30_32 0 rfl) rfl
theorem dX13_bytesIn_33 : decode cX13_bytesIn 33 = .ok (.iload_n 1, 1) := zo_27 (zi_at zh_dX13_bytesIn_30_32 1 rfl)
theorem dX13_bytesIn_34 : decode cX13_bytesIn 34 = .ok (.ireturn, 1) := zo_172 (zi_at zh_dX13_bytesIn_30_32 2 rfl)
theorem dX13_rulesOn_0 : decode cX13_rulesOn 0 = .ok (.iconst (-1), 1) := zo_2 (zi_at zh_dX13_rulesOn_0_0 0 rfl)
theorem dX13_rulesOn_1 : decode cX13_rulesOn 1 = .ok (.istore_n 3, 1) := zo_62 (zi_at zh_dX13_rulesOn_0_0 1 rfl)
theorem dX13_rulesOn_2 : decode cX13_rulesOn 2 = .ok (.iconst 0, 1) := zo_3 (zi_at zh_dX13_rulesOn_0_0 2 rfl)
theorem dX13_rulesOn_3 : decode cX13_rulesOn 3 = .ok (.istore 4, 2) := zo_54 (zi_at zh_dX13_rulesOn_0_0 3 rfl) (zi_at zh_dX13_rulesOn_0_0 4 rfl)
theorem dX13_rulesOn_5 : decode cX13_rulesOn 5 = .ok (.iload 4, 2) := zo_21 (zi_at zh_dX13_rulesOn_0_0 5 rfl) (zi_at zh_dX13_rulesOn_0_0 6 rfl)
theorem dX13_rulesOn_7 : decode cX13_rulesOn 7 = .ok (.aload_n 0, 1) := zo_42 (zi_at zh_dX13_rulesOn_0_0 7 rfl)
theorem dX13_rulesOn_8 : decode cX13_rulesOn 8 = .ok (.getfield 370, 3) := zo_180 (zi_at zh_dX13_rulesOn_0_0 8 rfl) (zi_at zh_dX13_rulesOn_0_0 9 rfl) (zi_at zh_dX13_rulesOn_0_0 10 rfl) rfl
theorem dX13_rulesOn_11 : decode cX13_rulesOn 11 = .ok (.if_icmp .ge 55, 3) := zo_162 (zi_at zh_dX13_rulesOn_0_0 11 rfl) (zi_at zh_dX13_rulesOn_0_0 12 rfl) (zi_at zh_dX13_rulesOn_0_0 13 rfl) rfl
theorem dX13_rulesOn_14 : decode cX13_rulesOn 14 = .ok (.aload_n 0, 1) := zo_42 (zi_at zh_dX13_rulesOn_0_0 14 rfl)
theorem dX13_rulesOn_15 : decode cX13_rulesOn 15 = .ok (.getfield 41, 3) := zo_180 (zi_at zh_dX13_rulesOn_0_0 15 rfl) (zi_at zh_dX13_rulesOn_15_16 0 rfl) (zi_at zh_dX13_rulesOn_15_16 1 rfl) rfl
theorem dX13_rulesOn_18 : decode cX13_rulesOn 18 = .ok (.iload 4, 2) := zo_21 (zi_at zh_dX13_rulesOn_15_16 2 rfl) (zi_at zh_dX13_rulesOn_15_16 3 rfl)
theorem dX13_rulesOn_20 : decode cX13_rulesOn 20 = .ok (.iaload, 1) := zo_46 (zi_at zh_dX13_rulesOn_15_16 4 rfl)
theorem dX13_rulesOn_21 : decode cX13_rulesOn 21 = .ok (.iload_n 2, 1) := zo_28 (zi_at zh_dX13_rulesOn_15_16 5 rfl)
theorem dX13_rulesOn_22 : decode cX13_rulesOn 22 = .ok (.if_icmp .gt 38, 3) := zo_163 (zi_at zh_dX13_rulesOn_15_16 6 rfl) (zi_at zh_dX13_rulesOn_15_16 7 rfl) (zi_at zh_dX13_rulesOn_15_16 8 rfl) rfl
theorem dX13_rulesOn_25 : decode cX13_rulesOn 25 = .ok (.aload_n 0, 1) := zo_42 (zi_at zh_dX13_rulesOn_15_16 9 rfl)
theorem dX13_rulesOn_26 : decode cX13_rulesOn 26 = .ok (.getfield 38, 3) := zo_180 (zi_at zh_dX13_rulesOn_15_16 10 rfl) (zi_at zh_dX13_rulesOn_15_16 11 rfl) (zi_at zh_dX13_rulesOn_15_16 12 rfl) rfl
theorem dX13_rulesOn_29 : decode cX13_rulesOn 29 = .ok (.iload 4, 2) := zo_21 (zi_at zh_dX13_rulesOn_15_16 13 rfl) (zi_at zh_dX13_rulesOn_15_16 14 rfl)
theorem dX13_rulesOn_31 : decode cX13_rulesOn 31 = .ok (.iaload, 1) := zo_46 (zi_at zh_dX13_rulesOn_15_16 15 rfl)
theorem dX13_rulesOn_32 : decode cX13_rulesOn 32 = .ok (.iload_n 1, 1) := zo_27 (zi_at zh_dX13_rulesOn_32_32 0 rfl)
theorem dX13_rulesOn_33 : decode cX13_rulesOn 33 = .ok (.if_icmp .gt 27, 3) := zo_163 (zi_at zh_dX13_rulesOn_32_32 1 rfl) (zi_at zh_dX13_rulesOn_32_32 2 rfl) (zi_at zh_dX13_rulesOn_32_32 3 rfl) rfl
theorem dX13_rulesOn_36 : decode cX13_rulesOn 36 = .ok (.iload_n 3, 1) := zo_29 (zi_at zh_dX13_rulesOn_32_32 4 rfl)
theorem dX13_rulesOn_37 : decode cX13_rulesOn 37 = .ok (.iconst (-1), 1) := zo_2 (zi_at zh_dX13_rulesOn_32_32 5 rfl)
theorem dX13_rulesOn_38 : decode cX13_rulesOn 38 = .ok (.if_icmp .eq 19, 3) := zo_159 (zi_at zh_dX13_rulesOn_32_32 6 rfl) (zi_at zh_dX13_rulesOn_32_32 7 rfl) (zi_at zh_dX13_rulesOn_32_32 8 rfl) rfl
theorem dX13_rulesOn_41 : decode cX13_rulesOn 41 = .ok (.aload_n 0, 1) := zo_42 (zi_at zh_dX13_rulesOn_32_32 9 rfl)
theorem dX13_rulesOn_42 : decode cX13_rulesOn 42 = .ok (.getfield 38, 3) := zo_180 (zi_at zh_dX13_rulesOn_32_32 10 rfl) (zi_at zh_dX13_rulesOn_32_32 11 rfl) (zi_at zh_dX13_rulesOn_32_32 12 rfl) rfl
theorem dX13_rulesOn_45 : decode cX13_rulesOn 45 = .ok (.iload 4, 2) := zo_21 (zi_at zh_dX13_rulesOn_32_32 13 rfl) (zi_at zh_dX13_rulesOn_32_32 14 rfl)
theorem dX13_rulesOn_47 : decode cX13_rulesOn 47 = .ok (.iaload, 1) := zo_46 (zi_at zh_dX13_rulesOn_32_32 15 rfl)
theorem dX13_rulesOn_48 : decode cX13_rulesOn 48 = .ok (.aload_n 0, 1) := zo_42 (zi_at zh_dX13_rulesOn_48_48 0 rfl)
theorem dX13_rulesOn_49 : decode cX13_rulesOn 49 = .ok (.getfield 38, 3) := zo_180 (zi_at zh_dX13_rulesOn_48_48 1 rfl) (zi_at zh_dX13_rulesOn_48_48 2 rfl) (zi_at zh_dX13_rulesOn_48_48 3 rfl) rfl
theorem dX13_rulesOn_52 : decode cX13_rulesOn 52 = .ok (.iload_n 3, 1) := zo_29 (zi_at zh_dX13_rulesOn_48_48 4 rfl)
theorem dX13_rulesOn_53 : decode cX13_rulesOn 53 = .ok (.iaload, 1) := zo_46 (zi_at zh_dX13_rulesOn_48_48 5 rfl)
theorem dX13_rulesOn_54 : decode cX13_rulesOn 54 = .ok (.if_icmp .lt 6, 3) := zo_161 (zi_at zh_dX13_rulesOn_48_48 6 rfl) (zi_at zh_dX13_rulesOn_48_48 7 rfl) (zi_at zh_dX13_rulesOn_48_48 8 rfl) rfl
theorem dX13_rulesOn_57 : decode cX13_rulesOn 57 = .ok (.iload 4, 2) := zo_21 (zi_at zh_dX13_rulesOn_48_48 9 rfl) (zi_at zh_dX13_rulesOn_48_48 10 rfl)
theorem dX13_rulesOn_59 : decode cX13_rulesOn 59 = .ok (.istore_n 3, 1) := zo_62 (zi_at zh_dX13_rulesOn_48_48 11 rfl)
theorem dX13_rulesOn_60 : decode cX13_rulesOn 60 = .ok (.iinc 4 1, 3) := zo_132 (zi_at zh_dX13_rulesOn_48_48 12 rfl) (zi_at zh_dX13_rulesOn_48_48 13 rfl) (zi_at zh_dX13_rulesOn_48_48 14 rfl) rfl
theorem dX13_rulesOn_63 : decode cX13_rulesOn 63 = .ok (.goto (-58), 3) := zo_167 (zi_at zh_dX13_rulesOn_48_48 15 rfl) (zi_at zh_dX13_rulesOn_63_64 0 rfl) (zi_at zh_dX13_rulesOn_63_64 1 rfl) rfl
theorem dX13_rulesOn_66 : decode cX13_rulesOn 66 = .ok (.iload_n 3, 1) := zo_29 (zi_at zh_dX13_rulesOn_63_64 2 rfl)
theorem dX13_rulesOn_67 : decode cX13_rulesOn 67 = .ok (.ireturn, 1) := zo_172 (zi_at zh_dX13_rulesOn_63_64 3 rfl)
theorem dX13_clear_0 : decode cX13_clear 0 = .ok (.iconst 0, 1) := zo_3 (zi_at zh_dX13_clear_0_0 0 rfl)
theorem dX13_clear_1 : decode cX13_clear 1 = .ok (.istore_n 1, 1) := zo_60 (zi_at zh_dX13_clear_0_0 1 rfl)
theorem dX13_clear_2 : decode cX13_clear 2 = .ok (.iload_n 1, 1) := zo_27 (zi_at zh_dX13_clear_0_0 2 rfl)
theorem dX13_clear_3 : decode cX13_clear 3 = .ok (.sipush 128, 3) := zo_17 (zi_at zh_dX13_clear_0_0 3 rfl) (zi_at zh_dX13_clear_0_0 4 rfl) (zi_at zh_dX13_clear_0_0 5 rfl) rfl
theorem dX13_clear_6 : decode cX13_clear 6 = .ok (.if_icmp .ge 16, 3) := zo_162 (zi_at zh_dX13_clear_0_0 6 rfl) (zi_at zh_dX13_clear_0_0 7 rfl) (zi_at zh_dX13_clear_0_0 8 rfl) rfl
theorem dX13_clear_9 : decode cX13_clear 9 = .ok (.aload_n 0, 1) := zo_42 (zi_at zh_dX13_clear_0_0 9 rfl)
theorem dX13_clear_10 : decode cX13_clear 10 = .ok (.getfield 44, 3) := zo_180 (zi_at zh_dX13_clear_0_0 10 rfl) (zi_at zh_dX13_clear_0_0 11 rfl) (zi_at zh_dX13_clear_0_0 12 rfl) rfl
theorem dX13_clear_13 : decode cX13_clear 13 = .ok (.iload_n 1, 1) := zo_27 (zi_at zh_dX13_clear_0_0 13 rfl)
theorem dX13_clear_14 : decode cX13_clear 14 = .ok (.iconst 0, 1) := zo_3 (zi_at zh_dX13_clear_0_0 14 rfl)
theorem dX13_clear_15 : decode cX13_clear 15 = .ok (.iastore, 1) := zo_79 (zi_at zh_dX13_clear_0_0 15 rfl)
theorem dX13_clear_16 : decode cX13_clear 16 = .ok (.iinc 1 1, 3) := zo_132 (zi_at zh_dX13_clear_16_16 0 rfl) (zi_at zh_dX13_clear_16_16 1 rfl) (zi_at zh_dX13_clear_16_16 2 rfl) rfl
theorem dX13_clear_19 : decode cX13_clear 19 = .ok (.goto (-17), 3) := zo_167 (zi_at zh_dX13_clear_16_16 3 rfl) (zi_at zh_dX13_clear_16_16 4 rfl) (zi_at zh_dX13_clear_16_16 5 rfl) rfl
theorem dX13_clear_22 : decode cX13_clear 22 = .ok (.return_, 1) := zo_177 (zi_at zh_dX13_clear_16_16 6 rfl)
theorem dX13_isRace_0 : decode cX13_isRace 0 = .ok (.iload_n 1, 1) := zo_27 (zi_at zh_dX13_isRace_0_0 0 rfl)
theorem dX13_isRace_1 : decode cX13_isRace 1 = .ok (.ifCond .lt 15, 3) := zo_155 (zi_at zh_dX13_isRace_0_0 1 rfl) (zi_at zh_dX13_isRace_0_0 2 rfl) (zi_at zh_dX13_isRace_0_0 3 rfl) rfl
theorem dX13_isRace_4 : decode cX13_isRace 4 = .ok (.iload_n 1, 1) := zo_27 (zi_at zh_dX13_isRace_0_0 4 rfl)
theorem dX13_isRace_5 : decode cX13_isRace 5 = .ok (.aload_n 0, 1) := zo_42 (zi_at zh_dX13_isRace_0_0 5 rfl)
theorem dX13_isRace_6 : decode cX13_isRace 6 = .ok (.getfield 390, 3) := zo_180 (zi_at zh_dX13_isRace_0_0 6 rfl) (zi_at zh_dX13_isRace_0_0 7 rfl) (zi_at zh_dX13_isRace_0_0 8 rfl) rfl
theorem dX13_isRace_9 : decode cX13_isRace 9 = .ok (.if_icmp .ge 7, 3) := zo_162 (zi_at zh_dX13_isRace_0_0 9 rfl) (zi_at zh_dX13_isRace_0_0 10 rfl) (zi_at zh_dX13_isRace_0_0 11 rfl) rfl
theorem dX13_isRace_12 : decode cX13_isRace 12 = .ok (.iconst 1, 1) := zo_4 (zi_at zh_dX13_isRace_0_0 12 rfl)
theorem dX13_isRace_13 : decode cX13_isRace 13 = .ok (.goto 4, 3) := zo_167 (zi_at zh_dX13_isRace_0_0 13 rfl) (zi_at zh_dX13_isRace_0_0 14 rfl) (zi_at zh_dX13_isRace_0_0 15 rfl) rfl
theorem dX13_isRace_16 : decode cX13_isRace 16 = .ok (.iconst 0, 1) := zo_3 (zi_at zh_dX13_isRace_16_16 0 rfl)
theorem dX13_isRace_17 : decode cX13_isRace 17 = .ok (.ireturn, 1) := zo_172 (zi_at zh_dX13_isRace_16_16 1 rfl)
theorem dX13_isEntered_0 : decode cX13_isEntered 0 = .ok (.aload_n 0, 1) := zo_42 (zi_at zh_dX13_isEntered_0_0 0 rfl)
theorem dX13_isEntered_1 : decode cX13_isEntered 1 = .ok (.getfield 74, 3) := zo_180 (zi_at zh_dX13_isEntered_0_0 1 rfl) (zi_at zh_dX13_isEntered_0_0 2 rfl) (zi_at zh_dX13_isEntered_0_0 3 rfl) rfl
theorem dX13_isEntered_4 : decode cX13_isEntered 4 = .ok (.bipush 16, 2) := zo_16 (zi_at zh_dX13_isEntered_0_0 4 rfl) (zi_at zh_dX13_isEntered_0_0 5 rfl) rfl
theorem dX13_isEntered_6 : decode cX13_isEntered 6 = .ok (.iload_n 1, 1) := zo_27 (zi_at zh_dX13_isEntered_0_0 6 rfl)
theorem dX13_isEntered_7 : decode cX13_isEntered 7 = .ok (.imul, 1) := zo_104 (zi_at zh_dX13_isEntered_0_0 7 rfl)
theorem dX13_isEntered_8 : decode cX13_isEntered 8 = .ok (.iload_n 2, 1) := zo_28 (zi_at zh_dX13_isEntered_0_0 8 rfl)
theorem dX13_isEntered_9 : decode cX13_isEntered 9 = .ok (.iadd, 1) := zo_96 (zi_at zh_dX13_isEntered_0_0 9 rfl)
theorem dX13_isEntered_10 : decode cX13_isEntered 10 = .ok (.iaload, 1) := zo_46 (zi_at zh_dX13_isEntered_0_0 10 rfl)
theorem dX13_isEntered_11 : decode cX13_isEntered 11 = .ok (.iload_n 3, 1) := zo_29 (zi_at zh_dX13_isEntered_0_0 11 rfl)
theorem dX13_isEntered_12 : decode cX13_isEntered 12 = .ok (.if_icmp .gt 7, 3) := zo_163 (zi_at zh_dX13_isEntered_0_0 12 rfl) (zi_at zh_dX13_isEntered_0_0 13 rfl) (zi_at zh_dX13_isEntered_0_0 14 rfl) rfl
theorem dX13_isEntered_15 : decode cX13_isEntered 15 = .ok (.iconst 1, 1) := zo_4 (zi_at zh_dX13_isEntered_0_0 15 rfl)
theorem dX13_isEntered_16 : decode cX13_isEntered 16 = .ok (.goto 4, 3) := zo_167 (zi_at zh_dX13_isEntered_16_16 0 rfl) (zi_at zh_dX13_isEntered_16_16 1 rfl) (zi_at zh_dX13_isEntered_16_16 2 rfl) rfl
theorem dX13_isEntered_19 : decode cX13_isEntered 19 = .ok (.iconst 0, 1) := zo_3 (zi_at zh_dX13_isEntered_16_16 3 rfl)
theorem dX13_isEntered_20 : decode cX13_isEntered 20 = .ok (.ireturn, 1) := zo_172 (zi_at zh_dX13_isEntered_16_16 4 rfl)
theorem dX13_isEntry_0 : decode cX13_isEntry 0 = .ok (.aload_n 0, 1) := zo_42 (zi_at zh_dX13_isEntry_0_0 0 rfl)
theorem dX13_isEntry_1 : decode cX13_isEntry 1 = .ok (.iload_n 1, 1) := zo_27 (zi_at zh_dX13_isEntry_0_0 1 rfl)
theorem dX13_isEntry_2 : decode cX13_isEntry 2 = .ok (.invokevirtual 393, 3) := zo_182 (zi_at zh_dX13_isEntry_0_0 2 rfl) (zi_at zh_dX13_isEntry_0_0 3 rfl) (zi_at zh_dX13_isEntry_0_0 4 rfl) rfl
theorem dX13_isEntry_5 : decode cX13_isEntry 5 = .ok (.ifCond .eq 28, 3) := zo_153 (zi_at zh_dX13_isEntry_0_0 5 rfl) (zi_at zh_dX13_isEntry_0_0 6 rfl) (zi_at zh_dX13_isEntry_0_0 7 rfl) rfl
theorem dX13_isEntry_8 : decode cX13_isEntry 8 = .ok (.aload_n 0, 1) := zo_42 (zi_at zh_dX13_isEntry_0_0 8 rfl)
theorem dX13_isEntry_9 : decode cX13_isEntry 9 = .ok (.iload_n 2, 1) := zo_28 (zi_at zh_dX13_isEntry_0_0 9 rfl)
theorem dX13_isEntry_10 : decode cX13_isEntry 10 = .ok (.invokevirtual 245, 3) := zo_182 (zi_at zh_dX13_isEntry_0_0 10 rfl) (zi_at zh_dX13_isEntry_0_0 11 rfl) (zi_at zh_dX13_isEntry_0_0 12 rfl) rfl
theorem dX13_isEntry_13 : decode cX13_isEntry 13 = .ok (.ifCond .eq 20, 3) := zo_153 (zi_at zh_dX13_isEntry_0_0 13 rfl) (zi_at zh_dX13_isEntry_0_0 14 rfl) (zi_at zh_dX13_isEntry_0_0 15 rfl) rfl
theorem dX13_isEntry_16 : decode cX13_isEntry 16 = .ok (.aload_n 0, 1) := zo_42 (zi_at zh_dX13_isEntry_16_16 0 rfl)
theorem dX13_isEntry_17 : decode cX13_isEntry 17 = .ok (.iload_n 1, 1) := zo_27 (zi_at zh_dX13_isEntry_16_16 1 rfl)
theorem dX13_isEntry_18 : decode cX13_isEntry 18 = .ok (.iload_n 2, 1) := zo_28 (zi_at zh_dX13_isEntry_16_16 2 rfl)
theorem dX13_isEntry_19 : decode cX13_isEntry 19 = .ok (.aload_n 0, 1) := zo_42 (zi_at zh_dX13_isEntry_16_16 3 rfl)
theorem dX13_isEntry_20 : decode cX13_isEntry 20 = .ok (.getfield 232, 3) := zo_180 (zi_at zh_dX13_isEntry_16_16 4 rfl) (zi_at zh_dX13_isEntry_16_16 5 rfl) (zi_at zh_dX13_isEntry_16_16 6 rfl) rfl
theorem dX13_isEntry_23 : decode cX13_isEntry 23 = .ok (.invokevirtual 396, 3) := zo_182 (zi_at zh_dX13_isEntry_16_16 7 rfl) (zi_at zh_dX13_isEntry_16_16 8 rfl) (zi_at zh_dX13_isEntry_16_16 9 rfl) rfl
theorem dX13_isEntry_26 : decode cX13_isEntry 26 = .ok (.ifCond .eq 7, 3) := zo_153 (zi_at zh_dX13_isEntry_16_16 10 rfl) (zi_at zh_dX13_isEntry_16_16 11 rfl) (zi_at zh_dX13_isEntry_16_16 12 rfl) rfl
theorem dX13_isEntry_29 : decode cX13_isEntry 29 = .ok (.iconst 1, 1) := zo_4 (zi_at zh_dX13_isEntry_16_16 13 rfl)
theorem dX13_isEntry_30 : decode cX13_isEntry 30 = .ok (.goto 4, 3) := zo_167 (zi_at zh_dX13_isEntry_16_16 14 rfl) (zi_at zh_dX13_isEntry_16_16 15 rfl) (zi_at zh_dX13_isEntry_30_32 0 rfl) rfl
theorem dX13_isEntry_33 : decode cX13_isEntry 33 = .ok (.iconst 0, 1) := zo_3 (zi_at zh_dX13_isEntry_30_32 1 rfl)
theorem dX13_isEntry_34 : decode cX13_isEntry 34 = .ok (.ireturn, 1) := zo_172 (zi_at zh_dX13_isEntry_30_32 2 rfl)
theorem dX13_resultOf_0 : decode cX13_resultOf 0 = .ok (.iconst (-1), 1) := zo_2 (zi_at zh_dX13_resultOf_0_0 0 rfl)
theorem dX13_resultOf_1 : decode cX13_resultOf 1 = .ok (.istore 4, 2) := zo_54 (zi_at zh_dX13_resultOf_0_0 1 rfl) (zi_at zh_dX13_resultOf_0_0 2 rfl)
theorem dX13_resultOf_3 : decode cX13_resultOf 3 = .ok (.iconst 0, 1) := zo_3 (zi_at zh_dX13_resultOf_0_0 3 rfl)
theorem dX13_resultOf_4 : decode cX13_resultOf 4 = .ok (.istore 5, 2) := zo_54 (zi_at zh_dX13_resultOf_0_0 4 rfl) (zi_at zh_dX13_resultOf_0_0 5 rfl)
theorem dX13_resultOf_6 : decode cX13_resultOf 6 = .ok (.iload 5, 2) := zo_21 (zi_at zh_dX13_resultOf_0_0 6 rfl) (zi_at zh_dX13_resultOf_0_0 7 rfl)
theorem dX13_resultOf_8 : decode cX13_resultOf 8 = .ok (.aload_n 0, 1) := zo_42 (zi_at zh_dX13_resultOf_0_0 8 rfl)
theorem dX13_resultOf_9 : decode cX13_resultOf 9 = .ok (.getfield 399, 3) := zo_180 (zi_at zh_dX13_resultOf_0_0 9 rfl) (zi_at zh_dX13_resultOf_0_0 10 rfl) (zi_at zh_dX13_resultOf_0_0 11 rfl) rfl
theorem dX13_resultOf_12 : decode cX13_resultOf 12 = .ok (.if_icmp .ge 46, 3) := zo_162 (zi_at zh_dX13_resultOf_0_0 12 rfl) (zi_at zh_dX13_resultOf_0_0 13 rfl) (zi_at zh_dX13_resultOf_0_0 14 rfl) rfl
theorem dX13_resultOf_15 : decode cX13_resultOf 15 = .ok (.aload_n 0, 1) := zo_42 (zi_at zh_dX13_resultOf_0_0 15 rfl)
theorem dX13_resultOf_16 : decode cX13_resultOf 16 = .ok (.getfield 83, 3) := zo_180 (zi_at zh_dX13_resultOf_16_16 0 rfl) (zi_at zh_dX13_resultOf_16_16 1 rfl) (zi_at zh_dX13_resultOf_16_16 2 rfl) rfl
theorem dX13_resultOf_19 : decode cX13_resultOf 19 = .ok (.iload 5, 2) := zo_21 (zi_at zh_dX13_resultOf_16_16 3 rfl) (zi_at zh_dX13_resultOf_16_16 4 rfl)
theorem dX13_resultOf_21 : decode cX13_resultOf 21 = .ok (.iaload, 1) := zo_46 (zi_at zh_dX13_resultOf_16_16 5 rfl)
theorem dX13_resultOf_22 : decode cX13_resultOf 22 = .ok (.iload_n 1, 1) := zo_27 (zi_at zh_dX13_resultOf_16_16 6 rfl)
theorem dX13_resultOf_23 : decode cX13_resultOf 23 = .ok (.if_icmp .ne 29, 3) := zo_160 (zi_at zh_dX13_resultOf_16_16 7 rfl) (zi_at zh_dX13_resultOf_16_16 8 rfl) (zi_at zh_dX13_resultOf_16_16 9 rfl) rfl
theorem dX13_resultOf_26 : decode cX13_resultOf 26 = .ok (.aload_n 0, 1) := zo_42 (zi_at zh_dX13_resultOf_16_16 10 rfl)
theorem dX13_resultOf_27 : decode cX13_resultOf 27 = .ok (.getfield 86, 3) := zo_180 (zi_at zh_dX13_resultOf_16_16 11 rfl) (zi_at zh_dX13_resultOf_16_16 12 rfl) (zi_at zh_dX13_resultOf_16_16 13 rfl) rfl
theorem dX13_resultOf_30 : decode cX13_resultOf 30 = .ok (.iload 5, 2) := zo_21 (zi_at zh_dX13_resultOf_16_16 14 rfl) (zi_at zh_dX13_resultOf_16_16 15 rfl)
theorem dX13_resultOf_32 : decode cX13_resultOf 32 = .ok (.iaload, 1) := zo_46 (zi_at zh_dX13_resultOf_32_32 0 rfl)
theorem dX13_resultOf_33 : decode cX13_resultOf 33 = .ok (.iload_n 2, 1) := zo_28 (zi_at zh_dX13_resultOf_32_32 1 rfl)
theorem dX13_resultOf_34 : decode cX13_resultOf 34 = .ok (.if_icmp .ne 18, 3) := zo_160 (zi_at zh_dX13_resultOf_32_32 2 rfl) (zi_at zh_dX13_resultOf_32_32 3 rfl) (zi_at zh_dX13_resultOf_32_32 4 rfl) rfl
theorem dX13_resultOf_37 : decode cX13_resultOf 37 = .ok (.aload_n 0, 1) := zo_42 (zi_at zh_dX13_resultOf_32_32 5 rfl)
theorem dX13_resultOf_38 : decode cX13_resultOf 38 = .ok (.getfield 95, 3) := zo_180 (zi_at zh_dX13_resultOf_32_32 6 rfl) (zi_at zh_dX13_resultOf_32_32 7 rfl) (zi_at zh_dX13_resultOf_32_32 8 rfl) rfl
theorem dX13_resultOf_41 : decode cX13_resultOf 41 = .ok (.iload 5, 2) := zo_21 (zi_at zh_dX13_resultOf_32_32 9 rfl) (zi_at zh_dX13_resultOf_32_32 10 rfl)
theorem dX13_resultOf_43 : decode cX13_resultOf 43 = .ok (.iaload, 1) := zo_46 (zi_at zh_dX13_resultOf_32_32 11 rfl)
theorem dX13_resultOf_44 : decode cX13_resultOf 44 = .ok (.iload_n 3, 1) := zo_29 (zi_at zh_dX13_resultOf_32_32 12 rfl)
theorem dX13_resultOf_45 : decode cX13_resultOf 45 = .ok (.if_icmp .gt 7, 3) := zo_163 (zi_at zh_dX13_resultOf_32_32 13 rfl) (zi_at zh_dX13_resultOf_32_32 14 rfl) (zi_at zh_dX13_resultOf_32_32 15 rfl) rfl
theorem dX13_resultOf_48 : decode cX13_resultOf 48 = .ok (.iload 5, 2) := zo_21 (zi_at zh_dX13_resultOf_48_48 0 rfl) (zi_at zh_dX13_resultOf_48_48 1 rfl)
theorem dX13_resultOf_50 : decode cX13_resultOf 50 = .ok (.istore 4, 2) := zo_54 (zi_at zh_dX13_resultOf_48_48 2 rfl) (zi_at zh_dX13_resultOf_48_48 3 rfl)
theorem dX13_resultOf_52 : decode cX13_resultOf 52 = .ok (.iinc 5 1, 3) := zo_132 (zi_at zh_dX13_resultOf_48_48 4 rfl) (zi_at zh_dX13_resultOf_48_48 5 rfl) (zi_at zh_dX13_resultOf_48_48 6 rfl) rfl
theorem dX13_resultOf_55 : decode cX13_resultOf 55 = .ok (.goto (-49), 3) := zo_167 (zi_at zh_dX13_resultOf_48_48 7 rfl) (zi_at zh_dX13_resultOf_48_48 8 rfl) (zi_at zh_dX13_resultOf_48_48 9 rfl) rfl
theorem dX13_resultOf_58 : decode cX13_resultOf 58 = .ok (.iload 4, 2) := zo_21 (zi_at zh_dX13_resultOf_48_48 10 rfl) (zi_at zh_dX13_resultOf_48_48 11 rfl)
theorem dX13_resultOf_60 : decode cX13_resultOf 60 = .ok (.ireturn, 1) := zo_172 (zi_at zh_dX13_resultOf_48_48 12 rfl)
theorem dX13_asks_0 : decode cX13_asks 0 = .ok (.aload_n 0, 1) := zo_42 (zi_at zh_dX13_asks_0_0 0 rfl)
theorem dX13_asks_1 : decode cX13_asks 1 = .ok (.iconst 0, 1) := zo_3 (zi_at zh_dX13_asks_0_0 1 rfl)
theorem dX13_asks_2 : decode cX13_asks 2 = .ok (.putfield 228, 3) := zo_181 (zi_at zh_dX13_asks_0_0 2 rfl) (zi_at zh_dX13_asks_0_0 3 rfl) (zi_at zh_dX13_asks_0_0 4 rfl) rfl
theorem dX13_asks_5 : decode cX13_asks 5 = .ok (.aload_n 0, 1) := zo_42 (zi_at zh_dX13_asks_0_0 5 rfl)
theorem dX13_asks_6 : decode cX13_asks 6 = .ok (.iload_n 1, 1) := zo_27 (zi_at zh_dX13_asks_0_0 6 rfl)
theorem dX13_asks_7 : decode cX13_asks 7 = .ok (.invokevirtual 393, 3) := zo_182 (zi_at zh_dX13_asks_0_0 7 rfl) (zi_at zh_dX13_asks_0_0 8 rfl) (zi_at zh_dX13_asks_0_0 9 rfl) rfl
theorem dX13_asks_10 : decode cX13_asks 10 = .ok (.ifCond .eq 33, 3) := zo_153 (zi_at zh_dX13_asks_0_0 10 rfl) (zi_at zh_dX13_asks_0_0 11 rfl) (zi_at zh_dX13_asks_0_0 12 rfl) rfl
theorem dX13_asks_13 : decode cX13_asks 13 = .ok (.aload_n 0, 1) := zo_42 (zi_at zh_dX13_asks_0_0 13 rfl)
theorem dX13_asks_14 : decode cX13_asks 14 = .ok (.iload_n 2, 1) := zo_28 (zi_at zh_dX13_asks_0_0 14 rfl)
theorem dX13_asks_15 : decode cX13_asks 15 = .ok (.invokevirtual 245, 3) := zo_182 (zi_at zh_dX13_asks_0_0 15 rfl) (zi_at zh_dX13_asks_15_16 0 rfl) (zi_at zh_dX13_asks_15_16 1 rfl) rfl
theorem dX13_asks_18 : decode cX13_asks 18 = .ok (.ifCond .eq 25, 3) := zo_153 (zi_at zh_dX13_asks_15_16 2 rfl) (zi_at zh_dX13_asks_15_16 3 rfl) (zi_at zh_dX13_asks_15_16 4 rfl) rfl
theorem dX13_asks_21 : decode cX13_asks 21 = .ok (.aload_n 0, 1) := zo_42 (zi_at zh_dX13_asks_15_16 5 rfl)
theorem dX13_asks_22 : decode cX13_asks 22 = .ok (.iload_n 3, 1) := zo_29 (zi_at zh_dX13_asks_15_16 6 rfl)
theorem dX13_asks_23 : decode cX13_asks 23 = .ok (.invokevirtual 252, 3) := zo_182 (zi_at zh_dX13_asks_15_16 7 rfl) (zi_at zh_dX13_asks_15_16 8 rfl) (zi_at zh_dX13_asks_15_16 9 rfl) rfl
theorem dX13_asks_26 : decode cX13_asks 26 = .ok (.ifCond .eq 17, 3) := zo_153 (zi_at zh_dX13_asks_15_16 10 rfl) (zi_at zh_dX13_asks_15_16 11 rfl) (zi_at zh_dX13_asks_15_16 12 rfl) rfl
theorem dX13_asks_29 : decode cX13_asks 29 = .ok (.aload_n 0, 1) := zo_42 (zi_at zh_dX13_asks_15_16 13 rfl)
theorem dX13_asks_30 : decode cX13_asks 30 = .ok (.getfield 71, 3) := zo_180 (zi_at zh_dX13_asks_15_16 14 rfl) (zi_at zh_dX13_asks_15_16 15 rfl) (zi_at zh_dX13_asks_30_32 0 rfl) rfl
theorem dX13_asks_33 : decode cX13_asks 33 = .ok (.iload_n 1, 1) := zo_27 (zi_at zh_dX13_asks_30_32 1 rfl)
theorem dX13_asks_34 : decode cX13_asks 34 = .ok (.iaload, 1) := zo_46 (zi_at zh_dX13_asks_30_32 2 rfl)
theorem dX13_asks_35 : decode cX13_asks 35 = .ok (.iload_n 3, 1) := zo_29 (zi_at zh_dX13_asks_30_32 3 rfl)
theorem dX13_asks_36 : decode cX13_asks 36 = .ok (.if_icmp .gt 7, 3) := zo_163 (zi_at zh_dX13_asks_30_32 4 rfl) (zi_at zh_dX13_asks_30_32 5 rfl) (zi_at zh_dX13_asks_30_32 6 rfl) rfl
theorem dX13_asks_39 : decode cX13_asks 39 = .ok (.iconst 1, 1) := zo_4 (zi_at zh_dX13_asks_30_32 7 rfl)
theorem dX13_asks_40 : decode cX13_asks 40 = .ok (.goto 4, 3) := zo_167 (zi_at zh_dX13_asks_30_32 8 rfl) (zi_at zh_dX13_asks_30_32 9 rfl) (zi_at zh_dX13_asks_30_32 10 rfl) rfl
theorem dX13_asks_43 : decode cX13_asks 43 = .ok (.iconst 0, 1) := zo_3 (zi_at zh_dX13_asks_30_32 11 rfl)
theorem dX13_asks_44 : decode cX13_asks 44 = .ok (.ireturn, 1) := zo_172 (zi_at zh_dX13_asks_30_32 12 rfl)
theorem dX13_asksEntry_0 : decode cX13_asksEntry 0 = .ok (.aload_n 0, 1) := zo_42 (zi_at zh_dX13_asksEntry_0_0 0 rfl)
theorem dX13_asksEntry_1 : decode cX13_asksEntry 1 = .ok (.iload_n 1, 1) := zo_27 (zi_at zh_dX13_asksEntry_0_0 1 rfl)
theorem dX13_asksEntry_2 : decode cX13_asksEntry 2 = .ok (.iload_n 2, 1) := zo_28 (zi_at zh_dX13_asksEntry_0_0 2 rfl)
theorem dX13_asksEntry_3 : decode cX13_asksEntry 3 = .ok (.iload_n 3, 1) := zo_29 (zi_at zh_dX13_asksEntry_0_0 3 rfl)
theorem dX13_asksEntry_4 : decode cX13_asksEntry 4 = .ok (.invokevirtual 413, 3) := zo_182 (zi_at zh_dX13_asksEntry_0_0 4 rfl) (zi_at zh_dX13_asksEntry_0_0 5 rfl) (zi_at zh_dX13_asksEntry_0_0 6 rfl) rfl
theorem dX13_asksEntry_7 : decode cX13_asksEntry 7 = .ok (.ifCond .eq 17, 3) := zo_153 (zi_at zh_dX13_asksEntry_0_0 7 rfl) (zi_at zh_dX13_asksEntry_0_0 8 rfl) (zi_at zh_dX13_asksEntry_0_0 9 rfl) rfl
theorem dX13_asksEntry_10 : decode cX13_asksEntry 10 = .ok (.aload_n 0, 1) := zo_42 (zi_at zh_dX13_asksEntry_0_0 10 rfl)
theorem dX13_asksEntry_11 : decode cX13_asksEntry 11 = .ok (.iload_n 1, 1) := zo_27 (zi_at zh_dX13_asksEntry_0_0 11 rfl)
theorem dX13_asksEntry_12 : decode cX13_asksEntry 12 = .ok (.iload_n 2, 1) := zo_28 (zi_at zh_dX13_asksEntry_0_0 12 rfl)
theorem dX13_asksEntry_13 : decode cX13_asksEntry 13 = .ok (.iload_n 3, 1) := zo_29 (zi_at zh_dX13_asksEntry_0_0 13 rfl)
theorem dX13_asksEntry_14 : decode cX13_asksEntry 14 = .ok (.invokevirtual 396, 3) := zo_182 (zi_at zh_dX13_asksEntry_0_0 14 rfl) (zi_at zh_dX13_asksEntry_0_0 15 rfl) (zi_at zh_dX13_asksEntry_14_16 0 rfl) rfl
theorem dX13_asksEntry_17 : decode cX13_asksEntry 17 = .ok (.ifCond .eq 7, 3) := zo_153 (zi_at zh_dX13_asksEntry_14_16 1 rfl) (zi_at zh_dX13_asksEntry_14_16 2 rfl) (zi_at zh_dX13_asksEntry_14_16 3 rfl) rfl
theorem dX13_asksEntry_20 : decode cX13_asksEntry 20 = .ok (.iconst 1, 1) := zo_4 (zi_at zh_dX13_asksEntry_14_16 4 rfl)
theorem dX13_asksEntry_21 : decode cX13_asksEntry 21 = .ok (.goto 4, 3) := zo_167 (zi_at zh_dX13_asksEntry_14_16 5 rfl) (zi_at zh_dX13_asksEntry_14_16 6 rfl) (zi_at zh_dX13_asksEntry_14_16 7 rfl) rfl
theorem dX13_asksEntry_24 : decode cX13_asksEntry 24 = .ok (.iconst 0, 1) := zo_3 (zi_at zh_dX13_asksEntry_14_16 8 rfl)
theorem dX13_asksEntry_25 : decode cX13_asksEntry 25 = .ok (.ireturn, 1) := zo_172 (zi_at zh_dX13_asksEntry_14_16 9 rfl)
theorem dX13_farFrom_0 : decode cX13_farFrom 0 = .ok (.iconst 0, 1) := zo_3 (zi_at zh_dX13_farFrom_0_0 0 rfl)
theorem dX13_farFrom_1 : decode cX13_farFrom 1 = .ok (.aload_n 0, 1) := zo_42 (zi_at zh_dX13_farFrom_0_0 1 rfl)
theorem dX13_farFrom_2 : decode cX13_farFrom 2 = .ok (.getfield 135, 3) := zo_180 (zi_at zh_dX13_farFrom_0_0 2 rfl) (zi_at zh_dX13_farFrom_0_0 3 rfl) (zi_at zh_dX13_farFrom_0_0 4 rfl) rfl
theorem dX13_farFrom_5 : decode cX13_farFrom 5 = .ok (.iload_n 1, 1) := zo_27 (zi_at zh_dX13_farFrom_0_0 5 rfl)
theorem dX13_farFrom_6 : decode cX13_farFrom 6 = .ok (.iaload, 1) := zo_46 (zi_at zh_dX13_farFrom_0_0 6 rfl)
theorem dX13_farFrom_7 : decode cX13_farFrom 7 = .ok (.iload_n 2, 1) := zo_28 (zi_at zh_dX13_farFrom_0_0 7 rfl)
theorem dX13_farFrom_8 : decode cX13_farFrom 8 = .ok (.isub, 1) := zo_100 (zi_at zh_dX13_farFrom_0_0 8 rfl)
theorem dX13_farFrom_9 : decode cX13_farFrom 9 = .ok (.iload_n 2, 1) := zo_28 (zi_at zh_dX13_farFrom_0_0 9 rfl)
theorem dX13_farFrom_10 : decode cX13_farFrom 10 = .ok (.aload_n 0, 1) := zo_42 (zi_at zh_dX13_farFrom_0_0 10 rfl)
theorem dX13_farFrom_11 : decode cX13_farFrom 11 = .ok (.getfield 135, 3) := zo_180 (zi_at zh_dX13_farFrom_0_0 11 rfl) (zi_at zh_dX13_farFrom_0_0 12 rfl) (zi_at zh_dX13_farFrom_0_0 13 rfl) rfl
theorem dX13_farFrom_14 : decode cX13_farFrom 14 = .ok (.iload_n 1, 1) := zo_27 (zi_at zh_dX13_farFrom_0_0 14 rfl)
theorem dX13_farFrom_15 : decode cX13_farFrom 15 = .ok (.iaload, 1) := zo_46 (zi_at zh_dX13_farFrom_0_0 15 rfl)
theorem dX13_farFrom_16 : decode cX13_farFrom 16 = .ok (.isub, 1) := zo_100 (zi_at zh_dX13_farFrom_16_16 0 rfl)
theorem dX13_farFrom_17 : decode cX13_farFrom 17 = .ok (.aload_n 0, 1) := zo_42 (zi_at zh_dX13_farFrom_16_16 1 rfl)
theorem dX13_farFrom_18 : decode cX13_farFrom 18 = .ok (.getfield 141, 3) := zo_180 (zi_at zh_dX13_farFrom_16_16 2 rfl) (zi_at zh_dX13_farFrom_16_16 3 rfl) (zi_at zh_dX13_farFrom_16_16 4 rfl) rfl
theorem dX13_farFrom_21 : decode cX13_farFrom 21 = .ok (.iload_n 1, 1) := zo_27 (zi_at zh_dX13_farFrom_16_16 5 rfl)
theorem dX13_farFrom_22 : decode cX13_farFrom 22 = .ok (.iaload, 1) := zo_46 (zi_at zh_dX13_farFrom_16_16 6 rfl)
theorem dX13_farFrom_23 : decode cX13_farFrom 23 = .ok (.isub, 1) := zo_100 (zi_at zh_dX13_farFrom_16_16 7 rfl)
theorem dX13_farFrom_24 : decode cX13_farFrom 24 = .ok (.invokestatic 385, 3) := zo_184 (zi_at zh_dX13_farFrom_16_16 8 rfl) (zi_at zh_dX13_farFrom_16_16 9 rfl) (zi_at zh_dX13_farFrom_16_16 10 rfl) rfl
theorem dX13_farFrom_27 : decode cX13_farFrom 27 = .ok (.invokestatic 385, 3) := zo_184 (zi_at zh_dX13_farFrom_16_16 11 rfl) (zi_at zh_dX13_farFrom_16_16 12 rfl) (zi_at zh_dX13_farFrom_16_16 13 rfl) rfl
theorem dX13_farFrom_30 : decode cX13_farFrom 30 = .ok (.istore 4, 2) := zo_54 (zi_at zh_dX13_farFrom_16_16 14 rfl) (zi_at zh_dX13_farFrom_16_16 15 rfl)
theorem dX13_farFrom_32 : decode cX13_farFrom 32 = .ok (.iconst 0, 1) := zo_3 (zi_at zh_dX13_farFrom_32_32 0 rfl)
theorem dX13_farFrom_33 : decode cX13_farFrom 33 = .ok (.aload_n 0, 1) := zo_42 (zi_at zh_dX13_farFrom_32_32 1 rfl)
theorem dX13_farFrom_34 : decode cX13_farFrom 34 = .ok (.getfield 138, 3) := zo_180 (zi_at zh_dX13_farFrom_32_32 2 rfl) (zi_at zh_dX13_farFrom_32_32 3 rfl) (zi_at zh_dX13_farFrom_32_32 4 rfl) rfl
theorem dX13_farFrom_37 : decode cX13_farFrom 37 = .ok (.iload_n 1, 1) := zo_27 (zi_at zh_dX13_farFrom_32_32 5 rfl)
theorem dX13_farFrom_38 : decode cX13_farFrom 38 = .ok (.iaload, 1) := zo_46 (zi_at zh_dX13_farFrom_32_32 6 rfl)
theorem dX13_farFrom_39 : decode cX13_farFrom 39 = .ok (.iload_n 3, 1) := zo_29 (zi_at zh_dX13_farFrom_32_32 7 rfl)
theorem dX13_farFrom_40 : decode cX13_farFrom 40 = .ok (.isub, 1) := zo_100 (zi_at zh_dX13_farFrom_32_32 8 rfl)
theorem dX13_farFrom_41 : decode cX13_farFrom 41 = .ok (.iload_n 3, 1) := zo_29 (zi_at zh_dX13_farFrom_32_32 9 rfl)
theorem dX13_farFrom_42 : decode cX13_farFrom 42 = .ok (.aload_n 0, 1) := zo_42 (zi_at zh_dX13_farFrom_32_32 10 rfl)
theorem dX13_farFrom_43 : decode cX13_farFrom 43 = .ok (.getfield 138, 3) := zo_180 (zi_at zh_dX13_farFrom_32_32 11 rfl) (zi_at zh_dX13_farFrom_32_32 12 rfl) (zi_at zh_dX13_farFrom_32_32 13 rfl) rfl
theorem dX13_farFrom_46 : decode cX13_farFrom 46 = .ok (.iload_n 1, 1) := zo_27 (zi_at zh_dX13_farFrom_32_32 14 rfl)
theorem dX13_farFrom_47 : decode cX13_farFrom 47 = .ok (.iaload, 1) := zo_46 (zi_at zh_dX13_farFrom_32_32 15 rfl)
theorem dX13_farFrom_48 : decode cX13_farFrom 48 = .ok (.isub, 1) := zo_100 (zi_at zh_dX13_farFrom_48_48 0 rfl)
theorem dX13_farFrom_49 : decode cX13_farFrom 49 = .ok (.aload_n 0, 1) := zo_42 (zi_at zh_dX13_farFrom_48_48 1 rfl)
theorem dX13_farFrom_50 : decode cX13_farFrom 50 = .ok (.getfield 141, 3) := zo_180 (zi_at zh_dX13_farFrom_48_48 2 rfl) (zi_at zh_dX13_farFrom_48_48 3 rfl) (zi_at zh_dX13_farFrom_48_48 4 rfl) rfl
theorem dX13_farFrom_53 : decode cX13_farFrom 53 = .ok (.iload_n 1, 1) := zo_27 (zi_at zh_dX13_farFrom_48_48 5 rfl)
theorem dX13_farFrom_54 : decode cX13_farFrom 54 = .ok (.iaload, 1) := zo_46 (zi_at zh_dX13_farFrom_48_48 6 rfl)
theorem dX13_farFrom_55 : decode cX13_farFrom 55 = .ok (.isub, 1) := zo_100 (zi_at zh_dX13_farFrom_48_48 7 rfl)
theorem dX13_farFrom_56 : decode cX13_farFrom 56 = .ok (.invokestatic 385, 3) := zo_184 (zi_at zh_dX13_farFrom_48_48 8 rfl) (zi_at zh_dX13_farFrom_48_48 9 rfl) (zi_at zh_dX13_farFrom_48_48 10 rfl) rfl
theorem dX13_farFrom_59 : decode cX13_farFrom 59 = .ok (.invokestatic 385, 3) := zo_184 (zi_at zh_dX13_farFrom_48_48 11 rfl) (zi_at zh_dX13_farFrom_48_48 12 rfl) (zi_at zh_dX13_farFrom_48_48 13 rfl) rfl
theorem dX13_farFrom_62 : decode cX13_farFrom 62 = .ok (.istore 5, 2) := zo_54 (zi_at zh_dX13_farFrom_48_48 14 rfl) (zi_at zh_dX13_farFrom_48_48 15 rfl)
theorem dX13_farFrom_64 : decode cX13_farFrom 64 = .ok (.iload 4, 2) := zo_21 (zi_at zh_dX13_farFrom_64_64 0 rfl) (zi_at zh_dX13_farFrom_64_64 1 rfl)
theorem dX13_farFrom_66 : decode cX13_farFrom 66 = .ok (.iload 5, 2) := zo_21 (zi_at zh_dX13_farFrom_64_64 2 rfl) (zi_at zh_dX13_farFrom_64_64 3 rfl)
theorem dX13_farFrom_68 : decode cX13_farFrom 68 = .ok (.invokestatic 385, 3) := zo_184 (zi_at zh_dX13_farFrom_64_64 4 rfl) (zi_at zh_dX13_farFrom_64_64 5 rfl) (zi_at zh_dX13_farFrom_64_64 6 rfl) rfl
theorem dX13_farFrom_71 : decode cX13_farFrom 71 = .ok (.ireturn, 1) := zo_172 (zi_at zh_dX13_farFrom_64_64 7 rfl)
theorem hz_yX13_isIn_3 : yX13_isIn.cls ≠ "java/lang/invoke/MethodHandle" ∧ yX13_isIn.cls ≠ "java/lang/invoke/VarHandle" ∧ (parseMethodDescriptor yX13_isIn.desc).map (fun d => d.parameters.length) = some 3 := by decide +kernel
theorem hz_yX13_isRace_1 : yX13_isRace.cls ≠ "java/lang/invoke/MethodHandle" ∧ yX13_isRace.cls ≠ "java/lang/invoke/VarHandle" ∧ (parseMethodDescriptor yX13_isRace.desc).map (fun d => d.parameters.length) = some 1 := by decide +kernel
theorem hz_yX13_isBoat_1 : yX13_isBoat.cls ≠ "java/lang/invoke/MethodHandle" ∧ yX13_isBoat.cls ≠ "java/lang/invoke/VarHandle" ∧ (parseMethodDescriptor yX13_isBoat.desc).map (fun d => d.parameters.length) = some 1 := by decide +kernel
theorem hz_yX13_isEntered_3 : yX13_isEntered.cls ≠ "java/lang/invoke/MethodHandle" ∧ yX13_isEntered.cls ≠ "java/lang/invoke/VarHandle" ∧ (parseMethodDescriptor yX13_isEntered.desc).map (fun d => d.parameters.length) = some 3 := by decide +kernel
theorem hz_yX13_isKnown_1 : yX13_isKnown.cls ≠ "java/lang/invoke/MethodHandle" ∧ yX13_isKnown.cls ≠ "java/lang/invoke/VarHandle" ∧ (parseMethodDescriptor yX13_isKnown.desc).map (fun d => d.parameters.length) = some 1 := by decide +kernel
theorem hz_yX13_asks_3 : yX13_asks.cls ≠ "java/lang/invoke/MethodHandle" ∧ yX13_asks.cls ≠ "java/lang/invoke/VarHandle" ∧ (parseMethodDescriptor yX13_asks.desc).map (fun d => d.parameters.length) = some 3 := by decide +kernel
def shMt : List (Nat × Nat × Nat) := [(0, 14, 97), (1, 0, 80), (1, 0, 80), (1, 0, 80), (1, 0, 80), (1, 0, 80), (1, 0, 80), (1, 1, 200), (1, 1, 3200), (1, 0, 16), (1, 0, 16), (1, 0, 16), (1, 0, 128), (1, 0, 20), (1, 0, 20), (1, 0, 20), (1, 0, 20), (1, 0, 20), (1, 0, 20), (1, 0, 20), (1, 0, 20), (1, 0, 320), (1, 0, 320), (1, 0, 320), (1, 0, 300), (1, 0, 300), (1, 0, 300), (1, 0, 300), (1, 0, 300), (1, 0, 20), (1, 0, 20), (1, 0, 20), (1, 0, 320), (1, 0, 16), (1, 0, 20), (1, 0, 20), (1, 2, 320), (1, 2, 16), (1, 0, 200), (1, 0, 200), (1, 0, 200), (1, 0, 200), (1, 0, 200), (1, 0, 200), (1, 0, 200), (1, 0, 200), (1, 0, 30), (1, 0, 30), (1, 0, 30), (1, 0, 30), (1, 0, 30), (1, 0, 60), (1, 0, 60), (1, 0, 60), (1, 0, 30), (1, 2, 30), (1, 0, 256), (1, 0, 256), (1, 0, 256), (1, 0, 2), (1, 0, 4), (1, 0, 20), (1, 0, 80), (1, 0, 80), (1, 0, 4), (1, 0, 4), (1, 0, 16), (1, 0, 20), (1, 0, 20), (1, 0, 20), (1, 0, 20), (1, 0, 16)]
def shM : Nat → Nat × Nat × Nat := fun k => shMt.getD k (9, 0, 0)
def spM0 : List (Nat × Int × Int) := [(0, 0, 1), (0, 0, 400), (1, 1, 0), (1, 2, 0), (1, 3, 0), (1, 4, 0), (1, 5, 0), (1, 6, 0), (0, 0, 16), (0, 0, 80), (1, 7, 0), (1, 8, 0), (1, 9, 0), (1, 10, 0), (1, 11, 0), (1, 12, 0), (0, 0, 200), (0, 0, 16), (2, 7, 8), (0, 0, 3000), (0, 0, 200), (0, 0, 201), (0, -1, 201), (0, 0, 8), (0, 0, 127), (0, -2147483648, 2147483647), (0, 0, 1), (1, 13, 0), (1, 14, 0), (1, 15, 0), (1, 16, 0), (1, 17, 0), (1, 18, 0), (1, 19, 0), (1, 20, 0), (1, 21, 0), (1, 22, 0), (1, 23, 0), (1, 24, 0), (1, 25, 0), (1, 26, 0), (1, 27, 0), (1, 28, 0), (1, 29, 0), (1, 30, 0), (1, 31, 0), (0, 0, 20), (0, 0, 300), (0, 0, 20), (1, 32, 0), (1, 33, 0), (1, 34, 0), (1, 35, 0), (1, 36, 0), (1, 37, 0), (0, 0, 20), (1, 38, 0), (1, 39, 0), (1, 40, 0), (1, 41, 0), (1, 42, 0), (1, 43, 0), (1, 44, 0), (1, 45, 0), (1, 46, 0), (1, 47, 0), (1, 48, 0), (1, 49, 0), (1, 50, 0), (1, 51, 0), (1, 52, 0), (1, 53, 0), (1, 54, 0), (1, 55, 0), (0, 0, 200), (0, 0, 30), (1, 56, 0), (1, 57, 0), (1, 58, 0), (1, 59, 0), (1, 60, 0), (1, 61, 0), (1, 62, 0), (1, 63, 0), (1, 64, 0), (1, 65, 0), (0, 0, 4), (0, 0, 20), (0, -2147483648, 2147483647), (0, -2147483648, 2147483647), (1, 66, 0), (1, 67, 0), (1, 68, 0), (1, 69, 0), (1, 70, 0), (0, -2147483648, 2147483647), (1, 71, 0)]
def spM1 : List (Nat × Int × Int) := [(9, 0, 0), (0, 0, 15), (0, 0, 400), (0, 0, 400), (0, 0, 4000), (0, 0, 900), (0, 0, 400), (0, -128, 127), (0, -128, 127), (0, 0, 200), (0, 0, 400), (0, 0, 400), (0, -2147483648, 2147483647), (0, 0, 400), (0, 0, 1000), (0, 0, 1), (0, 0, 7), (0, 0, 99), (0, 0, 99), (0, 0, 9), (0, 0, 400), (0, 0, 1000), (0, -1, 9), (0, 0, 600), (0, 0, 19), (0, 0, 15), (0, 0, 4), (0, 0, 200000), (0, 0, 400), (0, 0, 19), (0, 0, 15), (0, 0, 400), (0, -2147483648, 2147483647), (0, -2147483648, 2147483647), (0, -2147483648, 2147483647), (0, -2147483648, 2147483647), (0, 0, 1), (0, 0, 1), (0, 0, 19), (0, 0, 15), (0, 0, 100000), (0, 0, 99), (0, 0, 99), (0, 0, 3), (0, 0, 255), (0, 0, 400), (0, 0, 19), (0, 0, 15), (0, 0, 15), (0, 0, 100000), (0, 0, 400), (0, 0, 3), (0, 0, 400), (0, 0, 1000), (0, 0, 2), (0, 0, 1), (0, 0, 99), (0, 0, 99), (0, 0, 7), (0, 0, 128), (0, 0, 15), (0, 0, 19), (0, 0, 200000), (0, 0, 2000), (0, -3, 3), (0, -3, 3), (0, -2147483648, 2147483647), (0, 0, 200000), (0, -2147483648, 2147483647), (0, 0, 19), (0, -2147483648, 2147483647), (0, 0, 2001)]
def spM : Nat → Nat → Nat × Int × Int := fun o j => if o = 0 then spM0.getD j (9, 0, 0) else spM1.getD o (9, 0, 0)

def v_isIn : List Cond := .code yX13_isIn cX13_isIn 3 (some .boolean) :: vA
abbrev rm_isIn : Room := { frames := 0, cells := 0, slots := 0, locals := 0 }
set_option maxHeartbeats 4000000 in
set_option maxRecDepth 100000 in
theorem q_isIn (l : Launch) (a0 : Int32) (a1 : Int32) (a2 : Int32)  : Met l yX13_isIn v_isIn rm_isIn (va_Pc [.int a0, .int a1, .int a2] (fun _ => True)) (va_Qi (S := Unit) (fun r _ => (r = 1 ∧ (a1.toInt ≤ a0.toInt ∧ a0.toInt ≤ a2.toInt)) ∨ (r = 0 ∧ (¬ (a1.toInt ≤ a0.toInt ∧ a0.toInt ≤ a2.toInt)))) (fun _ _ => True) (fun _ => False)) 0 0 (fun _ => False) := by
  refine Met.ofW (cc := cX13_isIn) (maxL := 3) (ret := (some .boolean)) (by decide) rfl ?_
  intro p e s m args below meth c s₁ B hml hv
  obtain ⟨hargs, -⟩ := hv
  have hx := B.exec
  have hb := B.bytes
  have hr := B.returns
  have hts := atoms_spec (ws := v_isIn) B.pre
  have hown : s.vm.findClass RX13 = some m.cls := findClass_of_methodNamed B.named
  have hlocks := B.notSynchronized
  have hS : va_S (fun _ : Nat => False) s.heap s.heap [] := va_S.rf
  have hl := lv_entry ([.int a0, .int a1, .int a2]) (n := 3) (Nat.le_of_ble_eq_true rfl)
  obtain ⟨Q, hQ⟩ : ∃ Q, Q = MQ below (va_Qi (S := Unit) (fun r _ => (r = 1 ∧ (a1.toInt ≤ a0.toInt ∧ a0.toInt ≤ a2.toInt)) ∨ (r = 0 ∧ (¬ (a1.toInt ≤ a0.toInt ∧ a0.toInt ≤ a2.toInt)))) (fun _ _ => True) (fun _ => False)) args s 0 0 (fun _ => False) := ⟨_, rfl⟩
  rw [← hQ, show entryFrame m args 3 = _ from (congrArg (fun z => entryFrame m z 3) hargs).trans (lg_entry_eq _ _ _)]
  generalize (lg_sl ([.int a0, .int a1, .int a2]) ++ List.replicate (3 - (lg_sl ([.int a0, .int a1, .int a2])).length) Slot.unset).toArray = ls at hl ⊢
  have hl : lv_has ls 3 [(0, .int a0), (1, .int a1), (2, .int a2)] := hl
  refine lv_iload_n hx hb dX13_isIn_0 rfl (lv_at hl 0 rfl) ?_
  refine lv_iload_n hx hb dX13_isIn_1 rfl (lv_at hl 1 rfl) ?_
  refine lv_icmp_lt (tgt := 14) hx hb dX13_isIn_2 (by decide) (fun c1 => ?_) (fun c1 => ?_)
  · --2 taken
    have t2 : a0.toInt < a1.toInt := ti_lt c1
    have i3 : -2147483648 ≤ a0.toInt ∧ a0.toInt ≤ 2147483646 := iv_lt_l t2 (iv_all _) (iv_all _) (by decide)
    have i4 : -2147483647 ≤ a1.toInt ∧ a1.toInt ≤ 2147483647 := iv_lt_r t2 (iv_all _) (iv_all _) (by decide)
    refine lv_iconst (v := 0) hx hb dX13_isIn_14 (by decide) ?_
    rw [hQ]
    exact W.zret (v := 0) hx hb hr rfl (fun t ht hW => ⟨⟨0, (), rfl, Or.inr (⟨rfl, by have h8 := ln_0; all_goals omega⟩), trivial⟩, hS.F ht⟩) hS.2.2 dX13_isIn_15
  · --2 not
    have t5 : a1.toInt ≤ a0.toInt := ti_nlt c1
    refine lv_iload_n hx hb dX13_isIn_5 rfl (lv_at hl 0 rfl) ?_
    refine lv_iload_n hx hb dX13_isIn_6 rfl (lv_at hl 2 rfl) ?_
    refine lv_icmp_gt (tgt := 14) hx hb dX13_isIn_7 (by decide) (fun c6 => ?_) (fun c6 => ?_)
    · --7 taken
      have t7 : a2.toInt < a0.toInt := ti_lt c6
      have i8 : -2147483648 ≤ a2.toInt ∧ a2.toInt ≤ 2147483646 := iv_lt_l t7 (iv_all _) (iv_all _) (by decide)
      have i9 : -2147483647 ≤ a0.toInt ∧ a0.toInt ≤ 2147483647 := iv_lt_r t7 (iv_all _) (iv_all _) (by decide)
      refine lv_iconst (v := 0) hx hb dX13_isIn_14 (by decide) ?_
      rw [hQ]
      exact W.zret (v := 0) hx hb hr rfl (fun t ht hW => ⟨⟨0, (), rfl, Or.inr (⟨rfl, by have h8 := ln_0; all_goals omega⟩), trivial⟩, hS.F ht⟩) hS.2.2 dX13_isIn_15
    · --7 not
      have t10 : a0.toInt ≤ a2.toInt := ti_nlt c6
      refine lv_iconst (v := 1) hx hb dX13_isIn_10 (by decide) ?_
      refine lv_goto (tgt := 15) hx hb dX13_isIn_11 (by decide) ?_
      rw [hQ]
      exact W.zret (v := 1) hx hb hr rfl (fun t ht hW => ⟨⟨1, (), rfl, Or.inl ⟨rfl, by have h8 := ln_1; all_goals omega⟩, trivial⟩, hS.F ht⟩) hS.2.2 dX13_isIn_15
def v_isDay : List Cond := .code yX13_isDay cX13_isDay 1 (some .boolean) :: vA
abbrev rm_isDay : Room := { frames := 1, cells := 0, slots := 0, locals := 40 }
set_option maxHeartbeats 4000000 in
set_option maxRecDepth 100000 in
theorem q_isDay (l : Launch) (a0 : Int32)  : Met l yX13_isDay v_isDay rm_isDay (va_Pc [.int a0] (fun _ => True)) (va_Qi (S := Unit) (fun r _ => (r = 1 ∧ (0 ≤ a0.toInt ∧ a0.toInt ≤ 400)) ∨ (r = 0 ∧ (¬ (0 ≤ a0.toInt ∧ a0.toInt ≤ 400)))) (fun _ _ => True) (fun _ => False)) 0 0 (fun _ => False) := by
  refine Met.ofW (cc := cX13_isDay) (maxL := 1) (ret := (some .boolean)) (by decide) rfl ?_
  intro p e s m args below meth c s₁ B hml hv
  obtain ⟨hargs, -⟩ := hv
  have hx := B.exec
  have hb := B.bytes
  have hr := B.returns
  have hts := atoms_spec (ws := v_isDay) B.pre
  have hown : s.vm.findClass RX13 = some m.cls := findClass_of_methodNamed B.named
  have hlocks := B.notSynchronized
  have hS : va_S (fun _ : Nat => False) s.heap s.heap [] := va_S.rf
  have hl := lv_entry ([.int a0]) (n := 1) (Nat.le_of_ble_eq_true rfl)
  obtain ⟨Q, hQ⟩ : ∃ Q, Q = MQ below (va_Qi (S := Unit) (fun r _ => (r = 1 ∧ (0 ≤ a0.toInt ∧ a0.toInt ≤ 400)) ∨ (r = 0 ∧ (¬ (0 ≤ a0.toInt ∧ a0.toInt ≤ 400)))) (fun _ _ => True) (fun _ => False)) args s 0 0 (fun _ => False) := ⟨_, rfl⟩
  rw [← hQ, show entryFrame m args 1 = _ from (congrArg (fun z => entryFrame m z 1) hargs).trans (lg_entry_eq _ _ _)]
  generalize (lg_sl ([.int a0]) ++ List.replicate (1 - (lg_sl ([.int a0])).length) Slot.unset).toArray = ls at hl ⊢
  have hl : lv_has ls 1 [(0, .int a0)] := hl
  refine lv_iload_n hx hb dX13_isDay_0 rfl (lv_at hl 0 rfl) ?_
  refine lv_iconst (v := 0) hx hb dX13_isDay_1 (by decide) ?_
  refine lv_sipush (v := 400) hx hb dX13_isDay_2 (by decide) ?_
  refine th_pi (va_runS (As := [.int a0, .int 0, .int 400]) (rest := []) ⟨hx, hb, hml, hown, hts⟩ (q_isIn l a0 (0 : Int32) (400 : Int32)) (va_cwS 3 hts (gi_S (in_24 _ (zs16 (zs4 (zs4 (zs4 (zs0)))))) (in_24 _ (zs16 (zs4 (zs4 (zs4 (zs1 (zs0))))))) (in_24 _ (zs4 (zs4 (zs4 (zs1 (zs1 (zs1 (zs0)))))))) (in_24 _ (zs16 (zs4 (zs4 (zs4 (zs1 (zs1 (zs0))))))))) rfl rfl rfl hz_yX13_isIn_3 ⟨Nat.le_of_ble_eq_true rfl, Nat.le_of_ble_eq_true rfl⟩) ⟨fun _ _ _ _ q => q, fun _ _ _ => ⟨rfl, trivial⟩⟩ rfl rfl hl.1 rfl (lv_room (Nat.le_of_ble_eq_true rfl)) dX13_isDay_5 ⟨Nat.le_of_ble_eq_true rfl, Nat.le_of_ble_eq_true rfl⟩) hS (fun r1 H1 locs1 hw hk1 hS => ?_)
  generalize H1 = H at hS ⊢
  generalize locs1 = locs at hS ⊢
  rcases hw with hw | hw
  · -- isIn, case 0
    obtain ⟨rfl, f2⟩ := hw
    have t3 : (0 : Int) ≤ a0.toInt := f2.1
    have t4 : a0.toInt ≤ 400 := f2.2
    have i5 : 0 ≤ a0.toInt ∧ a0.toInt ≤ 2147483647 := iv_le_r t3 (il_ 0) (iv_all _) (by decide)
    have i6 : 0 ≤ a0.toInt ∧ a0.toInt ≤ 400 := iv_le_l t4 i5 (il_ 400) (by decide)
    rw [hQ]
    exact W.zret (v := 1) hx hb hr rfl (fun t ht hW => ⟨⟨1, (), rfl, Or.inl ⟨rfl, by have h8 := ln_1; all_goals omega⟩, trivial⟩, hS.F ht⟩) hS.2.2 dX13_isDay_8
  · -- isIn, case 1
    obtain ⟨rfl, f7⟩ := hw
    have t8 : ¬ ((0 : Int) ≤ a0.toInt ∧ a0.toInt ≤ 400) := f7
    rw [hQ]
    exact W.zret (v := 0) hx hb hr rfl (fun t ht hW => ⟨⟨0, (), rfl, Or.inr (⟨rfl, by have h8 := ln_0; all_goals omega⟩), trivial⟩, hS.F ht⟩) hS.2.2 dX13_isDay_8
def v_isKnown : List Cond := .code yX13_isKnown cX13_isKnown 2 (some .boolean) :: vA
abbrev rm_isKnown : Room := { frames := 1, cells := 0, slots := 0, locals := 40 }
set_option maxHeartbeats 4000000 in
set_option maxRecDepth 100000 in
theorem q_isKnown (l : Launch) (dC : Nat → ClassId) (dI : Nat → Nat → Nat) (cT : Nat → ClassId) (ad : Nat → Nat) (E : Nat → va_E) (sz : Nat) (a0 : Int32) (hI0 : IX cT shM spM 72 ad E)  : Met l yX13_isKnown v_isKnown rm_isKnown (va_Pc [.ref (ad 0), .int a0] (HW dC dI (TYM cT) 72 ad E sz)) (va_Qi (S := Unit) (fun r _ => (r = 1 ∧ (0 ≤ a0.toInt ∧ a0.toInt ≤ (xi (E 0) 1).toInt)) ∨ (r = 0 ∧ (¬ (0 ≤ a0.toInt ∧ a0.toInt ≤ (xi (E 0) 1).toInt)))) (fun _ _ => True) (fun _ => False)) 0 0 (fun _ => False) := by
  refine Met.ofW (cc := cX13_isKnown) (maxL := 2) (ret := (some .boolean)) (by decide) rfl ?_
  intro p e s m args below meth c s₁ B hml hv
  obtain ⟨hargs, hsz, hP, hK, hD0, hEV⟩ := hv
  subst hsz
  have hx := B.exec
  have hb := B.bytes
  have hr := B.returns
  have hts := atoms_spec (ws := v_isKnown) B.pre
  have hown : s.vm.findClass RX13 = some m.cls := findClass_of_methodNamed B.named
  have hlocks := B.notSynchronized
  have hinX13 : ∀ w ∈ u_ws RX13 TX13 97, w ∈ v_isKnown := fun w h => vA_in _ w (in_X13 w h)
  have hS : va_S (fun _ : Nat => False) s.heap s.heap [] := va_S.rf
  have hD := hD0
  have hI := hI0
  have hKp : Kp (wl [] []) E E := Kp.rf
  have hl := lv_entry ([.ref (ad 0), .int a0]) (n := 2) (Nat.le_of_ble_eq_true rfl)
  obtain ⟨Q, hQ⟩ : ∃ Q, Q = MQ below (va_Qi (S := Unit) (fun r _ => (r = 1 ∧ (0 ≤ a0.toInt ∧ a0.toInt ≤ (xi (E 0) 1).toInt)) ∨ (r = 0 ∧ (¬ (0 ≤ a0.toInt ∧ a0.toInt ≤ (xi (E 0) 1).toInt)))) (fun _ _ => True) (fun _ => False)) args s 0 0 (fun _ => False) := ⟨_, rfl⟩
  rw [← hQ, show entryFrame m args 2 = _ from (congrArg (fun z => entryFrame m z 2) hargs).trans (lg_entry_eq _ _ _)]
  generalize (lg_sl ([.ref (ad 0), .int a0]) ++ List.replicate (2 - (lg_sl ([.ref (ad 0), .int a0])).length) Slot.unset).toArray = ls at hl ⊢
  have hl : lv_has ls 2 [(0, .ref (ad 0)), (1, .int a0)] := hl
  refine lv_iload_n hx hb dX13_isKnown_0 rfl (lv_at hl 1 rfl) ?_
  refine lv_iconst (v := 0) hx hb dX13_isKnown_1 (by decide) ?_
  refine lv_aload_n hx hb dX13_isKnown_2 rfl (lv_at hl 0 rfl) ?_
  have i1 : 0 ≤ (xi (E 0) 1).toInt ∧ (xi (E 0) 1).toInt ≤ 400 := hI0.iv 0 (Nat.le_of_ble_eq_true rfl) rfl (Nat.le_of_ble_eq_true rfl) rfl
  refine th_get (ci := 14) (C := RX13) (T := TX13) (N := 97) (v := .int (xi (E 0) 1)) hx hb hts hinX13 hown hK hP hI 0 (Nat.le_of_ble_eq_true rfl) rfl rfl 1 (Nat.le_of_ble_eq_true rfl) (hts _ (vA_in _ _ (in_24 _ (zs16 (zs4 (zs4 (zs1 (zs1 (zs1 (zs0)))))))))) (fun _ h9 => h9) (th_v0 hKp hI0 0 (Nat.le_of_ble_eq_true rfl) rfl (Nat.le_of_ble_eq_true rfl) rfl rfl) dX13_isKnown_3 ?_
  refine th_pi (va_runS (As := [.int a0, .int 0, .int (xi (E 0) 1)]) (rest := []) ⟨hx, hb, hml, hown, hts⟩ (q_isIn l a0 (0 : Int32) (xi (E 0) 1)) (va_cwS 3 hts (gi_S (in_24 _ (zs16 (zs4 (zs4 (zs4 (zs0)))))) (in_24 _ (zs16 (zs4 (zs4 (zs4 (zs1 (zs0))))))) (in_24 _ (zs4 (zs4 (zs4 (zs1 (zs1 (zs1 (zs0)))))))) (in_24 _ (zs16 (zs4 (zs4 (zs4 (zs1 (zs1 (zs0))))))))) rfl rfl rfl hz_yX13_isIn_3 ⟨Nat.le_of_ble_eq_true rfl, Nat.le_of_ble_eq_true rfl⟩) ⟨fun _ _ _ _ q => q, fun _ _ _ => ⟨rfl, trivial⟩⟩ rfl rfl hl.1 rfl (lv_room (Nat.le_of_ble_eq_true rfl)) dX13_isKnown_6 ⟨Nat.le_of_ble_eq_true rfl, Nat.le_of_ble_eq_true rfl⟩) hS (fun r2 H1 locs1 hw hk1 hS => ?_)
  have hP := ub_keep hP hk1
  generalize H1 = H at hP hS ⊢
  generalize locs1 = locs at hS ⊢
  rcases hw with hw | hw
  · -- isIn, case 0
    obtain ⟨rfl, f3⟩ := hw
    have t4 : (0 : Int) ≤ a0.toInt := f3.1
    have t5 : a0.toInt ≤ (xi (E 0) 1).toInt := f3.2
    have i6 : 0 ≤ a0.toInt ∧ a0.toInt ≤ 2147483647 := iv_le_r t4 (il_ 0) (iv_all _) (by decide)
    have i7 : 0 ≤ a0.toInt ∧ a0.toInt ≤ 400 := iv_le_l t5 i6 i1 (by decide)
    rw [hQ]
    exact W.zret (v := 1) hx hb hr rfl (fun t ht hW => ⟨⟨1, (), rfl, Or.inl ⟨rfl, by have h8 := ln_1; all_goals omega⟩, trivial⟩, hS.F ht⟩) hS.2.2 dX13_isKnown_9
  · -- isIn, case 1
    obtain ⟨rfl, f8⟩ := hw
    have t9 : ¬ ((0 : Int) ≤ a0.toInt ∧ a0.toInt ≤ (xi (E 0) 1).toInt) := f8
    rw [hQ]
    exact W.zret (v := 0) hx hb hr rfl (fun t ht hW => ⟨⟨0, (), rfl, Or.inr (⟨rfl, by have h8 := ln_0; all_goals omega⟩), trivial⟩, hS.F ht⟩) hS.2.2 dX13_isKnown_9
def v_isBoat : List Cond := .code yX13_isBoat cX13_isBoat 2 (some .boolean) :: vA
abbrev rm_isBoat : Room := { frames := 0, cells := 0, slots := 0, locals := 0 }
set_option maxHeartbeats 4000000 in
set_option maxRecDepth 100000 in
theorem q_isBoat (l : Launch) (dC : Nat → ClassId) (dI : Nat → Nat → Nat) (cT : Nat → ClassId) (ad : Nat → Nat) (E : Nat → va_E) (sz : Nat) (a0 : Int32) (hI0 : IX cT shM spM 72 ad E)  : Met l yX13_isBoat v_isBoat rm_isBoat (va_Pc [.ref (ad 0), .int a0] (HW dC dI (TYM cT) 72 ad E sz)) (va_Qi (S := Unit) (fun r _ => (r = 1 ∧ (0 ≤ a0.toInt ∧ a0.toInt < (xi (E 0) 8).toInt) ∧ (0 ≤ a0.toInt ∧ a0.toInt ≤ 15)) ∨ (r = 0 ∧ (¬ (0 ≤ a0.toInt ∧ a0.toInt < (xi (E 0) 8).toInt)))) (fun _ _ => True) (fun _ => False)) 0 0 (fun _ => False) := by
  refine Met.ofW (cc := cX13_isBoat) (maxL := 2) (ret := (some .boolean)) (by decide) rfl ?_
  intro p e s m args below meth c s₁ B hml hv
  obtain ⟨hargs, hsz, hP, hK, hD0, hEV⟩ := hv
  subst hsz
  have hx := B.exec
  have hb := B.bytes
  have hr := B.returns
  have hts := atoms_spec (ws := v_isBoat) B.pre
  have hown : s.vm.findClass RX13 = some m.cls := findClass_of_methodNamed B.named
  have hlocks := B.notSynchronized
  have hinX13 : ∀ w ∈ u_ws RX13 TX13 97, w ∈ v_isBoat := fun w h => vA_in _ w (in_X13 w h)
  have hS : va_S (fun _ : Nat => False) s.heap s.heap [] := va_S.rf
  have hD := hD0
  have hI := hI0
  have hKp : Kp (wl [] []) E E := Kp.rf
  have hl := lv_entry ([.ref (ad 0), .int a0]) (n := 2) (Nat.le_of_ble_eq_true rfl)
  obtain ⟨Q, hQ⟩ : ∃ Q, Q = MQ below (va_Qi (S := Unit) (fun r _ => (r = 1 ∧ (0 ≤ a0.toInt ∧ a0.toInt < (xi (E 0) 8).toInt) ∧ (0 ≤ a0.toInt ∧ a0.toInt ≤ 15)) ∨ (r = 0 ∧ (¬ (0 ≤ a0.toInt ∧ a0.toInt < (xi (E 0) 8).toInt)))) (fun _ _ => True) (fun _ => False)) args s 0 0 (fun _ => False) := ⟨_, rfl⟩
  rw [← hQ, show entryFrame m args 2 = _ from (congrArg (fun z => entryFrame m z 2) hargs).trans (lg_entry_eq _ _ _)]
  generalize (lg_sl ([.ref (ad 0), .int a0]) ++ List.replicate (2 - (lg_sl ([.ref (ad 0), .int a0])).length) Slot.unset).toArray = ls at hl ⊢
  have hl : lv_has ls 2 [(0, .ref (ad 0)), (1, .int a0)] := hl
  refine lv_iload_n hx hb dX13_isBoat_0 rfl (lv_at hl 1 rfl) ?_
  refine lv_if_lt (tgt := 16) hx hb dX13_isBoat_1 (by decide) (fun c1 => ?_) (fun c1 => ?_)
  · --1 taken
    have t2 : a0.toInt < 0 := ti_lt c1
    have i3 : -2147483648 ≤ a0.toInt ∧ a0.toInt ≤ -1 := iv_lt_l t2 (iv_all _) (il_ 0) (by decide)
    refine lv_iconst (v := 0) hx hb dX13_isBoat_16 (by decide) ?_
    rw [hQ]
    exact W.zret (v := 0) hx hb hr rfl (fun t ht hW => ⟨⟨0, (), rfl, Or.inr (⟨rfl, by have h8 := ln_0; all_goals omega⟩), trivial⟩, hS.F ht⟩) hS.2.2 dX13_isBoat_17
  · --1 not
    have t4 : (0 : Int) ≤ a0.toInt := ti_nlt c1
    have i5 : 0 ≤ a0.toInt ∧ a0.toInt ≤ 2147483647 := iv_le_r t4 (il_ 0) (iv_all _) (by decide)
    refine lv_iload_n hx hb dX13_isBoat_4 rfl (lv_at hl 1 rfl) ?_
    refine lv_aload_n hx hb dX13_isBoat_5 rfl (lv_at hl 0 rfl) ?_
    have i6 : 0 ≤ (xi (E 0) 8).toInt ∧ (xi (E 0) 8).toInt ≤ 16 := hI0.iv 0 (Nat.le_of_ble_eq_true rfl) rfl (Nat.le_of_ble_eq_true rfl) rfl
    refine th_get (ci := 14) (C := RX13) (T := TX13) (N := 97) (v := .int (xi (E 0) 8)) hx hb hts hinX13 hown hK hP hI 0 (Nat.le_of_ble_eq_true rfl) rfl rfl 8 (Nat.le_of_ble_eq_true rfl) (hts _ (vA_in _ _ (in_24 _ (zs16 (zs4 (zs1 (zs1 (zs0)))))))) (fun _ h9 => h9) (th_v0 hKp hI0 0 (Nat.le_of_ble_eq_true rfl) rfl (Nat.le_of_ble_eq_true rfl) rfl rfl) dX13_isBoat_6 ?_
    refine lv_icmp_ge (tgt := 16) hx hb dX13_isBoat_9 (by decide) (fun c7 => ?_) (fun c7 => ?_)
    · --9 taken
      have t8 : (xi (E 0) 8).toInt ≤ a0.toInt := ti_le c7
      refine lv_iconst (v := 0) hx hb dX13_isBoat_16 (by decide) ?_
      rw [hQ]
      exact W.zret (v := 0) hx hb hr rfl (fun t ht hW => ⟨⟨0, (), rfl, Or.inr (⟨rfl, by have h8 := ln_0; all_goals omega⟩), trivial⟩, hS.F ht⟩) hS.2.2 dX13_isBoat_17
    · --9 not
      have t9 : a0.toInt < (xi (E 0) 8).toInt := ti_nle c7
      have i10 : 0 ≤ a0.toInt ∧ a0.toInt ≤ 15 := iv_lt_l t9 i5 i6 (by decide)
      have i11 : 1 ≤ (xi (E 0) 8).toInt ∧ (xi (E 0) 8).toInt ≤ 16 := iv_lt_r t9 i5 i6 (by decide)
      refine lv_iconst (v := 1) hx hb dX13_isBoat_12 (by decide) ?_
      refine lv_goto (tgt := 17) hx hb dX13_isBoat_13 (by decide) ?_
      rw [hQ]
      exact W.zret (v := 1) hx hb hr rfl (fun t ht hW => ⟨⟨1, (), rfl, Or.inl ⟨rfl, by have h8 := ln_1; all_goals omega, i10⟩, trivial⟩, hS.F ht⟩) hS.2.2 dX13_isBoat_17
def v_isRace : List Cond := .code yX13_isRace cX13_isRace 2 (some .boolean) :: vA
abbrev rm_isRace : Room := { frames := 0, cells := 0, slots := 0, locals := 0 }
set_option maxHeartbeats 4000000 in
set_option maxRecDepth 100000 in
theorem q_isRace (l : Launch) (dC : Nat → ClassId) (dI : Nat → Nat → Nat) (cT : Nat → ClassId) (ad : Nat → Nat) (E : Nat → va_E) (sz : Nat) (a0 : Int32) (hI0 : IX cT shM spM 72 ad E)  : Met l yX13_isRace v_isRace rm_isRace (va_Pc [.ref (ad 0), .int a0] (HW dC dI (TYM cT) 72 ad E sz)) (va_Qi (S := Unit) (fun r _ => (r = 1 ∧ (0 ≤ a0.toInt ∧ a0.toInt < (xi (E 0) 46).toInt) ∧ (0 ≤ a0.toInt ∧ a0.toInt ≤ 19)) ∨ (r = 0 ∧ (¬ (0 ≤ a0.toInt ∧ a0.toInt < (xi (E 0) 46).toInt)))) (fun _ _ => True) (fun _ => False)) 0 0 (fun _ => False) := by
  refine Met.ofW (cc := cX13_isRace) (maxL := 2) (ret := (some .boolean)) (by decide) rfl ?_
  intro p e s m args below meth c s₁ B hml hv
  obtain ⟨hargs, hsz, hP, hK, hD0, hEV⟩ := hv
  subst hsz
  have hx := B.exec
  have hb := B.bytes
  have hr := B.returns
  have hts := atoms_spec (ws := v_isRace) B.pre
  have hown : s.vm.findClass RX13 = some m.cls := findClass_of_methodNamed B.named
  have hlocks := B.notSynchronized
  have hinX13 : ∀ w ∈ u_ws RX13 TX13 97, w ∈ v_isRace := fun w h => vA_in _ w (in_X13 w h)
  have hS : va_S (fun _ : Nat => False) s.heap s.heap [] := va_S.rf
  have hD := hD0
  have hI := hI0
  have hKp : Kp (wl [] []) E E := Kp.rf
  have hl := lv_entry ([.ref (ad 0), .int a0]) (n := 2) (Nat.le_of_ble_eq_true rfl)
  obtain ⟨Q, hQ⟩ : ∃ Q, Q = MQ below (va_Qi (S := Unit) (fun r _ => (r = 1 ∧ (0 ≤ a0.toInt ∧ a0.toInt < (xi (E 0) 46).toInt) ∧ (0 ≤ a0.toInt ∧ a0.toInt ≤ 19)) ∨ (r = 0 ∧ (¬ (0 ≤ a0.toInt ∧ a0.toInt < (xi (E 0) 46).toInt)))) (fun _ _ => True) (fun _ => False)) args s 0 0 (fun _ => False) := ⟨_, rfl⟩
  rw [← hQ, show entryFrame m args 2 = _ from (congrArg (fun z => entryFrame m z 2) hargs).trans (lg_entry_eq _ _ _)]
  generalize (lg_sl ([.ref (ad 0), .int a0]) ++ List.replicate (2 - (lg_sl ([.ref (ad 0), .int a0])).length) Slot.unset).toArray = ls at hl ⊢
  have hl : lv_has ls 2 [(0, .ref (ad 0)), (1, .int a0)] := hl
  refine lv_iload_n hx hb dX13_isRace_0 rfl (lv_at hl 1 rfl) ?_
  refine lv_if_lt (tgt := 16) hx hb dX13_isRace_1 (by decide) (fun c1 => ?_) (fun c1 => ?_)
  · --1 taken
    have t2 : a0.toInt < 0 := ti_lt c1
    have i3 : -2147483648 ≤ a0.toInt ∧ a0.toInt ≤ -1 := iv_lt_l t2 (iv_all _) (il_ 0) (by decide)
    refine lv_iconst (v := 0) hx hb dX13_isRace_16 (by decide) ?_
    rw [hQ]
    exact W.zret (v := 0) hx hb hr rfl (fun t ht hW => ⟨⟨0, (), rfl, Or.inr (⟨rfl, by have h8 := ln_0; all_goals omega⟩), trivial⟩, hS.F ht⟩) hS.2.2 dX13_isRace_17
  · --1 not
    have t4 : (0 : Int) ≤ a0.toInt := ti_nlt c1
    have i5 : 0 ≤ a0.toInt ∧ a0.toInt ≤ 2147483647 := iv_le_r t4 (il_ 0) (iv_all _) (by decide)
    refine lv_iload_n hx hb dX13_isRace_4 rfl (lv_at hl 1 rfl) ?_
    refine lv_aload_n hx hb dX13_isRace_5 rfl (lv_at hl 0 rfl) ?_
    have i6 : 0 ≤ (xi (E 0) 46).toInt ∧ (xi (E 0) 46).toInt ≤ 20 := hI0.iv 0 (Nat.le_of_ble_eq_true rfl) rfl (Nat.le_of_ble_eq_true rfl) rfl
    refine th_get (ci := 14) (C := RX13) (T := TX13) (N := 97) (v := .int (xi (E 0) 46)) hx hb hts hinX13 hown hK hP hI 0 (Nat.le_of_ble_eq_true rfl) rfl rfl 46 (Nat.le_of_ble_eq_true rfl) (hts _ (vA_in _ _ (in_24 _ (zs16 (zs1 (zs0)))))) (fun _ h9 => h9) (th_v0 hKp hI0 0 (Nat.le_of_ble_eq_true rfl) rfl (Nat.le_of_ble_eq_true rfl) rfl rfl) dX13_isRace_6 ?_
    refine lv_icmp_ge (tgt := 16) hx hb dX13_isRace_9 (by decide) (fun c7 => ?_) (fun c7 => ?_)
    · --9 taken
      have t8 : (xi (E 0) 46).toInt ≤ a0.toInt := ti_le c7
      refine lv_iconst (v := 0) hx hb dX13_isRace_16 (by decide) ?_
      rw [hQ]
      exact W.zret (v := 0) hx hb hr rfl (fun t ht hW => ⟨⟨0, (), rfl, Or.inr (⟨rfl, by have h8 := ln_0; all_goals omega⟩), trivial⟩, hS.F ht⟩) hS.2.2 dX13_isRace_17
    · --9 not
      have t9 : a0.toInt < (xi (E 0) 46).toInt := ti_nle c7
      have i10 : 0 ≤ a0.toInt ∧ a0.toInt ≤ 19 := iv_lt_l t9 i5 i6 (by decide)
      have i11 : 1 ≤ (xi (E 0) 46).toInt ∧ (xi (E 0) 46).toInt ≤ 20 := iv_lt_r t9 i5 i6 (by decide)
      refine lv_iconst (v := 1) hx hb dX13_isRace_12 (by decide) ?_
      refine lv_goto (tgt := 17) hx hb dX13_isRace_13 (by decide) ?_
      rw [hQ]
      exact W.zret (v := 1) hx hb hr rfl (fun t ht hW => ⟨⟨1, (), rfl, Or.inl ⟨rfl, by have h8 := ln_1; all_goals omega, i10⟩, trivial⟩, hS.F ht⟩) hS.2.2 dX13_isRace_17
def v_bytesIn : List Cond := .code yX13_bytesIn cX13_bytesIn 3 (some .int) :: vA
abbrev rm_bytesIn : Room := { frames := 0, cells := 0, slots := 0, locals := 0 }
set_option maxHeartbeats 4000000 in
set_option maxRecDepth 100000 in
theorem q_bytesIn (l : Launch) (a0 : Int32)  : Met l yX13_bytesIn v_bytesIn rm_bytesIn (va_Pc [.int a0] (fun _ => True)) (va_Qi (S := Unit) (fun r _ => (0 ≤ r.toInt ∧ r.toInt ≤ 4) ∧ (r.toInt = (nbN a0 : Int))) (fun _ _ => True) (fun _ => False)) 0 0 (fun _ => False) := by
  refine Met.ofW (cc := cX13_bytesIn) (maxL := 3) (ret := (some .int)) (by decide) rfl ?_
  intro p e s m args below meth c s₁ B hml hv
  obtain ⟨hargs, -⟩ := hv
  have hx := B.exec
  have hb := B.bytes
  have hr := B.returns
  have hts := atoms_spec (ws := v_bytesIn) B.pre
  have hown : s.vm.findClass RX13 = some m.cls := findClass_of_methodNamed B.named
  have hlocks := B.notSynchronized
  have hS : va_S (fun _ : Nat => False) s.heap s.heap [] := va_S.rf
  have hl := lv_entry ([.int a0]) (n := 3) (Nat.le_of_ble_eq_true rfl)
  obtain ⟨Q, hQ⟩ : ∃ Q, Q = MQ below (va_Qi (S := Unit) (fun r _ => (0 ≤ r.toInt ∧ r.toInt ≤ 4) ∧ (r.toInt = (nbN a0 : Int))) (fun _ _ => True) (fun _ => False)) args s 0 0 (fun _ => False) := ⟨_, rfl⟩
  rw [← hQ, show entryFrame m args 3 = _ from (congrArg (fun z => entryFrame m z 3) hargs).trans (lg_entry_eq _ _ _)]
  generalize (lg_sl ([.int a0]) ++ List.replicate (3 - (lg_sl ([.int a0])).length) Slot.unset).toArray = ls at hl ⊢
  have hl : lv_has ls 3 [(0, .int a0)] := hl
  have hnb : nbN a0 = bN (ub_by a0 24) + bN (ub_by a0 16) + bN (ub_by a0 8) + bN (ub_by a0 0) := rfl
  have hb24 := bN_le (ub_by a0 24)
  have hb16 := bN_le (ub_by a0 16)
  have hb8 := bN_le (ub_by a0 8)
  have hb0 := bN_le (ub_by a0 0)
  refine lv_iconst (v := 0) hx hb dX13_bytesIn_0 (by decide) ?_
  refine lv_istore_n (lv' := [(1, .int 0), (0, .int a0)]) hx hb dX13_bytesIn_1 rfl hl (by decide) rfl (fun ls hl => ?_)
  refine lv_bipush (v := 24) hx hb dX13_bytesIn_2 (by decide) ?_
  refine lv_istore_n (lv' := [(2, .int 24), (1, .int 0), (0, .int a0)]) hx hb dX13_bytesIn_4 rfl hl (by decide) rfl (fun ls hl => ?_)
  refine lv_iload_n hx hb dX13_bytesIn_5 rfl (lv_at hl 0 rfl) ?_
  refine lv_if_lt (tgt := 33) hx hb dX13_bytesIn_6 (by decide) (fun c1 => ?_) (fun c1 => ?_)
  · --6 taken
    exact absurd c1 (by decide)
  · --6 not
    refine lv_iload_n hx hb dX13_bytesIn_9 rfl (lv_at hl 1 rfl) ?_
    refine lv_iload_n hx hb dX13_bytesIn_10 rfl (lv_at hl 2 rfl) ?_
    refine lv_iload_n hx hb dX13_bytesIn_11 rfl (lv_at hl 0 rfl) ?_
    refine lv_ishr hx hb dX13_bytesIn_12 ?_
    refine lv_topi (fun y2 ey2 => ?_)
    refine lv_sipush (v := 255) hx hb dX13_bytesIn_13 (by decide) ?_
    refine lv_iand hx hb dX13_bytesIn_16 ?_
    refine lv_topi (fun y3 ey3 => ?_)
    have iy3 : 0 ≤ y3.toInt ∧ y3.toInt ≤ 255 := ti_and (by decide) ey3
    refine lv_if_eq (tgt := 24) hx hb dX13_bytesIn_17 (by decide) (fun c4 => ?_) (fun c4 => ?_)
    · --17 taken
      have t5 : y3.toInt = 0 := ti_eq c4
      have i6 : 0 ≤ y3.toInt ∧ y3.toInt ≤ 0 := iv_eqi t5 iy3 (il_ 0) (by decide)
      have b24 : bN (ub_by a0 24) = 0 := bN_0 ((show ub_by a0 24 = y3 from by rw [← ub_sh 24 (by decide) a0, ey3, ey2]; rfl).trans c4)
      refine lv_iconst (v := 0) hx hb dX13_bytesIn_24 (by decide) ?_
      refine lv_iadd hx hb dX13_bytesIn_25 ?_
      refine lv_topi (fun y7 ey7 => ?_)
      obtain rfl : (0 : Int32) = y7 := (ey7.trans (by decide)).symm
      refine lv_istore_n (lv' := [(1, .int 0), (2, .int 24), (0, .int a0)]) hx hb dX13_bytesIn_26 rfl hl (by decide) rfl (fun ls hl => ?_)
      refine lv_iinc (v := 16) (lv' := [(2, .int 16), (1, .int 0), (0, .int a0)]) hx hb dX13_bytesIn_27 hl (k := 1) rfl (by decide) (by decide) rfl (fun ls hl => ?_)
      refine lv_goto (tgt := 5) hx hb dX13_bytesIn_30 (by decide) ?_
      refine lv_iload_n hx hb dX13_bytesIn_5 rfl (lv_at hl 0 rfl) ?_
      refine lv_if_lt (tgt := 33) hx hb dX13_bytesIn_6 (by decide) (fun c8 => ?_) (fun c8 => ?_)
      · --6 taken
        exact absurd c8 (by decide)
      · --6 not
        refine lv_iload_n hx hb dX13_bytesIn_9 rfl (lv_at hl 1 rfl) ?_
        refine lv_iload_n hx hb dX13_bytesIn_10 rfl (lv_at hl 2 rfl) ?_
        refine lv_iload_n hx hb dX13_bytesIn_11 rfl (lv_at hl 0 rfl) ?_
        refine lv_ishr hx hb dX13_bytesIn_12 ?_
        refine lv_topi (fun y9 ey9 => ?_)
        refine lv_sipush (v := 255) hx hb dX13_bytesIn_13 (by decide) ?_
        refine lv_iand hx hb dX13_bytesIn_16 ?_
        refine lv_topi (fun y10 ey10 => ?_)
        have iy10 : 0 ≤ y10.toInt ∧ y10.toInt ≤ 255 := ti_and (by decide) ey10
        refine lv_if_eq (tgt := 24) hx hb dX13_bytesIn_17 (by decide) (fun c11 => ?_) (fun c11 => ?_)
        · --17 taken
          have t12 : y10.toInt = 0 := ti_eq c11
          have i13 : 0 ≤ y10.toInt ∧ y10.toInt ≤ 0 := iv_eqi t12 iy10 (il_ 0) (by decide)
          have b16 : bN (ub_by a0 16) = 0 := bN_0 ((show ub_by a0 16 = y10 from by rw [← ub_sh 16 (by decide) a0, ey10, ey9]; rfl).trans c11)
          refine lv_iconst (v := 0) hx hb dX13_bytesIn_24 (by decide) ?_
          refine lv_iadd hx hb dX13_bytesIn_25 ?_
          refine lv_topi (fun y14 ey14 => ?_)
          obtain rfl : (0 : Int32) = y14 := (ey14.trans (by decide)).symm
          refine lv_istore_n (lv' := [(1, .int 0), (2, .int 16), (0, .int a0)]) hx hb dX13_bytesIn_26 rfl hl (by decide) rfl (fun ls hl => ?_)
          refine lv_iinc (v := 8) (lv' := [(2, .int 8), (1, .int 0), (0, .int a0)]) hx hb dX13_bytesIn_27 hl (k := 1) rfl (by decide) (by decide) rfl (fun ls hl => ?_)
          refine lv_goto (tgt := 5) hx hb dX13_bytesIn_30 (by decide) ?_
          refine lv_iload_n hx hb dX13_bytesIn_5 rfl (lv_at hl 0 rfl) ?_
          refine lv_if_lt (tgt := 33) hx hb dX13_bytesIn_6 (by decide) (fun c15 => ?_) (fun c15 => ?_)
          · --6 taken
            exact absurd c15 (by decide)
          · --6 not
            refine lv_iload_n hx hb dX13_bytesIn_9 rfl (lv_at hl 1 rfl) ?_
            refine lv_iload_n hx hb dX13_bytesIn_10 rfl (lv_at hl 2 rfl) ?_
            refine lv_iload_n hx hb dX13_bytesIn_11 rfl (lv_at hl 0 rfl) ?_
            refine lv_ishr hx hb dX13_bytesIn_12 ?_
            refine lv_topi (fun y16 ey16 => ?_)
            refine lv_sipush (v := 255) hx hb dX13_bytesIn_13 (by decide) ?_
            refine lv_iand hx hb dX13_bytesIn_16 ?_
            refine lv_topi (fun y17 ey17 => ?_)
            have iy17 : 0 ≤ y17.toInt ∧ y17.toInt ≤ 255 := ti_and (by decide) ey17
            refine lv_if_eq (tgt := 24) hx hb dX13_bytesIn_17 (by decide) (fun c18 => ?_) (fun c18 => ?_)
            · --17 taken
              have t19 : y17.toInt = 0 := ti_eq c18
              have i20 : 0 ≤ y17.toInt ∧ y17.toInt ≤ 0 := iv_eqi t19 iy17 (il_ 0) (by decide)
              have b8 : bN (ub_by a0 8) = 0 := bN_0 ((show ub_by a0 8 = y17 from by rw [← ub_sh 8 (by decide) a0, ey17, ey16]; rfl).trans c18)
              refine lv_iconst (v := 0) hx hb dX13_bytesIn_24 (by decide) ?_
              refine lv_iadd hx hb dX13_bytesIn_25 ?_
              refine lv_topi (fun y21 ey21 => ?_)
              obtain rfl : (0 : Int32) = y21 := (ey21.trans (by decide)).symm
              refine lv_istore_n (lv' := [(1, .int 0), (2, .int 8), (0, .int a0)]) hx hb dX13_bytesIn_26 rfl hl (by decide) rfl (fun ls hl => ?_)
              refine lv_iinc (v := 0) (lv' := [(2, .int 0), (1, .int 0), (0, .int a0)]) hx hb dX13_bytesIn_27 hl (k := 1) rfl (by decide) (by decide) rfl (fun ls hl => ?_)
              refine lv_goto (tgt := 5) hx hb dX13_bytesIn_30 (by decide) ?_
              refine lv_iload_n hx hb dX13_bytesIn_5 rfl (lv_at hl 0 rfl) ?_
              refine lv_if_lt (tgt := 33) hx hb dX13_bytesIn_6 (by decide) (fun c22 => ?_) (fun c22 => ?_)
              · --6 taken
                exact absurd c22 (by decide)
              · --6 not
                refine lv_iload_n hx hb dX13_bytesIn_9 rfl (lv_at hl 1 rfl) ?_
                refine lv_iload_n hx hb dX13_bytesIn_10 rfl (lv_at hl 2 rfl) ?_
                refine lv_iload_n hx hb dX13_bytesIn_11 rfl (lv_at hl 0 rfl) ?_
                refine lv_ishr hx hb dX13_bytesIn_12 ?_
                refine lv_topi (fun y23 ey23 => ?_)
                refine lv_sipush (v := 255) hx hb dX13_bytesIn_13 (by decide) ?_
                refine lv_iand hx hb dX13_bytesIn_16 ?_
                refine lv_topi (fun y24 ey24 => ?_)
                have iy24 : 0 ≤ y24.toInt ∧ y24.toInt ≤ 255 := ti_and (by decide) ey24
                refine lv_if_eq (tgt := 24) hx hb dX13_bytesIn_17 (by decide) (fun c25 => ?_) (fun c25 => ?_)
                · --17 taken
                  have t26 : y24.toInt = 0 := ti_eq c25
                  have i27 : 0 ≤ y24.toInt ∧ y24.toInt ≤ 0 := iv_eqi t26 iy24 (il_ 0) (by decide)
                  have b0 : bN (ub_by a0 0) = 0 := bN_0 ((show ub_by a0 0 = y24 from by rw [← ub_sh 0 (by decide) a0, ey24, ey23]; rfl).trans c25)
                  refine lv_iconst (v := 0) hx hb dX13_bytesIn_24 (by decide) ?_
                  refine lv_iadd hx hb dX13_bytesIn_25 ?_
                  refine lv_topi (fun y28 ey28 => ?_)
                  obtain rfl : (0 : Int32) = y28 := (ey28.trans (by decide)).symm
                  refine lv_istore_n (lv' := [(1, .int 0), (2, .int 0), (0, .int a0)]) hx hb dX13_bytesIn_26 rfl hl (by decide) rfl (fun ls hl => ?_)
                  refine lv_iinc (v := -8) (lv' := [(2, .int (-8)), (1, .int 0), (0, .int a0)]) hx hb dX13_bytesIn_27 hl (k := 1) rfl (by decide) (by decide) rfl (fun ls hl => ?_)
                  refine lv_goto (tgt := 5) hx hb dX13_bytesIn_30 (by decide) ?_
                  refine lv_iload_n hx hb dX13_bytesIn_5 rfl (lv_at hl 0 rfl) ?_
                  refine lv_if_lt (tgt := 33) hx hb dX13_bytesIn_6 (by decide) (fun c29 => ?_) (fun c29 => ?_)
                  · --6 taken
                    refine lv_iload_n hx hb dX13_bytesIn_33 rfl (lv_at hl 1 rfl) ?_
                    rw [hQ]
                    exact W.iret (v := 0) hx hb hr (fun t ht hW => ⟨⟨0, (), rfl, ⟨(iv_w ln_0 (by decide)), by have h9 := ln_0; omega⟩, trivial⟩, hS.F ht⟩) hS.2.2 dX13_bytesIn_34
                  · --6 not
                    exact absurd c29 (by decide)
                · --17 not
                  have t30 : ¬ y24.toInt = 0 := ti_ne c25
                  have i31 : 1 ≤ y24.toInt ∧ y24.toInt ≤ 255 := iv_ne_l t30 iy24 (il_ 0)
                  have b0 : bN (ub_by a0 0) = 1 := bN_1 (fun q9 => c25 ((show ub_by a0 0 = y24 from by rw [← ub_sh 0 (by decide) a0, ey24, ey23]; rfl).symm.trans q9))
                  refine lv_iconst (v := 1) hx hb dX13_bytesIn_20 (by decide) ?_
                  refine lv_goto (tgt := 25) hx hb dX13_bytesIn_21 (by decide) ?_
                  refine lv_iadd hx hb dX13_bytesIn_25 ?_
                  refine lv_topi (fun y32 ey32 => ?_)
                  obtain rfl : (1 : Int32) = y32 := (ey32.trans (by decide)).symm
                  refine lv_istore_n (lv' := [(1, .int 1), (2, .int 0), (0, .int a0)]) hx hb dX13_bytesIn_26 rfl hl (by decide) rfl (fun ls hl => ?_)
                  refine lv_iinc (v := -8) (lv' := [(2, .int (-8)), (1, .int 1), (0, .int a0)]) hx hb dX13_bytesIn_27 hl (k := 1) rfl (by decide) (by decide) rfl (fun ls hl => ?_)
                  refine lv_goto (tgt := 5) hx hb dX13_bytesIn_30 (by decide) ?_
                  refine lv_iload_n hx hb dX13_bytesIn_5 rfl (lv_at hl 0 rfl) ?_
                  refine lv_if_lt (tgt := 33) hx hb dX13_bytesIn_6 (by decide) (fun c33 => ?_) (fun c33 => ?_)
                  · --6 taken
                    refine lv_iload_n hx hb dX13_bytesIn_33 rfl (lv_at hl 1 rfl) ?_
                    rw [hQ]
                    exact W.iret (v := 1) hx hb hr (fun t ht hW => ⟨⟨1, (), rfl, ⟨(iv_w ln_1 (by decide)), by have h9 := ln_1; omega⟩, trivial⟩, hS.F ht⟩) hS.2.2 dX13_bytesIn_34
                  · --6 not
                    exact absurd c33 (by decide)
            · --17 not
              have t34 : ¬ y17.toInt = 0 := ti_ne c18
              have i35 : 1 ≤ y17.toInt ∧ y17.toInt ≤ 255 := iv_ne_l t34 iy17 (il_ 0)
              have b8 : bN (ub_by a0 8) = 1 := bN_1 (fun q9 => c18 ((show ub_by a0 8 = y17 from by rw [← ub_sh 8 (by decide) a0, ey17, ey16]; rfl).symm.trans q9))
              refine lv_iconst (v := 1) hx hb dX13_bytesIn_20 (by decide) ?_
              refine lv_goto (tgt := 25) hx hb dX13_bytesIn_21 (by decide) ?_
              refine lv_iadd hx hb dX13_bytesIn_25 ?_
              refine lv_topi (fun y36 ey36 => ?_)
              obtain rfl : (1 : Int32) = y36 := (ey36.trans (by decide)).symm
              refine lv_istore_n (lv' := [(1, .int 1), (2, .int 8), (0, .int a0)]) hx hb dX13_bytesIn_26 rfl hl (by decide) rfl (fun ls hl => ?_)
              refine lv_iinc (v := 0) (lv' := [(2, .int 0), (1, .int 1), (0, .int a0)]) hx hb dX13_bytesIn_27 hl (k := 1) rfl (by decide) (by decide) rfl (fun ls hl => ?_)
              refine lv_goto (tgt := 5) hx hb dX13_bytesIn_30 (by decide) ?_
              refine lv_iload_n hx hb dX13_bytesIn_5 rfl (lv_at hl 0 rfl) ?_
              refine lv_if_lt (tgt := 33) hx hb dX13_bytesIn_6 (by decide) (fun c37 => ?_) (fun c37 => ?_)
              · --6 taken
                exact absurd c37 (by decide)
              · --6 not
                refine lv_iload_n hx hb dX13_bytesIn_9 rfl (lv_at hl 1 rfl) ?_
                refine lv_iload_n hx hb dX13_bytesIn_10 rfl (lv_at hl 2 rfl) ?_
                refine lv_iload_n hx hb dX13_bytesIn_11 rfl (lv_at hl 0 rfl) ?_
                refine lv_ishr hx hb dX13_bytesIn_12 ?_
                refine lv_topi (fun y38 ey38 => ?_)
                refine lv_sipush (v := 255) hx hb dX13_bytesIn_13 (by decide) ?_
                refine lv_iand hx hb dX13_bytesIn_16 ?_
                refine lv_topi (fun y39 ey39 => ?_)
                have iy39 : 0 ≤ y39.toInt ∧ y39.toInt ≤ 255 := ti_and (by decide) ey39
                refine lv_if_eq (tgt := 24) hx hb dX13_bytesIn_17 (by decide) (fun c40 => ?_) (fun c40 => ?_)
                · --17 taken
                  have t41 : y39.toInt = 0 := ti_eq c40
                  have i42 : 0 ≤ y39.toInt ∧ y39.toInt ≤ 0 := iv_eqi t41 iy39 (il_ 0) (by decide)
                  have b0 : bN (ub_by a0 0) = 0 := bN_0 ((show ub_by a0 0 = y39 from by rw [← ub_sh 0 (by decide) a0, ey39, ey38]; rfl).trans c40)
                  refine lv_iconst (v := 0) hx hb dX13_bytesIn_24 (by decide) ?_
                  refine lv_iadd hx hb dX13_bytesIn_25 ?_
                  refine lv_topi (fun y43 ey43 => ?_)
                  obtain rfl : (1 : Int32) = y43 := (ey43.trans (by decide)).symm
                  refine lv_istore_n (lv' := [(1, .int 1), (2, .int 0), (0, .int a0)]) hx hb dX13_bytesIn_26 rfl hl (by decide) rfl (fun ls hl => ?_)
                  refine lv_iinc (v := -8) (lv' := [(2, .int (-8)), (1, .int 1), (0, .int a0)]) hx hb dX13_bytesIn_27 hl (k := 1) rfl (by decide) (by decide) rfl (fun ls hl => ?_)
                  refine lv_goto (tgt := 5) hx hb dX13_bytesIn_30 (by decide) ?_
                  refine lv_iload_n hx hb dX13_bytesIn_5 rfl (lv_at hl 0 rfl) ?_
                  refine lv_if_lt (tgt := 33) hx hb dX13_bytesIn_6 (by decide) (fun c44 => ?_) (fun c44 => ?_)
                  · --6 taken
                    refine lv_iload_n hx hb dX13_bytesIn_33 rfl (lv_at hl 1 rfl) ?_
                    rw [hQ]
                    exact W.iret (v := 1) hx hb hr (fun t ht hW => ⟨⟨1, (), rfl, ⟨(iv_w ln_1 (by decide)), by have h9 := ln_1; omega⟩, trivial⟩, hS.F ht⟩) hS.2.2 dX13_bytesIn_34
                  · --6 not
                    exact absurd c44 (by decide)
                · --17 not
                  have t45 : ¬ y39.toInt = 0 := ti_ne c40
                  have i46 : 1 ≤ y39.toInt ∧ y39.toInt ≤ 255 := iv_ne_l t45 iy39 (il_ 0)
                  have b0 : bN (ub_by a0 0) = 1 := bN_1 (fun q9 => c40 ((show ub_by a0 0 = y39 from by rw [← ub_sh 0 (by decide) a0, ey39, ey38]; rfl).symm.trans q9))
                  refine lv_iconst (v := 1) hx hb dX13_bytesIn_20 (by decide) ?_
                  refine lv_goto (tgt := 25) hx hb dX13_bytesIn_21 (by decide) ?_
                  refine lv_iadd hx hb dX13_bytesIn_25 ?_
                  refine lv_topi (fun y47 ey47 => ?_)
                  obtain rfl : (2 : Int32) = y47 := (ey47.trans (by decide)).symm
                  refine lv_istore_n (lv' := [(1, .int 2), (2, .int 0), (0, .int a0)]) hx hb dX13_bytesIn_26 rfl hl (by decide) rfl (fun ls hl => ?_)
                  refine lv_iinc (v := -8) (lv' := [(2, .int (-8)), (1, .int 2), (0, .int a0)]) hx hb dX13_bytesIn_27 hl (k := 1) rfl (by decide) (by decide) rfl (fun ls hl => ?_)
                  refine lv_goto (tgt := 5) hx hb dX13_bytesIn_30 (by decide) ?_
                  refine lv_iload_n hx hb dX13_bytesIn_5 rfl (lv_at hl 0 rfl) ?_
                  refine lv_if_lt (tgt := 33) hx hb dX13_bytesIn_6 (by decide) (fun c48 => ?_) (fun c48 => ?_)
                  · --6 taken
                    refine lv_iload_n hx hb dX13_bytesIn_33 rfl (lv_at hl 1 rfl) ?_
                    rw [hQ]
                    exact W.iret (v := 2) hx hb hr (fun t ht hW => ⟨⟨2, (), rfl, ⟨(iv_w ln_2 (by decide)), by have h9 := ln_2; omega⟩, trivial⟩, hS.F ht⟩) hS.2.2 dX13_bytesIn_34
                  · --6 not
                    exact absurd c48 (by decide)
        · --17 not
          have t49 : ¬ y10.toInt = 0 := ti_ne c11
          have i50 : 1 ≤ y10.toInt ∧ y10.toInt ≤ 255 := iv_ne_l t49 iy10 (il_ 0)
          have b16 : bN (ub_by a0 16) = 1 := bN_1 (fun q9 => c11 ((show ub_by a0 16 = y10 from by rw [← ub_sh 16 (by decide) a0, ey10, ey9]; rfl).symm.trans q9))
          refine lv_iconst (v := 1) hx hb dX13_bytesIn_20 (by decide) ?_
          refine lv_goto (tgt := 25) hx hb dX13_bytesIn_21 (by decide) ?_
          refine lv_iadd hx hb dX13_bytesIn_25 ?_
          refine lv_topi (fun y51 ey51 => ?_)
          obtain rfl : (1 : Int32) = y51 := (ey51.trans (by decide)).symm
          refine lv_istore_n (lv' := [(1, .int 1), (2, .int 16), (0, .int a0)]) hx hb dX13_bytesIn_26 rfl hl (by decide) rfl (fun ls hl => ?_)
          refine lv_iinc (v := 8) (lv' := [(2, .int 8), (1, .int 1), (0, .int a0)]) hx hb dX13_bytesIn_27 hl (k := 1) rfl (by decide) (by decide) rfl (fun ls hl => ?_)
          refine lv_goto (tgt := 5) hx hb dX13_bytesIn_30 (by decide) ?_
          refine lv_iload_n hx hb dX13_bytesIn_5 rfl (lv_at hl 0 rfl) ?_
          refine lv_if_lt (tgt := 33) hx hb dX13_bytesIn_6 (by decide) (fun c52 => ?_) (fun c52 => ?_)
          · --6 taken
            exact absurd c52 (by decide)
          · --6 not
            refine lv_iload_n hx hb dX13_bytesIn_9 rfl (lv_at hl 1 rfl) ?_
            refine lv_iload_n hx hb dX13_bytesIn_10 rfl (lv_at hl 2 rfl) ?_
            refine lv_iload_n hx hb dX13_bytesIn_11 rfl (lv_at hl 0 rfl) ?_
            refine lv_ishr hx hb dX13_bytesIn_12 ?_
            refine lv_topi (fun y53 ey53 => ?_)
            refine lv_sipush (v := 255) hx hb dX13_bytesIn_13 (by decide) ?_
            refine lv_iand hx hb dX13_bytesIn_16 ?_
            refine lv_topi (fun y54 ey54 => ?_)
            have iy54 : 0 ≤ y54.toInt ∧ y54.toInt ≤ 255 := ti_and (by decide) ey54
            refine lv_if_eq (tgt := 24) hx hb dX13_bytesIn_17 (by decide) (fun c55 => ?_) (fun c55 => ?_)
            · --17 taken
              have t56 : y54.toInt = 0 := ti_eq c55
              have i57 : 0 ≤ y54.toInt ∧ y54.toInt ≤ 0 := iv_eqi t56 iy54 (il_ 0) (by decide)
              have b8 : bN (ub_by a0 8) = 0 := bN_0 ((show ub_by a0 8 = y54 from by rw [← ub_sh 8 (by decide) a0, ey54, ey53]; rfl).trans c55)
              refine lv_iconst (v := 0) hx hb dX13_bytesIn_24 (by decide) ?_
              refine lv_iadd hx hb dX13_bytesIn_25 ?_
              refine lv_topi (fun y58 ey58 => ?_)
              obtain rfl : (1 : Int32) = y58 := (ey58.trans (by decide)).symm
              refine lv_istore_n (lv' := [(1, .int 1), (2, .int 8), (0, .int a0)]) hx hb dX13_bytesIn_26 rfl hl (by decide) rfl (fun ls hl => ?_)
              refine lv_iinc (v := 0) (lv' := [(2, .int 0), (1, .int 1), (0, .int a0)]) hx hb dX13_bytesIn_27 hl (k := 1) rfl (by decide) (by decide) rfl (fun ls hl => ?_)
              refine lv_goto (tgt := 5) hx hb dX13_bytesIn_30 (by decide) ?_
              refine lv_iload_n hx hb dX13_bytesIn_5 rfl (lv_at hl 0 rfl) ?_
              refine lv_if_lt (tgt := 33) hx hb dX13_bytesIn_6 (by decide) (fun c59 => ?_) (fun c59 => ?_)
              · --6 taken
                exact absurd c59 (by decide)
              · --6 not
                refine lv_iload_n hx hb dX13_bytesIn_9 rfl (lv_at hl 1 rfl) ?_
                refine lv_iload_n hx hb dX13_bytesIn_10 rfl (lv_at hl 2 rfl) ?_
                refine lv_iload_n hx hb dX13_bytesIn_11 rfl (lv_at hl 0 rfl) ?_
                refine lv_ishr hx hb dX13_bytesIn_12 ?_
                refine lv_topi (fun y60 ey60 => ?_)
                refine lv_sipush (v := 255) hx hb dX13_bytesIn_13 (by decide) ?_
                refine lv_iand hx hb dX13_bytesIn_16 ?_
                refine lv_topi (fun y61 ey61 => ?_)
                have iy61 : 0 ≤ y61.toInt ∧ y61.toInt ≤ 255 := ti_and (by decide) ey61
                refine lv_if_eq (tgt := 24) hx hb dX13_bytesIn_17 (by decide) (fun c62 => ?_) (fun c62 => ?_)
                · --17 taken
                  have t63 : y61.toInt = 0 := ti_eq c62
                  have i64 : 0 ≤ y61.toInt ∧ y61.toInt ≤ 0 := iv_eqi t63 iy61 (il_ 0) (by decide)
                  have b0 : bN (ub_by a0 0) = 0 := bN_0 ((show ub_by a0 0 = y61 from by rw [← ub_sh 0 (by decide) a0, ey61, ey60]; rfl).trans c62)
                  refine lv_iconst (v := 0) hx hb dX13_bytesIn_24 (by decide) ?_
                  refine lv_iadd hx hb dX13_bytesIn_25 ?_
                  refine lv_topi (fun y65 ey65 => ?_)
                  obtain rfl : (1 : Int32) = y65 := (ey65.trans (by decide)).symm
                  refine lv_istore_n (lv' := [(1, .int 1), (2, .int 0), (0, .int a0)]) hx hb dX13_bytesIn_26 rfl hl (by decide) rfl (fun ls hl => ?_)
                  refine lv_iinc (v := -8) (lv' := [(2, .int (-8)), (1, .int 1), (0, .int a0)]) hx hb dX13_bytesIn_27 hl (k := 1) rfl (by decide) (by decide) rfl (fun ls hl => ?_)
                  refine lv_goto (tgt := 5) hx hb dX13_bytesIn_30 (by decide) ?_
                  refine lv_iload_n hx hb dX13_bytesIn_5 rfl (lv_at hl 0 rfl) ?_
                  refine lv_if_lt (tgt := 33) hx hb dX13_bytesIn_6 (by decide) (fun c66 => ?_) (fun c66 => ?_)
                  · --6 taken
                    refine lv_iload_n hx hb dX13_bytesIn_33 rfl (lv_at hl 1 rfl) ?_
                    rw [hQ]
                    exact W.iret (v := 1) hx hb hr (fun t ht hW => ⟨⟨1, (), rfl, ⟨(iv_w ln_1 (by decide)), by have h9 := ln_1; omega⟩, trivial⟩, hS.F ht⟩) hS.2.2 dX13_bytesIn_34
                  · --6 not
                    exact absurd c66 (by decide)
                · --17 not
                  have t67 : ¬ y61.toInt = 0 := ti_ne c62
                  have i68 : 1 ≤ y61.toInt ∧ y61.toInt ≤ 255 := iv_ne_l t67 iy61 (il_ 0)
                  have b0 : bN (ub_by a0 0) = 1 := bN_1 (fun q9 => c62 ((show ub_by a0 0 = y61 from by rw [← ub_sh 0 (by decide) a0, ey61, ey60]; rfl).symm.trans q9))
                  refine lv_iconst (v := 1) hx hb dX13_bytesIn_20 (by decide) ?_
                  refine lv_goto (tgt := 25) hx hb dX13_bytesIn_21 (by decide) ?_
                  refine lv_iadd hx hb dX13_bytesIn_25 ?_
                  refine lv_topi (fun y69 ey69 => ?_)
                  obtain rfl : (2 : Int32) = y69 := (ey69.trans (by decide)).symm
                  refine lv_istore_n (lv' := [(1, .int 2), (2, .int 0), (0, .int a0)]) hx hb dX13_bytesIn_26 rfl hl (by decide) rfl (fun ls hl => ?_)
                  refine lv_iinc (v := -8) (lv' := [(2, .int (-8)), (1, .int 2), (0, .int a0)]) hx hb dX13_bytesIn_27 hl (k := 1) rfl (by decide) (by decide) rfl (fun ls hl => ?_)
                  refine lv_goto (tgt := 5) hx hb dX13_bytesIn_30 (by decide) ?_
                  refine lv_iload_n hx hb dX13_bytesIn_5 rfl (lv_at hl 0 rfl) ?_
                  refine lv_if_lt (tgt := 33) hx hb dX13_bytesIn_6 (by decide) (fun c70 => ?_) (fun c70 => ?_)
                  · --6 taken
                    refine lv_iload_n hx hb dX13_bytesIn_33 rfl (lv_at hl 1 rfl) ?_
                    rw [hQ]
                    exact W.iret (v := 2) hx hb hr (fun t ht hW => ⟨⟨2, (), rfl, ⟨(iv_w ln_2 (by decide)), by have h9 := ln_2; omega⟩, trivial⟩, hS.F ht⟩) hS.2.2 dX13_bytesIn_34
                  · --6 not
                    exact absurd c70 (by decide)
            · --17 not
              have t71 : ¬ y54.toInt = 0 := ti_ne c55
              have i72 : 1 ≤ y54.toInt ∧ y54.toInt ≤ 255 := iv_ne_l t71 iy54 (il_ 0)
              have b8 : bN (ub_by a0 8) = 1 := bN_1 (fun q9 => c55 ((show ub_by a0 8 = y54 from by rw [← ub_sh 8 (by decide) a0, ey54, ey53]; rfl).symm.trans q9))
              refine lv_iconst (v := 1) hx hb dX13_bytesIn_20 (by decide) ?_
              refine lv_goto (tgt := 25) hx hb dX13_bytesIn_21 (by decide) ?_
              refine lv_iadd hx hb dX13_bytesIn_25 ?_
              refine lv_topi (fun y73 ey73 => ?_)
              obtain rfl : (2 : Int32) = y73 := (ey73.trans (by decide)).symm
              refine lv_istore_n (lv' := [(1, .int 2), (2, .int 8), (0, .int a0)]) hx hb dX13_bytesIn_26 rfl hl (by decide) rfl (fun ls hl => ?_)
              refine lv_iinc (v := 0) (lv' := [(2, .int 0), (1, .int 2), (0, .int a0)]) hx hb dX13_bytesIn_27 hl (k := 1) rfl (by decide) (by decide) rfl (fun ls hl => ?_)
              refine lv_goto (tgt := 5) hx hb dX13_bytesIn_30 (by decide) ?_
              refine lv_iload_n hx hb dX13_bytesIn_5 rfl (lv_at hl 0 rfl) ?_
              refine lv_if_lt (tgt := 33) hx hb dX13_bytesIn_6 (by decide) (fun c74 => ?_) (fun c74 => ?_)
              · --6 taken
                exact absurd c74 (by decide)
              · --6 not
                refine lv_iload_n hx hb dX13_bytesIn_9 rfl (lv_at hl 1 rfl) ?_
                refine lv_iload_n hx hb dX13_bytesIn_10 rfl (lv_at hl 2 rfl) ?_
                refine lv_iload_n hx hb dX13_bytesIn_11 rfl (lv_at hl 0 rfl) ?_
                refine lv_ishr hx hb dX13_bytesIn_12 ?_
                refine lv_topi (fun y75 ey75 => ?_)
                refine lv_sipush (v := 255) hx hb dX13_bytesIn_13 (by decide) ?_
                refine lv_iand hx hb dX13_bytesIn_16 ?_
                refine lv_topi (fun y76 ey76 => ?_)
                have iy76 : 0 ≤ y76.toInt ∧ y76.toInt ≤ 255 := ti_and (by decide) ey76
                refine lv_if_eq (tgt := 24) hx hb dX13_bytesIn_17 (by decide) (fun c77 => ?_) (fun c77 => ?_)
                · --17 taken
                  have t78 : y76.toInt = 0 := ti_eq c77
                  have i79 : 0 ≤ y76.toInt ∧ y76.toInt ≤ 0 := iv_eqi t78 iy76 (il_ 0) (by decide)
                  have b0 : bN (ub_by a0 0) = 0 := bN_0 ((show ub_by a0 0 = y76 from by rw [← ub_sh 0 (by decide) a0, ey76, ey75]; rfl).trans c77)
                  refine lv_iconst (v := 0) hx hb dX13_bytesIn_24 (by decide) ?_
                  refine lv_iadd hx hb dX13_bytesIn_25 ?_
                  refine lv_topi (fun y80 ey80 => ?_)
                  obtain rfl : (2 : Int32) = y80 := (ey80.trans (by decide)).symm
                  refine lv_istore_n (lv' := [(1, .int 2), (2, .int 0), (0, .int a0)]) hx hb dX13_bytesIn_26 rfl hl (by decide) rfl (fun ls hl => ?_)
                  refine lv_iinc (v := -8) (lv' := [(2, .int (-8)), (1, .int 2), (0, .int a0)]) hx hb dX13_bytesIn_27 hl (k := 1) rfl (by decide) (by decide) rfl (fun ls hl => ?_)
                  refine lv_goto (tgt := 5) hx hb dX13_bytesIn_30 (by decide) ?_
                  refine lv_iload_n hx hb dX13_bytesIn_5 rfl (lv_at hl 0 rfl) ?_
                  refine lv_if_lt (tgt := 33) hx hb dX13_bytesIn_6 (by decide) (fun c81 => ?_) (fun c81 => ?_)
                  · --6 taken
                    refine lv_iload_n hx hb dX13_bytesIn_33 rfl (lv_at hl 1 rfl) ?_
                    rw [hQ]
                    exact W.iret (v := 2) hx hb hr (fun t ht hW => ⟨⟨2, (), rfl, ⟨(iv_w ln_2 (by decide)), by have h9 := ln_2; omega⟩, trivial⟩, hS.F ht⟩) hS.2.2 dX13_bytesIn_34
                  · --6 not
                    exact absurd c81 (by decide)
                · --17 not
                  have t82 : ¬ y76.toInt = 0 := ti_ne c77
                  have i83 : 1 ≤ y76.toInt ∧ y76.toInt ≤ 255 := iv_ne_l t82 iy76 (il_ 0)
                  have b0 : bN (ub_by a0 0) = 1 := bN_1 (fun q9 => c77 ((show ub_by a0 0 = y76 from by rw [← ub_sh 0 (by decide) a0, ey76, ey75]; rfl).symm.trans q9))
                  refine lv_iconst (v := 1) hx hb dX13_bytesIn_20 (by decide) ?_
                  refine lv_goto (tgt := 25) hx hb dX13_bytesIn_21 (by decide) ?_
                  refine lv_iadd hx hb dX13_bytesIn_25 ?_
                  refine lv_topi (fun y84 ey84 => ?_)
                  obtain rfl : (3 : Int32) = y84 := (ey84.trans (by decide)).symm
                  refine lv_istore_n (lv' := [(1, .int 3), (2, .int 0), (0, .int a0)]) hx hb dX13_bytesIn_26 rfl hl (by decide) rfl (fun ls hl => ?_)
                  refine lv_iinc (v := -8) (lv' := [(2, .int (-8)), (1, .int 3), (0, .int a0)]) hx hb dX13_bytesIn_27 hl (k := 1) rfl (by decide) (by decide) rfl (fun ls hl => ?_)
                  refine lv_goto (tgt := 5) hx hb dX13_bytesIn_30 (by decide) ?_
                  refine lv_iload_n hx hb dX13_bytesIn_5 rfl (lv_at hl 0 rfl) ?_
                  refine lv_if_lt (tgt := 33) hx hb dX13_bytesIn_6 (by decide) (fun c85 => ?_) (fun c85 => ?_)
                  · --6 taken
                    refine lv_iload_n hx hb dX13_bytesIn_33 rfl (lv_at hl 1 rfl) ?_
                    rw [hQ]
                    exact W.iret (v := 3) hx hb hr (fun t ht hW => ⟨⟨3, (), rfl, ⟨(iv_w ln_3 (by decide)), by have h9 := ln_3; omega⟩, trivial⟩, hS.F ht⟩) hS.2.2 dX13_bytesIn_34
                  · --6 not
                    exact absurd c85 (by decide)
    · --17 not
      have t86 : ¬ y3.toInt = 0 := ti_ne c4
      have i87 : 1 ≤ y3.toInt ∧ y3.toInt ≤ 255 := iv_ne_l t86 iy3 (il_ 0)
      have b24 : bN (ub_by a0 24) = 1 := bN_1 (fun q9 => c4 ((show ub_by a0 24 = y3 from by rw [← ub_sh 24 (by decide) a0, ey3, ey2]; rfl).symm.trans q9))
      refine lv_iconst (v := 1) hx hb dX13_bytesIn_20 (by decide) ?_
      refine lv_goto (tgt := 25) hx hb dX13_bytesIn_21 (by decide) ?_
      refine lv_iadd hx hb dX13_bytesIn_25 ?_
      refine lv_topi (fun y88 ey88 => ?_)
      obtain rfl : (1 : Int32) = y88 := (ey88.trans (by decide)).symm
      refine lv_istore_n (lv' := [(1, .int 1), (2, .int 24), (0, .int a0)]) hx hb dX13_bytesIn_26 rfl hl (by decide) rfl (fun ls hl => ?_)
      refine lv_iinc (v := 16) (lv' := [(2, .int 16), (1, .int 1), (0, .int a0)]) hx hb dX13_bytesIn_27 hl (k := 1) rfl (by decide) (by decide) rfl (fun ls hl => ?_)
      refine lv_goto (tgt := 5) hx hb dX13_bytesIn_30 (by decide) ?_
      refine lv_iload_n hx hb dX13_bytesIn_5 rfl (lv_at hl 0 rfl) ?_
      refine lv_if_lt (tgt := 33) hx hb dX13_bytesIn_6 (by decide) (fun c89 => ?_) (fun c89 => ?_)
      · --6 taken
        exact absurd c89 (by decide)
      · --6 not
        refine lv_iload_n hx hb dX13_bytesIn_9 rfl (lv_at hl 1 rfl) ?_
        refine lv_iload_n hx hb dX13_bytesIn_10 rfl (lv_at hl 2 rfl) ?_
        refine lv_iload_n hx hb dX13_bytesIn_11 rfl (lv_at hl 0 rfl) ?_
        refine lv_ishr hx hb dX13_bytesIn_12 ?_
        refine lv_topi (fun y90 ey90 => ?_)
        refine lv_sipush (v := 255) hx hb dX13_bytesIn_13 (by decide) ?_
        refine lv_iand hx hb dX13_bytesIn_16 ?_
        refine lv_topi (fun y91 ey91 => ?_)
        have iy91 : 0 ≤ y91.toInt ∧ y91.toInt ≤ 255 := ti_and (by decide) ey91
        refine lv_if_eq (tgt := 24) hx hb dX13_bytesIn_17 (by decide) (fun c92 => ?_) (fun c92 => ?_)
        · --17 taken
          have t93 : y91.toInt = 0 := ti_eq c92
          have i94 : 0 ≤ y91.toInt ∧ y91.toInt ≤ 0 := iv_eqi t93 iy91 (il_ 0) (by decide)
          have b16 : bN (ub_by a0 16) = 0 := bN_0 ((show ub_by a0 16 = y91 from by rw [← ub_sh 16 (by decide) a0, ey91, ey90]; rfl).trans c92)
          refine lv_iconst (v := 0) hx hb dX13_bytesIn_24 (by decide) ?_
          refine lv_iadd hx hb dX13_bytesIn_25 ?_
          refine lv_topi (fun y95 ey95 => ?_)
          obtain rfl : (1 : Int32) = y95 := (ey95.trans (by decide)).symm
          refine lv_istore_n (lv' := [(1, .int 1), (2, .int 16), (0, .int a0)]) hx hb dX13_bytesIn_26 rfl hl (by decide) rfl (fun ls hl => ?_)
          refine lv_iinc (v := 8) (lv' := [(2, .int 8), (1, .int 1), (0, .int a0)]) hx hb dX13_bytesIn_27 hl (k := 1) rfl (by decide) (by decide) rfl (fun ls hl => ?_)
          refine lv_goto (tgt := 5) hx hb dX13_bytesIn_30 (by decide) ?_
          refine lv_iload_n hx hb dX13_bytesIn_5 rfl (lv_at hl 0 rfl) ?_
          refine lv_if_lt (tgt := 33) hx hb dX13_bytesIn_6 (by decide) (fun c96 => ?_) (fun c96 => ?_)
          · --6 taken
            exact absurd c96 (by decide)
          · --6 not
            refine lv_iload_n hx hb dX13_bytesIn_9 rfl (lv_at hl 1 rfl) ?_
            refine lv_iload_n hx hb dX13_bytesIn_10 rfl (lv_at hl 2 rfl) ?_
            refine lv_iload_n hx hb dX13_bytesIn_11 rfl (lv_at hl 0 rfl) ?_
            refine lv_ishr hx hb dX13_bytesIn_12 ?_
            refine lv_topi (fun y97 ey97 => ?_)
            refine lv_sipush (v := 255) hx hb dX13_bytesIn_13 (by decide) ?_
            refine lv_iand hx hb dX13_bytesIn_16 ?_
            refine lv_topi (fun y98 ey98 => ?_)
            have iy98 : 0 ≤ y98.toInt ∧ y98.toInt ≤ 255 := ti_and (by decide) ey98
            refine lv_if_eq (tgt := 24) hx hb dX13_bytesIn_17 (by decide) (fun c99 => ?_) (fun c99 => ?_)
            · --17 taken
              have t100 : y98.toInt = 0 := ti_eq c99
              have i101 : 0 ≤ y98.toInt ∧ y98.toInt ≤ 0 := iv_eqi t100 iy98 (il_ 0) (by decide)
              have b8 : bN (ub_by a0 8) = 0 := bN_0 ((show ub_by a0 8 = y98 from by rw [← ub_sh 8 (by decide) a0, ey98, ey97]; rfl).trans c99)
              refine lv_iconst (v := 0) hx hb dX13_bytesIn_24 (by decide) ?_
              refine lv_iadd hx hb dX13_bytesIn_25 ?_
              refine lv_topi (fun y102 ey102 => ?_)
              obtain rfl : (1 : Int32) = y102 := (ey102.trans (by decide)).symm
              refine lv_istore_n (lv' := [(1, .int 1), (2, .int 8), (0, .int a0)]) hx hb dX13_bytesIn_26 rfl hl (by decide) rfl (fun ls hl => ?_)
              refine lv_iinc (v := 0) (lv' := [(2, .int 0), (1, .int 1), (0, .int a0)]) hx hb dX13_bytesIn_27 hl (k := 1) rfl (by decide) (by decide) rfl (fun ls hl => ?_)
              refine lv_goto (tgt := 5) hx hb dX13_bytesIn_30 (by decide) ?_
              refine lv_iload_n hx hb dX13_bytesIn_5 rfl (lv_at hl 0 rfl) ?_
              refine lv_if_lt (tgt := 33) hx hb dX13_bytesIn_6 (by decide) (fun c103 => ?_) (fun c103 => ?_)
              · --6 taken
                exact absurd c103 (by decide)
              · --6 not
                refine lv_iload_n hx hb dX13_bytesIn_9 rfl (lv_at hl 1 rfl) ?_
                refine lv_iload_n hx hb dX13_bytesIn_10 rfl (lv_at hl 2 rfl) ?_
                refine lv_iload_n hx hb dX13_bytesIn_11 rfl (lv_at hl 0 rfl) ?_
                refine lv_ishr hx hb dX13_bytesIn_12 ?_
                refine lv_topi (fun y104 ey104 => ?_)
                refine lv_sipush (v := 255) hx hb dX13_bytesIn_13 (by decide) ?_
                refine lv_iand hx hb dX13_bytesIn_16 ?_
                refine lv_topi (fun y105 ey105 => ?_)
                have iy105 : 0 ≤ y105.toInt ∧ y105.toInt ≤ 255 := ti_and (by decide) ey105
                refine lv_if_eq (tgt := 24) hx hb dX13_bytesIn_17 (by decide) (fun c106 => ?_) (fun c106 => ?_)
                · --17 taken
                  have t107 : y105.toInt = 0 := ti_eq c106
                  have i108 : 0 ≤ y105.toInt ∧ y105.toInt ≤ 0 := iv_eqi t107 iy105 (il_ 0) (by decide)
                  have b0 : bN (ub_by a0 0) = 0 := bN_0 ((show ub_by a0 0 = y105 from by rw [← ub_sh 0 (by decide) a0, ey105, ey104]; rfl).trans c106)
                  refine lv_iconst (v := 0) hx hb dX13_bytesIn_24 (by decide) ?_
                  refine lv_iadd hx hb dX13_bytesIn_25 ?_
                  refine lv_topi (fun y109 ey109 => ?_)
                  obtain rfl : (1 : Int32) = y109 := (ey109.trans (by decide)).symm
                  refine lv_istore_n (lv' := [(1, .int 1), (2, .int 0), (0, .int a0)]) hx hb dX13_bytesIn_26 rfl hl (by decide) rfl (fun ls hl => ?_)
                  refine lv_iinc (v := -8) (lv' := [(2, .int (-8)), (1, .int 1), (0, .int a0)]) hx hb dX13_bytesIn_27 hl (k := 1) rfl (by decide) (by decide) rfl (fun ls hl => ?_)
                  refine lv_goto (tgt := 5) hx hb dX13_bytesIn_30 (by decide) ?_
                  refine lv_iload_n hx hb dX13_bytesIn_5 rfl (lv_at hl 0 rfl) ?_
                  refine lv_if_lt (tgt := 33) hx hb dX13_bytesIn_6 (by decide) (fun c110 => ?_) (fun c110 => ?_)
                  · --6 taken
                    refine lv_iload_n hx hb dX13_bytesIn_33 rfl (lv_at hl 1 rfl) ?_
                    rw [hQ]
                    exact W.iret (v := 1) hx hb hr (fun t ht hW => ⟨⟨1, (), rfl, ⟨(iv_w ln_1 (by decide)), by have h9 := ln_1; omega⟩, trivial⟩, hS.F ht⟩) hS.2.2 dX13_bytesIn_34
                  · --6 not
                    exact absurd c110 (by decide)
                · --17 not
                  have t111 : ¬ y105.toInt = 0 := ti_ne c106
                  have i112 : 1 ≤ y105.toInt ∧ y105.toInt ≤ 255 := iv_ne_l t111 iy105 (il_ 0)
                  have b0 : bN (ub_by a0 0) = 1 := bN_1 (fun q9 => c106 ((show ub_by a0 0 = y105 from by rw [← ub_sh 0 (by decide) a0, ey105, ey104]; rfl).symm.trans q9))
                  refine lv_iconst (v := 1) hx hb dX13_bytesIn_20 (by decide) ?_
                  refine lv_goto (tgt := 25) hx hb dX13_bytesIn_21 (by decide) ?_
                  refine lv_iadd hx hb dX13_bytesIn_25 ?_
                  refine lv_topi (fun y113 ey113 => ?_)
                  obtain rfl : (2 : Int32) = y113 := (ey113.trans (by decide)).symm
                  refine lv_istore_n (lv' := [(1, .int 2), (2, .int 0), (0, .int a0)]) hx hb dX13_bytesIn_26 rfl hl (by decide) rfl (fun ls hl => ?_)
                  refine lv_iinc (v := -8) (lv' := [(2, .int (-8)), (1, .int 2), (0, .int a0)]) hx hb dX13_bytesIn_27 hl (k := 1) rfl (by decide) (by decide) rfl (fun ls hl => ?_)
                  refine lv_goto (tgt := 5) hx hb dX13_bytesIn_30 (by decide) ?_
                  refine lv_iload_n hx hb dX13_bytesIn_5 rfl (lv_at hl 0 rfl) ?_
                  refine lv_if_lt (tgt := 33) hx hb dX13_bytesIn_6 (by decide) (fun c114 => ?_) (fun c114 => ?_)
                  · --6 taken
                    refine lv_iload_n hx hb dX13_bytesIn_33 rfl (lv_at hl 1 rfl) ?_
                    rw [hQ]
                    exact W.iret (v := 2) hx hb hr (fun t ht hW => ⟨⟨2, (), rfl, ⟨(iv_w ln_2 (by decide)), by have h9 := ln_2; omega⟩, trivial⟩, hS.F ht⟩) hS.2.2 dX13_bytesIn_34
                  · --6 not
                    exact absurd c114 (by decide)
            · --17 not
              have t115 : ¬ y98.toInt = 0 := ti_ne c99
              have i116 : 1 ≤ y98.toInt ∧ y98.toInt ≤ 255 := iv_ne_l t115 iy98 (il_ 0)
              have b8 : bN (ub_by a0 8) = 1 := bN_1 (fun q9 => c99 ((show ub_by a0 8 = y98 from by rw [← ub_sh 8 (by decide) a0, ey98, ey97]; rfl).symm.trans q9))
              refine lv_iconst (v := 1) hx hb dX13_bytesIn_20 (by decide) ?_
              refine lv_goto (tgt := 25) hx hb dX13_bytesIn_21 (by decide) ?_
              refine lv_iadd hx hb dX13_bytesIn_25 ?_
              refine lv_topi (fun y117 ey117 => ?_)
              obtain rfl : (2 : Int32) = y117 := (ey117.trans (by decide)).symm
              refine lv_istore_n (lv' := [(1, .int 2), (2, .int 8), (0, .int a0)]) hx hb dX13_bytesIn_26 rfl hl (by decide) rfl (fun ls hl => ?_)
              refine lv_iinc (v := 0) (lv' := [(2, .int 0), (1, .int 2), (0, .int a0)]) hx hb dX13_bytesIn_27 hl (k := 1) rfl (by decide) (by decide) rfl (fun ls hl => ?_)
              refine lv_goto (tgt := 5) hx hb dX13_bytesIn_30 (by decide) ?_
              refine lv_iload_n hx hb dX13_bytesIn_5 rfl (lv_at hl 0 rfl) ?_
              refine lv_if_lt (tgt := 33) hx hb dX13_bytesIn_6 (by decide) (fun c118 => ?_) (fun c118 => ?_)
              · --6 taken
                exact absurd c118 (by decide)
              · --6 not
                refine lv_iload_n hx hb dX13_bytesIn_9 rfl (lv_at hl 1 rfl) ?_
                refine lv_iload_n hx hb dX13_bytesIn_10 rfl (lv_at hl 2 rfl) ?_
                refine lv_iload_n hx hb dX13_bytesIn_11 rfl (lv_at hl 0 rfl) ?_
                refine lv_ishr hx hb dX13_bytesIn_12 ?_
                refine lv_topi (fun y119 ey119 => ?_)
                refine lv_sipush (v := 255) hx hb dX13_bytesIn_13 (by decide) ?_
                refine lv_iand hx hb dX13_bytesIn_16 ?_
                refine lv_topi (fun y120 ey120 => ?_)
                have iy120 : 0 ≤ y120.toInt ∧ y120.toInt ≤ 255 := ti_and (by decide) ey120
                refine lv_if_eq (tgt := 24) hx hb dX13_bytesIn_17 (by decide) (fun c121 => ?_) (fun c121 => ?_)
                · --17 taken
                  have t122 : y120.toInt = 0 := ti_eq c121
                  have i123 : 0 ≤ y120.toInt ∧ y120.toInt ≤ 0 := iv_eqi t122 iy120 (il_ 0) (by decide)
                  have b0 : bN (ub_by a0 0) = 0 := bN_0 ((show ub_by a0 0 = y120 from by rw [← ub_sh 0 (by decide) a0, ey120, ey119]; rfl).trans c121)
                  refine lv_iconst (v := 0) hx hb dX13_bytesIn_24 (by decide) ?_
                  refine lv_iadd hx hb dX13_bytesIn_25 ?_
                  refine lv_topi (fun y124 ey124 => ?_)
                  obtain rfl : (2 : Int32) = y124 := (ey124.trans (by decide)).symm
                  refine lv_istore_n (lv' := [(1, .int 2), (2, .int 0), (0, .int a0)]) hx hb dX13_bytesIn_26 rfl hl (by decide) rfl (fun ls hl => ?_)
                  refine lv_iinc (v := -8) (lv' := [(2, .int (-8)), (1, .int 2), (0, .int a0)]) hx hb dX13_bytesIn_27 hl (k := 1) rfl (by decide) (by decide) rfl (fun ls hl => ?_)
                  refine lv_goto (tgt := 5) hx hb dX13_bytesIn_30 (by decide) ?_
                  refine lv_iload_n hx hb dX13_bytesIn_5 rfl (lv_at hl 0 rfl) ?_
                  refine lv_if_lt (tgt := 33) hx hb dX13_bytesIn_6 (by decide) (fun c125 => ?_) (fun c125 => ?_)
                  · --6 taken
                    refine lv_iload_n hx hb dX13_bytesIn_33 rfl (lv_at hl 1 rfl) ?_
                    rw [hQ]
                    exact W.iret (v := 2) hx hb hr (fun t ht hW => ⟨⟨2, (), rfl, ⟨(iv_w ln_2 (by decide)), by have h9 := ln_2; omega⟩, trivial⟩, hS.F ht⟩) hS.2.2 dX13_bytesIn_34
                  · --6 not
                    exact absurd c125 (by decide)
                · --17 not
                  have t126 : ¬ y120.toInt = 0 := ti_ne c121
                  have i127 : 1 ≤ y120.toInt ∧ y120.toInt ≤ 255 := iv_ne_l t126 iy120 (il_ 0)
                  have b0 : bN (ub_by a0 0) = 1 := bN_1 (fun q9 => c121 ((show ub_by a0 0 = y120 from by rw [← ub_sh 0 (by decide) a0, ey120, ey119]; rfl).symm.trans q9))
                  refine lv_iconst (v := 1) hx hb dX13_bytesIn_20 (by decide) ?_
                  refine lv_goto (tgt := 25) hx hb dX13_bytesIn_21 (by decide) ?_
                  refine lv_iadd hx hb dX13_bytesIn_25 ?_
                  refine lv_topi (fun y128 ey128 => ?_)
                  obtain rfl : (3 : Int32) = y128 := (ey128.trans (by decide)).symm
                  refine lv_istore_n (lv' := [(1, .int 3), (2, .int 0), (0, .int a0)]) hx hb dX13_bytesIn_26 rfl hl (by decide) rfl (fun ls hl => ?_)
                  refine lv_iinc (v := -8) (lv' := [(2, .int (-8)), (1, .int 3), (0, .int a0)]) hx hb dX13_bytesIn_27 hl (k := 1) rfl (by decide) (by decide) rfl (fun ls hl => ?_)
                  refine lv_goto (tgt := 5) hx hb dX13_bytesIn_30 (by decide) ?_
                  refine lv_iload_n hx hb dX13_bytesIn_5 rfl (lv_at hl 0 rfl) ?_
                  refine lv_if_lt (tgt := 33) hx hb dX13_bytesIn_6 (by decide) (fun c129 => ?_) (fun c129 => ?_)
                  · --6 taken
                    refine lv_iload_n hx hb dX13_bytesIn_33 rfl (lv_at hl 1 rfl) ?_
                    rw [hQ]
                    exact W.iret (v := 3) hx hb hr (fun t ht hW => ⟨⟨3, (), rfl, ⟨(iv_w ln_3 (by decide)), by have h9 := ln_3; omega⟩, trivial⟩, hS.F ht⟩) hS.2.2 dX13_bytesIn_34
                  · --6 not
                    exact absurd c129 (by decide)
        · --17 not
          have t130 : ¬ y91.toInt = 0 := ti_ne c92
          have i131 : 1 ≤ y91.toInt ∧ y91.toInt ≤ 255 := iv_ne_l t130 iy91 (il_ 0)
          have b16 : bN (ub_by a0 16) = 1 := bN_1 (fun q9 => c92 ((show ub_by a0 16 = y91 from by rw [← ub_sh 16 (by decide) a0, ey91, ey90]; rfl).symm.trans q9))
          refine lv_iconst (v := 1) hx hb dX13_bytesIn_20 (by decide) ?_
          refine lv_goto (tgt := 25) hx hb dX13_bytesIn_21 (by decide) ?_
          refine lv_iadd hx hb dX13_bytesIn_25 ?_
          refine lv_topi (fun y132 ey132 => ?_)
          obtain rfl : (2 : Int32) = y132 := (ey132.trans (by decide)).symm
          refine lv_istore_n (lv' := [(1, .int 2), (2, .int 16), (0, .int a0)]) hx hb dX13_bytesIn_26 rfl hl (by decide) rfl (fun ls hl => ?_)
          refine lv_iinc (v := 8) (lv' := [(2, .int 8), (1, .int 2), (0, .int a0)]) hx hb dX13_bytesIn_27 hl (k := 1) rfl (by decide) (by decide) rfl (fun ls hl => ?_)
          refine lv_goto (tgt := 5) hx hb dX13_bytesIn_30 (by decide) ?_
          refine lv_iload_n hx hb dX13_bytesIn_5 rfl (lv_at hl 0 rfl) ?_
          refine lv_if_lt (tgt := 33) hx hb dX13_bytesIn_6 (by decide) (fun c133 => ?_) (fun c133 => ?_)
          · --6 taken
            exact absurd c133 (by decide)
          · --6 not
            refine lv_iload_n hx hb dX13_bytesIn_9 rfl (lv_at hl 1 rfl) ?_
            refine lv_iload_n hx hb dX13_bytesIn_10 rfl (lv_at hl 2 rfl) ?_
            refine lv_iload_n hx hb dX13_bytesIn_11 rfl (lv_at hl 0 rfl) ?_
            refine lv_ishr hx hb dX13_bytesIn_12 ?_
            refine lv_topi (fun y134 ey134 => ?_)
            refine lv_sipush (v := 255) hx hb dX13_bytesIn_13 (by decide) ?_
            refine lv_iand hx hb dX13_bytesIn_16 ?_
            refine lv_topi (fun y135 ey135 => ?_)
            have iy135 : 0 ≤ y135.toInt ∧ y135.toInt ≤ 255 := ti_and (by decide) ey135
            refine lv_if_eq (tgt := 24) hx hb dX13_bytesIn_17 (by decide) (fun c136 => ?_) (fun c136 => ?_)
            · --17 taken
              have t137 : y135.toInt = 0 := ti_eq c136
              have i138 : 0 ≤ y135.toInt ∧ y135.toInt ≤ 0 := iv_eqi t137 iy135 (il_ 0) (by decide)
              have b8 : bN (ub_by a0 8) = 0 := bN_0 ((show ub_by a0 8 = y135 from by rw [← ub_sh 8 (by decide) a0, ey135, ey134]; rfl).trans c136)
              refine lv_iconst (v := 0) hx hb dX13_bytesIn_24 (by decide) ?_
              refine lv_iadd hx hb dX13_bytesIn_25 ?_
              refine lv_topi (fun y139 ey139 => ?_)
              obtain rfl : (2 : Int32) = y139 := (ey139.trans (by decide)).symm
              refine lv_istore_n (lv' := [(1, .int 2), (2, .int 8), (0, .int a0)]) hx hb dX13_bytesIn_26 rfl hl (by decide) rfl (fun ls hl => ?_)
              refine lv_iinc (v := 0) (lv' := [(2, .int 0), (1, .int 2), (0, .int a0)]) hx hb dX13_bytesIn_27 hl (k := 1) rfl (by decide) (by decide) rfl (fun ls hl => ?_)
              refine lv_goto (tgt := 5) hx hb dX13_bytesIn_30 (by decide) ?_
              refine lv_iload_n hx hb dX13_bytesIn_5 rfl (lv_at hl 0 rfl) ?_
              refine lv_if_lt (tgt := 33) hx hb dX13_bytesIn_6 (by decide) (fun c140 => ?_) (fun c140 => ?_)
              · --6 taken
                exact absurd c140 (by decide)
              · --6 not
                refine lv_iload_n hx hb dX13_bytesIn_9 rfl (lv_at hl 1 rfl) ?_
                refine lv_iload_n hx hb dX13_bytesIn_10 rfl (lv_at hl 2 rfl) ?_
                refine lv_iload_n hx hb dX13_bytesIn_11 rfl (lv_at hl 0 rfl) ?_
                refine lv_ishr hx hb dX13_bytesIn_12 ?_
                refine lv_topi (fun y141 ey141 => ?_)
                refine lv_sipush (v := 255) hx hb dX13_bytesIn_13 (by decide) ?_
                refine lv_iand hx hb dX13_bytesIn_16 ?_
                refine lv_topi (fun y142 ey142 => ?_)
                have iy142 : 0 ≤ y142.toInt ∧ y142.toInt ≤ 255 := ti_and (by decide) ey142
                refine lv_if_eq (tgt := 24) hx hb dX13_bytesIn_17 (by decide) (fun c143 => ?_) (fun c143 => ?_)
                · --17 taken
                  have t144 : y142.toInt = 0 := ti_eq c143
                  have i145 : 0 ≤ y142.toInt ∧ y142.toInt ≤ 0 := iv_eqi t144 iy142 (il_ 0) (by decide)
                  have b0 : bN (ub_by a0 0) = 0 := bN_0 ((show ub_by a0 0 = y142 from by rw [← ub_sh 0 (by decide) a0, ey142, ey141]; rfl).trans c143)
                  refine lv_iconst (v := 0) hx hb dX13_bytesIn_24 (by decide) ?_
                  refine lv_iadd hx hb dX13_bytesIn_25 ?_
                  refine lv_topi (fun y146 ey146 => ?_)
                  obtain rfl : (2 : Int32) = y146 := (ey146.trans (by decide)).symm
                  refine lv_istore_n (lv' := [(1, .int 2), (2, .int 0), (0, .int a0)]) hx hb dX13_bytesIn_26 rfl hl (by decide) rfl (fun ls hl => ?_)
                  refine lv_iinc (v := -8) (lv' := [(2, .int (-8)), (1, .int 2), (0, .int a0)]) hx hb dX13_bytesIn_27 hl (k := 1) rfl (by decide) (by decide) rfl (fun ls hl => ?_)
                  refine lv_goto (tgt := 5) hx hb dX13_bytesIn_30 (by decide) ?_
                  refine lv_iload_n hx hb dX13_bytesIn_5 rfl (lv_at hl 0 rfl) ?_
                  refine lv_if_lt (tgt := 33) hx hb dX13_bytesIn_6 (by decide) (fun c147 => ?_) (fun c147 => ?_)
                  · --6 taken
                    refine lv_iload_n hx hb dX13_bytesIn_33 rfl (lv_at hl 1 rfl) ?_
                    rw [hQ]
                    exact W.iret (v := 2) hx hb hr (fun t ht hW => ⟨⟨2, (), rfl, ⟨(iv_w ln_2 (by decide)), by have h9 := ln_2; omega⟩, trivial⟩, hS.F ht⟩) hS.2.2 dX13_bytesIn_34
                  · --6 not
                    exact absurd c147 (by decide)
                · --17 not
                  have t148 : ¬ y142.toInt = 0 := ti_ne c143
                  have i149 : 1 ≤ y142.toInt ∧ y142.toInt ≤ 255 := iv_ne_l t148 iy142 (il_ 0)
                  have b0 : bN (ub_by a0 0) = 1 := bN_1 (fun q9 => c143 ((show ub_by a0 0 = y142 from by rw [← ub_sh 0 (by decide) a0, ey142, ey141]; rfl).symm.trans q9))
                  refine lv_iconst (v := 1) hx hb dX13_bytesIn_20 (by decide) ?_
                  refine lv_goto (tgt := 25) hx hb dX13_bytesIn_21 (by decide) ?_
                  refine lv_iadd hx hb dX13_bytesIn_25 ?_
                  refine lv_topi (fun y150 ey150 => ?_)
                  obtain rfl : (3 : Int32) = y150 := (ey150.trans (by decide)).symm
                  refine lv_istore_n (lv' := [(1, .int 3), (2, .int 0), (0, .int a0)]) hx hb dX13_bytesIn_26 rfl hl (by decide) rfl (fun ls hl => ?_)
                  refine lv_iinc (v := -8) (lv' := [(2, .int (-8)), (1, .int 3), (0, .int a0)]) hx hb dX13_bytesIn_27 hl (k := 1) rfl (by decide) (by decide) rfl (fun ls hl => ?_)
                  refine lv_goto (tgt := 5) hx hb dX13_bytesIn_30 (by decide) ?_
                  refine lv_iload_n hx hb dX13_bytesIn_5 rfl (lv_at hl 0 rfl) ?_
                  refine lv_if_lt (tgt := 33) hx hb dX13_bytesIn_6 (by decide) (fun c151 => ?_) (fun c151 => ?_)
                  · --6 taken
                    refine lv_iload_n hx hb dX13_bytesIn_33 rfl (lv_at hl 1 rfl) ?_
                    rw [hQ]
                    exact W.iret (v := 3) hx hb hr (fun t ht hW => ⟨⟨3, (), rfl, ⟨(iv_w ln_3 (by decide)), by have h9 := ln_3; omega⟩, trivial⟩, hS.F ht⟩) hS.2.2 dX13_bytesIn_34
                  · --6 not
                    exact absurd c151 (by decide)
            · --17 not
              have t152 : ¬ y135.toInt = 0 := ti_ne c136
              have i153 : 1 ≤ y135.toInt ∧ y135.toInt ≤ 255 := iv_ne_l t152 iy135 (il_ 0)
              have b8 : bN (ub_by a0 8) = 1 := bN_1 (fun q9 => c136 ((show ub_by a0 8 = y135 from by rw [← ub_sh 8 (by decide) a0, ey135, ey134]; rfl).symm.trans q9))
              refine lv_iconst (v := 1) hx hb dX13_bytesIn_20 (by decide) ?_
              refine lv_goto (tgt := 25) hx hb dX13_bytesIn_21 (by decide) ?_
              refine lv_iadd hx hb dX13_bytesIn_25 ?_
              refine lv_topi (fun y154 ey154 => ?_)
              obtain rfl : (3 : Int32) = y154 := (ey154.trans (by decide)).symm
              refine lv_istore_n (lv' := [(1, .int 3), (2, .int 8), (0, .int a0)]) hx hb dX13_bytesIn_26 rfl hl (by decide) rfl (fun ls hl => ?_)
              refine lv_iinc (v := 0) (lv' := [(2, .int 0), (1, .int 3), (0, .int a0)]) hx hb dX13_bytesIn_27 hl (k := 1) rfl (by decide) (by decide) rfl (fun ls hl => ?_)
              refine lv_goto (tgt := 5) hx hb dX13_bytesIn_30 (by decide) ?_
              refine lv_iload_n hx hb dX13_bytesIn_5 rfl (lv_at hl 0 rfl) ?_
              refine lv_if_lt (tgt := 33) hx hb dX13_bytesIn_6 (by decide) (fun c155 => ?_) (fun c155 => ?_)
              · --6 taken
                exact absurd c155 (by decide)
              · --6 not
                refine lv_iload_n hx hb dX13_bytesIn_9 rfl (lv_at hl 1 rfl) ?_
                refine lv_iload_n hx hb dX13_bytesIn_10 rfl (lv_at hl 2 rfl) ?_
                refine lv_iload_n hx hb dX13_bytesIn_11 rfl (lv_at hl 0 rfl) ?_
                refine lv_ishr hx hb dX13_bytesIn_12 ?_
                refine lv_topi (fun y156 ey156 => ?_)
                refine lv_sipush (v := 255) hx hb dX13_bytesIn_13 (by decide) ?_
                refine lv_iand hx hb dX13_bytesIn_16 ?_
                refine lv_topi (fun y157 ey157 => ?_)
                have iy157 : 0 ≤ y157.toInt ∧ y157.toInt ≤ 255 := ti_and (by decide) ey157
                refine lv_if_eq (tgt := 24) hx hb dX13_bytesIn_17 (by decide) (fun c158 => ?_) (fun c158 => ?_)
                · --17 taken
                  have t159 : y157.toInt = 0 := ti_eq c158
                  have i160 : 0 ≤ y157.toInt ∧ y157.toInt ≤ 0 := iv_eqi t159 iy157 (il_ 0) (by decide)
                  have b0 : bN (ub_by a0 0) = 0 := bN_0 ((show ub_by a0 0 = y157 from by rw [← ub_sh 0 (by decide) a0, ey157, ey156]; rfl).trans c158)
                  refine lv_iconst (v := 0) hx hb dX13_bytesIn_24 (by decide) ?_
                  refine lv_iadd hx hb dX13_bytesIn_25 ?_
                  refine lv_topi (fun y161 ey161 => ?_)
                  obtain rfl : (3 : Int32) = y161 := (ey161.trans (by decide)).symm
                  refine lv_istore_n (lv' := [(1, .int 3), (2, .int 0), (0, .int a0)]) hx hb dX13_bytesIn_26 rfl hl (by decide) rfl (fun ls hl => ?_)
                  refine lv_iinc (v := -8) (lv' := [(2, .int (-8)), (1, .int 3), (0, .int a0)]) hx hb dX13_bytesIn_27 hl (k := 1) rfl (by decide) (by decide) rfl (fun ls hl => ?_)
                  refine lv_goto (tgt := 5) hx hb dX13_bytesIn_30 (by decide) ?_
                  refine lv_iload_n hx hb dX13_bytesIn_5 rfl (lv_at hl 0 rfl) ?_
                  refine lv_if_lt (tgt := 33) hx hb dX13_bytesIn_6 (by decide) (fun c162 => ?_) (fun c162 => ?_)
                  · --6 taken
                    refine lv_iload_n hx hb dX13_bytesIn_33 rfl (lv_at hl 1 rfl) ?_
                    rw [hQ]
                    exact W.iret (v := 3) hx hb hr (fun t ht hW => ⟨⟨3, (), rfl, ⟨(iv_w ln_3 (by decide)), by have h9 := ln_3; omega⟩, trivial⟩, hS.F ht⟩) hS.2.2 dX13_bytesIn_34
                  · --6 not
                    exact absurd c162 (by decide)
                · --17 not
                  have t163 : ¬ y157.toInt = 0 := ti_ne c158
                  have i164 : 1 ≤ y157.toInt ∧ y157.toInt ≤ 255 := iv_ne_l t163 iy157 (il_ 0)
                  have b0 : bN (ub_by a0 0) = 1 := bN_1 (fun q9 => c158 ((show ub_by a0 0 = y157 from by rw [← ub_sh 0 (by decide) a0, ey157, ey156]; rfl).symm.trans q9))
                  refine lv_iconst (v := 1) hx hb dX13_bytesIn_20 (by decide) ?_
                  refine lv_goto (tgt := 25) hx hb dX13_bytesIn_21 (by decide) ?_
                  refine lv_iadd hx hb dX13_bytesIn_25 ?_
                  refine lv_topi (fun y165 ey165 => ?_)
                  obtain rfl : (4 : Int32) = y165 := (ey165.trans (by decide)).symm
                  refine lv_istore_n (lv' := [(1, .int 4), (2, .int 0), (0, .int a0)]) hx hb dX13_bytesIn_26 rfl hl (by decide) rfl (fun ls hl => ?_)
                  refine lv_iinc (v := -8) (lv' := [(2, .int (-8)), (1, .int 4), (0, .int a0)]) hx hb dX13_bytesIn_27 hl (k := 1) rfl (by decide) (by decide) rfl (fun ls hl => ?_)
                  refine lv_goto (tgt := 5) hx hb dX13_bytesIn_30 (by decide) ?_
                  refine lv_iload_n hx hb dX13_bytesIn_5 rfl (lv_at hl 0 rfl) ?_
                  refine lv_if_lt (tgt := 33) hx hb dX13_bytesIn_6 (by decide) (fun c166 => ?_) (fun c166 => ?_)
                  · --6 taken
                    refine lv_iload_n hx hb dX13_bytesIn_33 rfl (lv_at hl 1 rfl) ?_
                    rw [hQ]
                    exact W.iret (v := 4) hx hb hr (fun t ht hW => ⟨⟨4, (), rfl, ⟨(iv_w ln_4 (by decide)), by have h9 := ln_4; omega⟩, trivial⟩, hS.F ht⟩) hS.2.2 dX13_bytesIn_34
                  · --6 not
                    exact absurd c166 (by decide)
def v_certOn : List Cond := .code yX13_certOn cX13_certOn 6 (some .int) :: vA
abbrev rm_certOn : Room := { frames := 0, cells := 0, slots := 0, locals := 0 }
set_option maxHeartbeats 4000000 in
set_option maxRecDepth 100000 in
theorem q_certOn (l : Launch) (dC : Nat → ClassId) (dI : Nat → Nat → Nat) (cT : Nat → ClassId) (ad : Nat → Nat) (E : Nat → va_E) (sz : Nat) (a0 : Int32) (a1 : Int32) (a2 : Int32) (hI0 : IX cT shM spM 72 ad E)  : Met l yX13_certOn v_certOn rm_certOn (va_Pc [.ref (ad 0), .int a0, .int a1, .int a2] (HW dC dI (TYM cT) 72 ad E sz)) (va_Qi (S := Unit) (fun r _ => (-1 ≤ r.toInt ∧ r.toInt ≤ 79) ∧ (r = cO (xi (E 1)) (xi (E 2)) (xi (E 6)) a0 a1 a2 (xi (E 0) 9).toNatClampNeg)) (fun _ _ => True) (fun _ => False)) 0 0 (fun _ => False) := by
  refine Met.ofW (cc := cX13_certOn) (maxL := 6) (ret := (some .int)) (by decide) rfl ?_
  intro p e s m args below meth c s₁ B hml hv
  obtain ⟨hargs, hsz, hP, hK, hD0, hEV⟩ := hv
  subst hsz
  have hx := B.exec
  have hb := B.bytes
  have hr := B.returns
  have hts := atoms_spec (ws := v_certOn) B.pre
  have hown : s.vm.findClass RX13 = some m.cls := findClass_of_methodNamed B.named
  have hlocks := B.notSynchronized
  have hinX13 : ∀ w ∈ u_ws RX13 TX13 97, w ∈ v_certOn := fun w h => vA_in _ w (in_X13 w h)
  have hS : va_S (fun _ : Nat => False) s.heap s.heap [] := va_S.rf
  have hD := hD0
  have hI := hI0
  have hKp : Kp (wl [] []) E E := Kp.rf
  have hl := lv_entry ([.ref (ad 0), .int a0, .int a1, .int a2]) (n := 6) (Nat.le_of_ble_eq_true rfl)
  obtain ⟨Q, hQ⟩ : ∃ Q, Q = MQ below (va_Qi (S := Unit) (fun r _ => (-1 ≤ r.toInt ∧ r.toInt ≤ 79) ∧ (r = cO (xi (E 1)) (xi (E 2)) (xi (E 6)) a0 a1 a2 (xi (E 0) 9).toNatClampNeg)) (fun _ _ => True) (fun _ => False)) args s 0 0 (fun _ => False) := ⟨_, rfl⟩
  rw [← hQ, show entryFrame m args 6 = _ from (congrArg (fun z => entryFrame m z 6) hargs).trans (lg_entry_eq _ _ _)]
  generalize (lg_sl ([.ref (ad 0), .int a0, .int a1, .int a2]) ++ List.replicate (6 - (lg_sl ([.ref (ad 0), .int a0, .int a1, .int a2])).length) Slot.unset).toArray = ls at hl ⊢
  have hl : lv_has ls 6 [(0, .ref (ad 0)), (1, .int a0), (2, .int a1), (3, .int a2)] := hl
  refine lv_iconst (v := -1) hx hb dX13_certOn_0 (by decide) ?_
  refine lv_istore (lv' := [(4, .int (-1)), (0, .ref (ad 0)), (1, .int a0), (2, .int a1), (3, .int a2)]) hx hb dX13_certOn_1 hl (by decide) rfl (fun ls hl => ?_)
  refine lv_iconst (v := 0) hx hb dX13_certOn_3 (by decide) ?_
  refine lv_istore (lv' := [(5, .int 0), (4, .int (-1)), (0, .ref (ad 0)), (1, .int a0), (2, .int a1), (3, .int a2)]) hx hb dX13_certOn_4 hl (by decide) rfl (fun ls hl => ?_)
  have hL6 : ∀ d : Nat, ∀ (v6_5 : Int32) (v6_4 : Int32) (H : Heap) (locs : List Loc) (ls : Array Slot), 0 ≤ v6_5.toInt ∧ v6_5.toInt ≤ 80 → -1 ≤ v6_4.toInt ∧ v6_4.toInt ≤ 79 → v6_4 = cO (xi (E 1)) (xi (E 2)) (xi (E 6)) a0 a1 a2 v6_5.toNatClampNeg → v6_5.toInt ≤ (xi (E 0) 9).toInt → 80 - v6_5.toInt < (d : Int) → va_P (dC, dI) vwCl (WX 72 ad E) H → va_S (fun _ : Nat => False) s.heap H locs → lv_has ls 6 [(5, .int v6_5), (4, .int v6_4), (0, .ref (ad 0)), (1, .int a0), (2, .int a1), (3, .int a2)] → W p l e (headSpec v_certOn rm_certOn).room s m args below meth c H locs 0 0 Q (F0 m 6 ls []) := by
    intro d
    induction d with
    | zero =>
      intro v6_5 v6_4 H locs ls hv6_5 hv6_4 hx6_0 hx6_1 hx6_2 hP hS hl
      exact absurd hx6_2 (by first | exact ms_zu hv6_5.2 | omega)
    | succ d ih6 =>
      intro v6_5 v6_4 H locs ls hv6_5 hv6_4 hx6_0 hx6_1 hx6_2 hP hS hl
      refine lv_iload hx hb dX13_certOn_6 (lv_at hl 0 rfl) ?_
      refine lv_aload_n hx hb dX13_certOn_8 rfl (lv_at hl 2 rfl) ?_
      have i1 : 0 ≤ (xi (E 0) 9).toInt ∧ (xi (E 0) 9).toInt ≤ 80 := hI0.iv 0 (Nat.le_of_ble_eq_true rfl) rfl (Nat.le_of_ble_eq_true rfl) rfl
      refine th_get (ci := 14) (C := RX13) (T := TX13) (N := 97) (v := .int (xi (E 0) 9)) hx hb hts hinX13 hown hK hP hI 0 (Nat.le_of_ble_eq_true rfl) rfl rfl 9 (Nat.le_of_ble_eq_true rfl) (hts _ (vA_in _ _ (in_27 _ (zs4 (zs4 (zs1 (zs0))))))) (fun _ h9 => h9) (th_v0 hKp hI0 0 (Nat.le_of_ble_eq_true rfl) rfl (Nat.le_of_ble_eq_true rfl) rfl rfl) dX13_certOn_9 ?_
      refine lv_icmp_ge (tgt := 81) hx hb dX13_certOn_12 (by decide) (fun c2 => ?_) (fun c2 => ?_)
      · --12 taken
        have t3 : (xi (E 0) 9).toInt ≤ v6_5.toInt := ti_le c2
        refine lv_iload hx hb dX13_certOn_81 (lv_at hl 1 rfl) ?_
        rw [hQ]
        exact W.iret (v := v6_4) hx hb hr (fun t ht hW => ⟨⟨v6_4, (), rfl, ⟨hv6_4, by have h9 := hx6_0; rw [tn_ge (x := v6_5) (y := xi (E 0) 9) (by omega) (by omega)] at h9; exact h9⟩, trivial⟩, hS.F ht⟩) hS.2.2 dX13_certOn_83
      · --12 not
        have t4 : v6_5.toInt < (xi (E 0) 9).toInt := ti_nle c2
        have i5 : 0 ≤ v6_5.toInt ∧ v6_5.toInt ≤ 79 := iv_lt_l t4 hv6_5 i1 (by decide)
        have i6 : 1 ≤ (xi (E 0) 9).toInt ∧ (xi (E 0) 9).toInt ≤ 80 := iv_lt_r t4 hv6_5 i1 (by decide)
        refine lv_aload_n hx hb dX13_certOn_15 rfl (lv_at hl 2 rfl) ?_
        refine th_get (ci := 14) (C := RX13) (T := TX13) (N := 97) (v := .ref (ad 1)) hx hb hts hinX13 hown hK hP hI 0 (Nat.le_of_ble_eq_true rfl) rfl rfl 2 (Nat.le_of_ble_eq_true rfl) (hts _ (vA_in _ _ (in_27 _ (zs4 (zs4 (zs1 (zs1 (zs0)))))))) (fun _ h9 => h9) (hI.fr 0 (Nat.le_of_ble_eq_true rfl) rfl (Nat.le_of_ble_eq_true rfl) 1 rfl) dX13_certOn_16 ?_
        refine lv_iload hx hb dX13_certOn_19 (lv_at hl 0 rfl) ?_
        have n8 : vp_in v6_5 80 := (iv_in (n := 80) i5 (by decide))
        refine th_iald hx hb hK hP hI 1 (Nat.le_of_ble_eq_true rfl) rfl rfl n8 dX13_certOn_21 (fun y7 ey7 => ?_)
        have iy7 : 0 ≤ y7.toInt ∧ y7.toInt ≤ 15 := hI.el 1 (Nat.le_of_ble_eq_true rfl) rfl n8 (fun _ => rfl) ey7
        have ey7 := ey7.trans (hKp.ei 1 _ rfl)
        refine lv_iload_n hx hb dX13_certOn_22 rfl (lv_at hl 3 rfl) ?_
        refine lv_icmp_ne (tgt := 75) hx hb dX13_certOn_23 (by decide) (fun c9 => ?_) (fun c9 => ?_)
        · --23 taken
          have t10 : ¬ y7.toInt = a0.toInt := ti_ne c9
          obtain ⟨y11, ey11⟩ : ∃ y : Int32, y = v6_5 + (1 : Int32) := ⟨_, rfl⟩
          obtain ⟨ty11, iy11⟩ := ti_add (e := 1) (f := 80) i5 ln_1 ey11 (by decide)
          have ty11 : y11.toInt = v6_5.toInt + 1 := ty11
          have iy11 : 1 ≤ y11.toInt ∧ y11.toInt ≤ 80 := iy11
          refine lv_iinc (v := y11) (lv' := [(5, .int y11), (4, .int v6_4), (0, .ref (ad 0)), (1, .int a0), (2, .int a1), (3, .int a2)]) hx hb dX13_certOn_75 hl (k := 0) rfl (by rw [ey11]; rfl) (by decide) rfl (fun ls hl => ?_)
          refine lv_goto (tgt := 6) hx hb dX13_certOn_78 (by decide) ?_
          exact ih6 y11 v6_4 _ _ _ (iv_w iy11 (by decide)) hv6_4 (cO_skip hx6_0 ty11 hv6_5 (by decide) (fun hh => c9 (ey7.trans hh.1))) (by have h9 := iy11; have h8 := i6; omega) (by first | exact ms_su hx6_2 ty11 (by decide) | omega) hP hS (lv_sub hl [0, 1, 2, 3, 4, 5] rfl)
        · --23 not
          have t12 : y7.toInt = a0.toInt := ti_eq c9
          have i13 : 0 ≤ a0.toInt ∧ a0.toInt ≤ 15 := iv_eqi t12.symm (iv_all _) iy7 (by decide)
          refine lv_aload_n hx hb dX13_certOn_26 rfl (lv_at hl 2 rfl) ?_
          refine th_get (ci := 14) (C := RX13) (T := TX13) (N := 97) (v := .ref (ad 6)) hx hb hts hinX13 hown hK hP hI 0 (Nat.le_of_ble_eq_true rfl) rfl rfl 7 (Nat.le_of_ble_eq_true rfl) (hts _ (vA_in _ _ (in_27 _ (zs4 (zs4 (zs1 (zs1 (zs1 (zs0))))))))) (fun _ h9 => h9) (hI.fr 0 (Nat.le_of_ble_eq_true rfl) rfl (Nat.le_of_ble_eq_true rfl) 6 rfl) dX13_certOn_27 ?_
          refine lv_iload hx hb dX13_certOn_30 (lv_at hl 0 rfl) ?_
          have n15 : vp_in v6_5 80 := (iv_in (n := 80) i5 (by decide))
          refine th_iald hx hb hK hP hI 6 (Nat.le_of_ble_eq_true rfl) rfl rfl n15 dX13_certOn_32 (fun y14 ey14 => ?_)
          have iy14 : 0 ≤ y14.toInt ∧ y14.toInt ≤ 400 := hI.el 6 (Nat.le_of_ble_eq_true rfl) rfl n15 (fun _ => rfl) ey14
          have ey14 := ey14.trans (hKp.ei 6 _ rfl)
          refine lv_iload_n hx hb dX13_certOn_33 rfl (lv_at hl 5 rfl) ?_
          refine lv_icmp_gt (tgt := 75) hx hb dX13_certOn_34 (by decide) (fun c16 => ?_) (fun c16 => ?_)
          · --34 taken
            have t17 : a2.toInt < y14.toInt := ti_lt c16
            have i18 : -2147483648 ≤ a2.toInt ∧ a2.toInt ≤ 399 := iv_lt_l t17 (iv_all _) iy14 (by decide)
            obtain ⟨y19, ey19⟩ : ∃ y : Int32, y = v6_5 + (1 : Int32) := ⟨_, rfl⟩
            obtain ⟨ty19, iy19⟩ := ti_add (e := 1) (f := 80) i5 ln_1 ey19 (by decide)
            have ty19 : y19.toInt = v6_5.toInt + 1 := ty19
            have iy19 : 1 ≤ y19.toInt ∧ y19.toInt ≤ 80 := iy19
            refine lv_iinc (v := y19) (lv' := [(5, .int y19), (4, .int v6_4), (0, .ref (ad 0)), (1, .int a0), (2, .int a1), (3, .int a2)]) hx hb dX13_certOn_75 hl (k := 0) rfl (by rw [ey19]; rfl) (by decide) rfl (fun ls hl => ?_)
            refine lv_goto (tgt := 6) hx hb dX13_certOn_78 (by decide) ?_
            exact ih6 y19 v6_4 _ _ _ (iv_w iy19 (by decide)) hv6_4 (cO_skip hx6_0 ty19 hv6_5 (by decide) (fun hh => ub_nle c16 (by rw [ey14]; exact hh.2.1))) (by have h9 := iy19; have h8 := i6; omega) (by first | exact ms_su hx6_2 ty19 (by decide) | omega) hP hS (lv_sub hl [0, 1, 2, 3, 4, 5] rfl)
          · --34 not
            have t20 : y14.toInt ≤ a2.toInt := ti_nlt c16
            have i21 : 0 ≤ a2.toInt ∧ a2.toInt ≤ 2147483647 := iv_le_r t20 iy14 (iv_all _) (by decide)
            refine lv_aload_n hx hb dX13_certOn_37 rfl (lv_at hl 2 rfl) ?_
            refine th_get (ci := 14) (C := RX13) (T := TX13) (N := 97) (v := .ref (ad 2)) hx hb hts hinX13 hown hK hP hI 0 (Nat.le_of_ble_eq_true rfl) rfl rfl 3 (Nat.le_of_ble_eq_true rfl) (hts _ (vA_in _ _ (in_27 _ (zs4 (zs4 (zs4 (zs0))))))) (fun _ h9 => h9) (hI.fr 0 (Nat.le_of_ble_eq_true rfl) rfl (Nat.le_of_ble_eq_true rfl) 2 rfl) dX13_certOn_38 ?_
            refine lv_iload hx hb dX13_certOn_41 (lv_at hl 0 rfl) ?_
            have n23 : vp_in v6_5 80 := (iv_in (n := 80) i5 (by decide))
            refine th_iald hx hb hK hP hI 2 (Nat.le_of_ble_eq_true rfl) rfl rfl n23 dX13_certOn_43 (fun y22 ey22 => ?_)
            have iy22 : 0 ≤ y22.toInt ∧ y22.toInt ≤ 400 := hI.el 2 (Nat.le_of_ble_eq_true rfl) rfl n23 (fun _ => rfl) ey22
            have ey22 := ey22.trans (hKp.ei 2 _ rfl)
            refine lv_iload_n hx hb dX13_certOn_44 rfl (lv_at hl 4 rfl) ?_
            refine lv_icmp_gt (tgt := 75) hx hb dX13_certOn_45 (by decide) (fun c24 => ?_) (fun c24 => ?_)
            · --45 taken
              have t25 : a1.toInt < y22.toInt := ti_lt c24
              have i26 : -2147483648 ≤ a1.toInt ∧ a1.toInt ≤ 399 := iv_lt_l t25 (iv_all _) iy22 (by decide)
              obtain ⟨y27, ey27⟩ : ∃ y : Int32, y = v6_5 + (1 : Int32) := ⟨_, rfl⟩
              obtain ⟨ty27, iy27⟩ := ti_add (e := 1) (f := 80) i5 ln_1 ey27 (by decide)
              have ty27 : y27.toInt = v6_5.toInt + 1 := ty27
              have iy27 : 1 ≤ y27.toInt ∧ y27.toInt ≤ 80 := iy27
              refine lv_iinc (v := y27) (lv' := [(5, .int y27), (4, .int v6_4), (0, .ref (ad 0)), (1, .int a0), (2, .int a1), (3, .int a2)]) hx hb dX13_certOn_75 hl (k := 0) rfl (by rw [ey27]; rfl) (by decide) rfl (fun ls hl => ?_)
              refine lv_goto (tgt := 6) hx hb dX13_certOn_78 (by decide) ?_
              exact ih6 y27 v6_4 _ _ _ (iv_w iy27 (by decide)) hv6_4 (cO_skip hx6_0 ty27 hv6_5 (by decide) (fun hh => ub_nle c24 (by rw [ey22]; exact hh.2.2.1))) (by have h9 := iy27; have h8 := i6; omega) (by first | exact ms_su hx6_2 ty27 (by decide) | omega) hP hS (lv_sub hl [0, 1, 2, 3, 4, 5] rfl)
            · --45 not
              have t28 : y22.toInt ≤ a1.toInt := ti_nlt c24
              have i29 : 0 ≤ a1.toInt ∧ a1.toInt ≤ 2147483647 := iv_le_r t28 iy22 (iv_all _) (by decide)
              refine lv_iload hx hb dX13_certOn_48 (lv_at hl 1 rfl) ?_
              refine lv_iconst (v := -1) hx hb dX13_certOn_50 (by decide) ?_
              refine lv_icmp_eq (tgt := 71) hx hb dX13_certOn_51 (by decide) (fun c30 => ?_) (fun c30 => ?_)
              · --51 taken
                have t31 : v6_4.toInt = -1 := ti_eq c30
                have i32 : -1 ≤ v6_4.toInt ∧ v6_4.toInt ≤ -1 := iv_eqi t31 hv6_4 (il_ (-1)) (by decide)
                refine lv_iload hx hb dX13_certOn_71 (lv_at hl 0 rfl) ?_
                refine lv_istore (lv' := [(4, .int v6_5), (5, .int v6_5), (0, .ref (ad 0)), (1, .int a0), (2, .int a1), (3, .int a2)]) hx hb dX13_certOn_73 hl (by decide) rfl (fun ls hl => ?_)
                obtain ⟨y33, ey33⟩ : ∃ y : Int32, y = v6_5 + (1 : Int32) := ⟨_, rfl⟩
                obtain ⟨ty33, iy33⟩ := ti_add (e := 1) (f := 80) i5 ln_1 ey33 (by decide)
                have ty33 : y33.toInt = v6_5.toInt + 1 := ty33
                have iy33 : 1 ≤ y33.toInt ∧ y33.toInt ≤ 80 := iy33
                refine lv_iinc (v := y33) (lv' := [(5, .int y33), (4, .int v6_5), (0, .ref (ad 0)), (1, .int a0), (2, .int a1), (3, .int a2)]) hx hb dX13_certOn_75 hl (k := 1) rfl (by rw [ey33]; rfl) (by decide) rfl (fun ls hl => ?_)
                refine lv_goto (tgt := 6) hx hb dX13_certOn_78 (by decide) ?_
                exact ih6 y33 v6_5 _ _ _ (iv_w iy33 (by decide)) (iv_w i5 (by decide)) (cO_take hx6_0 ty33 hv6_5 (by decide) ⟨ey7.symm.trans c9, (by rw [← ey14]; exact ub_le c16), (by rw [← ey22]; exact ub_le c24), Or.inl c30⟩) (by have h9 := iy33; have h8 := i6; omega) (by first | exact ms_su hx6_2 ty33 (by decide) | omega) hP hS (lv_sub hl [0, 1, 2, 3, 4, 5] rfl)
              · --51 not
                have t34 : ¬ v6_4.toInt = -1 := ti_ne c30
                have i35 : 0 ≤ v6_4.toInt ∧ v6_4.toInt ≤ 79 := iv_ne_l t34 hv6_4 (il_ (-1))
                refine lv_aload_n hx hb dX13_certOn_54 rfl (lv_at hl 2 rfl) ?_
                refine th_get (ci := 14) (C := RX13) (T := TX13) (N := 97) (v := .ref (ad 2)) hx hb hts hinX13 hown hK hP hI 0 (Nat.le_of_ble_eq_true rfl) rfl rfl 3 (Nat.le_of_ble_eq_true rfl) (hts _ (vA_in _ _ (in_27 _ (zs4 (zs4 (zs4 (zs0))))))) (fun _ h9 => h9) (hI.fr 0 (Nat.le_of_ble_eq_true rfl) rfl (Nat.le_of_ble_eq_true rfl) 2 rfl) dX13_certOn_55 ?_
                refine lv_iload hx hb dX13_certOn_58 (lv_at hl 0 rfl) ?_
                have n37 : vp_in v6_5 80 := (iv_in (n := 80) i5 (by decide))
                refine th_iald hx hb hK hP hI 2 (Nat.le_of_ble_eq_true rfl) rfl rfl n37 dX13_certOn_60 (fun y36 ey36 => ?_)
                have iy36 : 0 ≤ y36.toInt ∧ y36.toInt ≤ 400 := hI.el 2 (Nat.le_of_ble_eq_true rfl) rfl n37 (fun _ => rfl) ey36
                have ey36 := ey36.trans (hKp.ei 2 _ rfl)
                refine lv_aload_n hx hb dX13_certOn_61 rfl (lv_at hl 2 rfl) ?_
                refine th_get (ci := 14) (C := RX13) (T := TX13) (N := 97) (v := .ref (ad 2)) hx hb hts hinX13 hown hK hP hI 0 (Nat.le_of_ble_eq_true rfl) rfl rfl 3 (Nat.le_of_ble_eq_true rfl) (hts _ (vA_in _ _ (in_27 _ (zs4 (zs4 (zs4 (zs0))))))) (fun _ h9 => h9) (hI.fr 0 (Nat.le_of_ble_eq_true rfl) rfl (Nat.le_of_ble_eq_true rfl) 2 rfl) dX13_certOn_62 ?_
                refine lv_iload hx hb dX13_certOn_65 (lv_at hl 1 rfl) ?_
                have n39 : vp_in v6_4 80 := (iv_in (n := 80) i35 (by decide))
                refine th_iald hx hb hK hP hI 2 (Nat.le_of_ble_eq_true rfl) rfl rfl n39 dX13_certOn_67 (fun y38 ey38 => ?_)
                have iy38 : 0 ≤ y38.toInt ∧ y38.toInt ≤ 400 := hI.el 2 (Nat.le_of_ble_eq_true rfl) rfl n39 (fun _ => rfl) ey38
                have ey38 := ey38.trans (hKp.ei 2 _ rfl)
                refine lv_icmp_lt (tgt := 75) hx hb dX13_certOn_68 (by decide) (fun c40 => ?_) (fun c40 => ?_)
                · --68 taken
                  have t41 : y36.toInt < y38.toInt := ti_lt c40
                  have i42 : 0 ≤ y36.toInt ∧ y36.toInt ≤ 399 := iv_lt_l t41 iy36 iy38 (by decide)
                  have i43 : 1 ≤ y38.toInt ∧ y38.toInt ≤ 400 := iv_lt_r t41 iy36 iy38 (by decide)
                  obtain ⟨y44, ey44⟩ : ∃ y : Int32, y = v6_5 + (1 : Int32) := ⟨_, rfl⟩
                  obtain ⟨ty44, iy44⟩ := ti_add (e := 1) (f := 80) i5 ln_1 ey44 (by decide)
                  have ty44 : y44.toInt = v6_5.toInt + 1 := ty44
                  have iy44 : 1 ≤ y44.toInt ∧ y44.toInt ≤ 80 := iy44
                  refine lv_iinc (v := y44) (lv' := [(5, .int y44), (4, .int v6_4), (0, .ref (ad 0)), (1, .int a0), (2, .int a1), (3, .int a2)]) hx hb dX13_certOn_75 hl (k := 0) rfl (by rw [ey44]; rfl) (by decide) rfl (fun ls hl => ?_)
                  refine lv_goto (tgt := 6) hx hb dX13_certOn_78 (by decide) ?_
                  exact ih6 y44 v6_4 _ _ _ (iv_w iy44 (by decide)) (iv_w i35 (by decide)) (cO_skip hx6_0 ty44 hv6_5 (by decide) (fun hh => hh.2.2.2.elim (fun h9 => c30 h9) (fun h9 => ub_nle c40 (by rw [ey38, ey36]; exact h9)))) (by have h9 := iy44; have h8 := i6; omega) (by first | exact ms_su hx6_2 ty44 (by decide) | omega) hP hS (lv_sub hl [0, 1, 2, 3, 4, 5] rfl)
                · --68 not
                  have t45 : y38.toInt ≤ y36.toInt := ti_nlt c40
                  refine lv_iload hx hb dX13_certOn_71 (lv_at hl 0 rfl) ?_
                  refine lv_istore (lv' := [(4, .int v6_5), (5, .int v6_5), (0, .ref (ad 0)), (1, .int a0), (2, .int a1), (3, .int a2)]) hx hb dX13_certOn_73 hl (by decide) rfl (fun ls hl => ?_)
                  obtain ⟨y46, ey46⟩ : ∃ y : Int32, y = v6_5 + (1 : Int32) := ⟨_, rfl⟩
                  obtain ⟨ty46, iy46⟩ := ti_add (e := 1) (f := 80) i5 ln_1 ey46 (by decide)
                  have ty46 : y46.toInt = v6_5.toInt + 1 := ty46
                  have iy46 : 1 ≤ y46.toInt ∧ y46.toInt ≤ 80 := iy46
                  refine lv_iinc (v := y46) (lv' := [(5, .int y46), (4, .int v6_5), (0, .ref (ad 0)), (1, .int a0), (2, .int a1), (3, .int a2)]) hx hb dX13_certOn_75 hl (k := 1) rfl (by rw [ey46]; rfl) (by decide) rfl (fun ls hl => ?_)
                  refine lv_goto (tgt := 6) hx hb dX13_certOn_78 (by decide) ?_
                  exact ih6 y46 v6_5 _ _ _ (iv_w iy46 (by decide)) (iv_w i5 (by decide)) (cO_take hx6_0 ty46 hv6_5 (by decide) ⟨ey7.symm.trans c9, (by rw [← ey14]; exact ub_le c16), (by rw [← ey22]; exact ub_le c24), Or.inr (by rw [← ey38, ← ey36]; exact ub_le c40)⟩) (by have h9 := iy46; have h8 := i6; omega) (by first | exact ms_su hx6_2 ty46 (by decide) | omega) hP hS (lv_sub hl [0, 1, 2, 3, 4, 5] rfl)
  exact hL6 (81) (0 : Int32) (-1 : Int32) _ _ _ (iv_w ln_0 (by decide)) (iv_w ln_m1 (by decide)) rfl (by have h9 := ln_0; have h8 := (show 0 ≤ (xi (E 0) 9).toInt ∧ (xi (E 0) 9).toInt ≤ 80 from hI0.iv 0 (Nat.le_of_ble_eq_true rfl) rfl (Nat.le_of_ble_eq_true rfl) rfl); omega) (by have h9 := ln_0; first | exact ms_bu h9.1 (by decide) | omega) hP hS (lv_sub hl [0, 1, 2, 3, 4, 5] rfl)
def v_rulesOn : List Cond := .code yX13_rulesOn cX13_rulesOn 5 (some .int) :: vA
abbrev rm_rulesOn : Room := { frames := 0, cells := 0, slots := 0, locals := 0 }
set_option maxHeartbeats 4000000 in
set_option maxRecDepth 100000 in
theorem q_rulesOn (l : Launch) (dC : Nat → ClassId) (dI : Nat → Nat → Nat) (cT : Nat → ClassId) (ad : Nat → Nat) (E : Nat → va_E) (sz : Nat) (a0 : Int32) (a1 : Int32) (hI0 : IX cT shM spM 72 ad E)  : Met l yX13_rulesOn v_rulesOn rm_rulesOn (va_Pc [.ref (ad 0), .int a0, .int a1] (HW dC dI (TYM cT) 72 ad E sz)) (va_Qi (S := Unit) (fun r _ => (-1 ≤ r.toInt ∧ r.toInt ≤ 15)) (fun _ _ => True) (fun _ => False)) 0 0 (fun _ => False) := by
  refine Met.ofW (cc := cX13_rulesOn) (maxL := 5) (ret := (some .int)) (by decide) rfl ?_
  intro p e s m args below meth c s₁ B hml hv
  obtain ⟨hargs, hsz, hP, hK, hD0, hEV⟩ := hv
  subst hsz
  have hx := B.exec
  have hb := B.bytes
  have hr := B.returns
  have hts := atoms_spec (ws := v_rulesOn) B.pre
  have hown : s.vm.findClass RX13 = some m.cls := findClass_of_methodNamed B.named
  have hlocks := B.notSynchronized
  have hinX13 : ∀ w ∈ u_ws RX13 TX13 97, w ∈ v_rulesOn := fun w h => vA_in _ w (in_X13 w h)
  have hS : va_S (fun _ : Nat => False) s.heap s.heap [] := va_S.rf
  have hD := hD0
  have hI := hI0
  have hKp : Kp (wl [] []) E E := Kp.rf
  have hl := lv_entry ([.ref (ad 0), .int a0, .int a1]) (n := 5) (Nat.le_of_ble_eq_true rfl)
  obtain ⟨Q, hQ⟩ : ∃ Q, Q = MQ below (va_Qi (S := Unit) (fun r _ => (-1 ≤ r.toInt ∧ r.toInt ≤ 15)) (fun _ _ => True) (fun _ => False)) args s 0 0 (fun _ => False) := ⟨_, rfl⟩
  rw [← hQ, show entryFrame m args 5 = _ from (congrArg (fun z => entryFrame m z 5) hargs).trans (lg_entry_eq _ _ _)]
  generalize (lg_sl ([.ref (ad 0), .int a0, .int a1]) ++ List.replicate (5 - (lg_sl ([.ref (ad 0), .int a0, .int a1])).length) Slot.unset).toArray = ls at hl ⊢
  have hl : lv_has ls 5 [(0, .ref (ad 0)), (1, .int a0), (2, .int a1)] := hl
  refine lv_iconst (v := -1) hx hb dX13_rulesOn_0 (by decide) ?_
  refine lv_istore_n (lv' := [(3, .int (-1)), (0, .ref (ad 0)), (1, .int a0), (2, .int a1)]) hx hb dX13_rulesOn_1 rfl hl (by decide) rfl (fun ls hl => ?_)
  refine lv_iconst (v := 0) hx hb dX13_rulesOn_2 (by decide) ?_
  refine lv_istore (lv' := [(4, .int 0), (3, .int (-1)), (0, .ref (ad 0)), (1, .int a0), (2, .int a1)]) hx hb dX13_rulesOn_3 hl (by decide) rfl (fun ls hl => ?_)
  have hL5 : ∀ d : Nat, ∀ (v5_4 : Int32) (v5_3 : Int32) (H : Heap) (locs : List Loc) (ls : Array Slot), 0 ≤ v5_4.toInt ∧ v5_4.toInt ≤ 16 → -1 ≤ v5_3.toInt ∧ v5_3.toInt ≤ 15 → 16 - v5_4.toInt < (d : Int) → va_P (dC, dI) vwCl (WX 72 ad E) H → va_S (fun _ : Nat => False) s.heap H locs → lv_has ls 5 [(4, .int v5_4), (3, .int v5_3), (0, .ref (ad 0)), (1, .int a0), (2, .int a1)] → W p l e (headSpec v_rulesOn rm_rulesOn).room s m args below meth c H locs 0 0 Q (F0 m 5 ls []) := by
    intro d
    induction d with
    | zero =>
      intro v5_4 v5_3 H locs ls hv5_4 hv5_3 hx5_0 hP hS hl
      exact absurd hx5_0 (by first | exact ms_zu hv5_4.2 | omega)
    | succ d ih5 =>
      intro v5_4 v5_3 H locs ls hv5_4 hv5_3 hx5_0 hP hS hl
      refine lv_iload hx hb dX13_rulesOn_5 (lv_at hl 0 rfl) ?_
      refine lv_aload_n hx hb dX13_rulesOn_7 rfl (lv_at hl 2 rfl) ?_
      have i1 : 0 ≤ (xi (E 0) 17).toInt ∧ (xi (E 0) 17).toInt ≤ 16 := hI0.iv 0 (Nat.le_of_ble_eq_true rfl) rfl (Nat.le_of_ble_eq_true rfl) rfl
      refine th_get (ci := 14) (C := RX13) (T := TX13) (N := 97) (v := .int (xi (E 0) 17)) hx hb hts hinX13 hown hK hP hI 0 (Nat.le_of_ble_eq_true rfl) rfl rfl 17 (Nat.le_of_ble_eq_true rfl) (hts _ (vA_in _ _ (in_29 _ (zs4 (zs1 (zs0)))))) (fun _ h9 => h9) (th_v0 hKp hI0 0 (Nat.le_of_ble_eq_true rfl) rfl (Nat.le_of_ble_eq_true rfl) rfl rfl) dX13_rulesOn_8 ?_
      refine lv_icmp_ge (tgt := 66) hx hb dX13_rulesOn_11 (by decide) (fun c2 => ?_) (fun c2 => ?_)
      · --11 taken
        have t3 : (xi (E 0) 17).toInt ≤ v5_4.toInt := ti_le c2
        refine lv_iload_n hx hb dX13_rulesOn_66 rfl (lv_at hl 1 rfl) ?_
        rw [hQ]
        exact W.iret (v := v5_3) hx hb hr (fun t ht hW => ⟨⟨v5_3, (), rfl, hv5_3, trivial⟩, hS.F ht⟩) hS.2.2 dX13_rulesOn_67
      · --11 not
        have t4 : v5_4.toInt < (xi (E 0) 17).toInt := ti_nle c2
        have i5 : 0 ≤ v5_4.toInt ∧ v5_4.toInt ≤ 15 := iv_lt_l t4 hv5_4 i1 (by decide)
        have i6 : 1 ≤ (xi (E 0) 17).toInt ∧ (xi (E 0) 17).toInt ≤ 16 := iv_lt_r t4 hv5_4 i1 (by decide)
        refine lv_aload_n hx hb dX13_rulesOn_14 rfl (lv_at hl 2 rfl) ?_
        refine th_get (ci := 14) (C := RX13) (T := TX13) (N := 97) (v := .ref (ad 11)) hx hb hts hinX13 hown hK hP hI 0 (Nat.le_of_ble_eq_true rfl) rfl rfl 14 (Nat.le_of_ble_eq_true rfl) (hts _ (vA_in _ _ (in_29 _ (zs4 (zs1 (zs1 (zs0))))))) (fun _ h9 => h9) (hI.fr 0 (Nat.le_of_ble_eq_true rfl) rfl (Nat.le_of_ble_eq_true rfl) 11 rfl) dX13_rulesOn_15 ?_
        refine lv_iload hx hb dX13_rulesOn_18 (lv_at hl 0 rfl) ?_
        have n8 : vp_in v5_4 16 := (iv_in (n := 16) i5 (by decide))
        refine th_iald hx hb hK hP hI 11 (Nat.le_of_ble_eq_true rfl) rfl rfl n8 dX13_rulesOn_20 (fun y7 ey7 => ?_)
        have iy7 : 0 ≤ y7.toInt ∧ y7.toInt ≤ 400 := hI.el 11 (Nat.le_of_ble_eq_true rfl) rfl n8 (fun _ => rfl) ey7
        have ey7 := ey7.trans (hKp.ei 11 _ rfl)
        refine lv_iload_n hx hb dX13_rulesOn_21 rfl (lv_at hl 4 rfl) ?_
        refine lv_icmp_gt (tgt := 60) hx hb dX13_rulesOn_22 (by decide) (fun c9 => ?_) (fun c9 => ?_)
        · --22 taken
          have t10 : a1.toInt < y7.toInt := ti_lt c9
          have i11 : -2147483648 ≤ a1.toInt ∧ a1.toInt ≤ 399 := iv_lt_l t10 (iv_all _) iy7 (by decide)
          obtain ⟨y12, ey12⟩ : ∃ y : Int32, y = v5_4 + (1 : Int32) := ⟨_, rfl⟩
          obtain ⟨ty12, iy12⟩ := ti_add (e := 1) (f := 16) i5 ln_1 ey12 (by decide)
          have ty12 : y12.toInt = v5_4.toInt + 1 := ty12
          have iy12 : 1 ≤ y12.toInt ∧ y12.toInt ≤ 16 := iy12
          refine lv_iinc (v := y12) (lv' := [(4, .int y12), (3, .int v5_3), (0, .ref (ad 0)), (1, .int a0), (2, .int a1)]) hx hb dX13_rulesOn_60 hl (k := 0) rfl (by rw [ey12]; rfl) (by decide) rfl (fun ls hl => ?_)
          refine lv_goto (tgt := 5) hx hb dX13_rulesOn_63 (by decide) ?_
          exact ih5 y12 v5_3 _ _ _ (iv_w iy12 (by decide)) hv5_3 (by first | exact ms_su hx5_0 ty12 (by decide) | omega) hP hS (lv_sub hl [0, 1, 2, 3, 4] rfl)
        · --22 not
          have t13 : y7.toInt ≤ a1.toInt := ti_nlt c9
          have i14 : 0 ≤ a1.toInt ∧ a1.toInt ≤ 2147483647 := iv_le_r t13 iy7 (iv_all _) (by decide)
          refine lv_aload_n hx hb dX13_rulesOn_25 rfl (lv_at hl 2 rfl) ?_
          refine th_get (ci := 14) (C := RX13) (T := TX13) (N := 97) (v := .ref (ad 10)) hx hb hts hinX13 hown hK hP hI 0 (Nat.le_of_ble_eq_true rfl) rfl rfl 13 (Nat.le_of_ble_eq_true rfl) (hts _ (vA_in _ _ (in_29 _ (zs4 (zs1 (zs1 (zs1 (zs0)))))))) (fun _ h9 => h9) (hI.fr 0 (Nat.le_of_ble_eq_true rfl) rfl (Nat.le_of_ble_eq_true rfl) 10 rfl) dX13_rulesOn_26 ?_
          refine lv_iload hx hb dX13_rulesOn_29 (lv_at hl 0 rfl) ?_
          have n16 : vp_in v5_4 16 := (iv_in (n := 16) i5 (by decide))
          refine th_iald hx hb hK hP hI 10 (Nat.le_of_ble_eq_true rfl) rfl rfl n16 dX13_rulesOn_31 (fun y15 ey15 => ?_)
          have iy15 : 0 ≤ y15.toInt ∧ y15.toInt ≤ 400 := hI.el 10 (Nat.le_of_ble_eq_true rfl) rfl n16 (fun _ => rfl) ey15
          have ey15 := ey15.trans (hKp.ei 10 _ rfl)
          refine lv_iload_n hx hb dX13_rulesOn_32 rfl (lv_at hl 3 rfl) ?_
          refine lv_icmp_gt (tgt := 60) hx hb dX13_rulesOn_33 (by decide) (fun c17 => ?_) (fun c17 => ?_)
          · --33 taken
            have t18 : a0.toInt < y15.toInt := ti_lt c17
            have i19 : -2147483648 ≤ a0.toInt ∧ a0.toInt ≤ 399 := iv_lt_l t18 (iv_all _) iy15 (by decide)
            obtain ⟨y20, ey20⟩ : ∃ y : Int32, y = v5_4 + (1 : Int32) := ⟨_, rfl⟩
            obtain ⟨ty20, iy20⟩ := ti_add (e := 1) (f := 16) i5 ln_1 ey20 (by decide)
            have ty20 : y20.toInt = v5_4.toInt + 1 := ty20
            have iy20 : 1 ≤ y20.toInt ∧ y20.toInt ≤ 16 := iy20
            refine lv_iinc (v := y20) (lv' := [(4, .int y20), (3, .int v5_3), (0, .ref (ad 0)), (1, .int a0), (2, .int a1)]) hx hb dX13_rulesOn_60 hl (k := 0) rfl (by rw [ey20]; rfl) (by decide) rfl (fun ls hl => ?_)
            refine lv_goto (tgt := 5) hx hb dX13_rulesOn_63 (by decide) ?_
            exact ih5 y20 v5_3 _ _ _ (iv_w iy20 (by decide)) hv5_3 (by first | exact ms_su hx5_0 ty20 (by decide) | omega) hP hS (lv_sub hl [0, 1, 2, 3, 4] rfl)
          · --33 not
            have t21 : y15.toInt ≤ a0.toInt := ti_nlt c17
            have i22 : 0 ≤ a0.toInt ∧ a0.toInt ≤ 2147483647 := iv_le_r t21 iy15 (iv_all _) (by decide)
            refine lv_iload_n hx hb dX13_rulesOn_36 rfl (lv_at hl 1 rfl) ?_
            refine lv_iconst (v := -1) hx hb dX13_rulesOn_37 (by decide) ?_
            refine lv_icmp_eq (tgt := 57) hx hb dX13_rulesOn_38 (by decide) (fun c23 => ?_) (fun c23 => ?_)
            · --38 taken
              have t24 : v5_3.toInt = -1 := ti_eq c23
              have i25 : -1 ≤ v5_3.toInt ∧ v5_3.toInt ≤ -1 := iv_eqi t24 hv5_3 (il_ (-1)) (by decide)
              refine lv_iload hx hb dX13_rulesOn_57 (lv_at hl 0 rfl) ?_
              refine lv_istore_n (lv' := [(3, .int v5_4), (4, .int v5_4), (0, .ref (ad 0)), (1, .int a0), (2, .int a1)]) hx hb dX13_rulesOn_59 rfl hl (by decide) rfl (fun ls hl => ?_)
              obtain ⟨y26, ey26⟩ : ∃ y : Int32, y = v5_4 + (1 : Int32) := ⟨_, rfl⟩
              obtain ⟨ty26, iy26⟩ := ti_add (e := 1) (f := 16) i5 ln_1 ey26 (by decide)
              have ty26 : y26.toInt = v5_4.toInt + 1 := ty26
              have iy26 : 1 ≤ y26.toInt ∧ y26.toInt ≤ 16 := iy26
              refine lv_iinc (v := y26) (lv' := [(4, .int y26), (3, .int v5_4), (0, .ref (ad 0)), (1, .int a0), (2, .int a1)]) hx hb dX13_rulesOn_60 hl (k := 1) rfl (by rw [ey26]; rfl) (by decide) rfl (fun ls hl => ?_)
              refine lv_goto (tgt := 5) hx hb dX13_rulesOn_63 (by decide) ?_
              exact ih5 y26 v5_4 _ _ _ (iv_w iy26 (by decide)) (iv_w i5 (by decide)) (by first | exact ms_su hx5_0 ty26 (by decide) | omega) hP hS (lv_sub hl [0, 1, 2, 3, 4] rfl)
            · --38 not
              have t27 : ¬ v5_3.toInt = -1 := ti_ne c23
              have i28 : 0 ≤ v5_3.toInt ∧ v5_3.toInt ≤ 15 := iv_ne_l t27 hv5_3 (il_ (-1))
              refine lv_aload_n hx hb dX13_rulesOn_41 rfl (lv_at hl 2 rfl) ?_
              refine th_get (ci := 14) (C := RX13) (T := TX13) (N := 97) (v := .ref (ad 10)) hx hb hts hinX13 hown hK hP hI 0 (Nat.le_of_ble_eq_true rfl) rfl rfl 13 (Nat.le_of_ble_eq_true rfl) (hts _ (vA_in _ _ (in_29 _ (zs4 (zs1 (zs1 (zs1 (zs0)))))))) (fun _ h9 => h9) (hI.fr 0 (Nat.le_of_ble_eq_true rfl) rfl (Nat.le_of_ble_eq_true rfl) 10 rfl) dX13_rulesOn_42 ?_
              refine lv_iload hx hb dX13_rulesOn_45 (lv_at hl 0 rfl) ?_
              have n30 : vp_in v5_4 16 := (iv_in (n := 16) i5 (by decide))
              refine th_iald hx hb hK hP hI 10 (Nat.le_of_ble_eq_true rfl) rfl rfl n30 dX13_rulesOn_47 (fun y29 ey29 => ?_)
              have iy29 : 0 ≤ y29.toInt ∧ y29.toInt ≤ 400 := hI.el 10 (Nat.le_of_ble_eq_true rfl) rfl n30 (fun _ => rfl) ey29
              have ey29 := ey29.trans (hKp.ei 10 _ rfl)
              refine lv_aload_n hx hb dX13_rulesOn_48 rfl (lv_at hl 2 rfl) ?_
              refine th_get (ci := 14) (C := RX13) (T := TX13) (N := 97) (v := .ref (ad 10)) hx hb hts hinX13 hown hK hP hI 0 (Nat.le_of_ble_eq_true rfl) rfl rfl 13 (Nat.le_of_ble_eq_true rfl) (hts _ (vA_in _ _ (in_29 _ (zs4 (zs1 (zs1 (zs1 (zs0)))))))) (fun _ h9 => h9) (hI.fr 0 (Nat.le_of_ble_eq_true rfl) rfl (Nat.le_of_ble_eq_true rfl) 10 rfl) dX13_rulesOn_49 ?_
              refine lv_iload_n hx hb dX13_rulesOn_52 rfl (lv_at hl 1 rfl) ?_
              have n32 : vp_in v5_3 16 := (iv_in (n := 16) i28 (by decide))
              refine th_iald hx hb hK hP hI 10 (Nat.le_of_ble_eq_true rfl) rfl rfl n32 dX13_rulesOn_53 (fun y31 ey31 => ?_)
              have iy31 : 0 ≤ y31.toInt ∧ y31.toInt ≤ 400 := hI.el 10 (Nat.le_of_ble_eq_true rfl) rfl n32 (fun _ => rfl) ey31
              have ey31 := ey31.trans (hKp.ei 10 _ rfl)
              refine lv_icmp_lt (tgt := 60) hx hb dX13_rulesOn_54 (by decide) (fun c33 => ?_) (fun c33 => ?_)
              · --54 taken
                have t34 : y29.toInt < y31.toInt := ti_lt c33
                have i35 : 0 ≤ y29.toInt ∧ y29.toInt ≤ 399 := iv_lt_l t34 iy29 iy31 (by decide)
                have i36 : 1 ≤ y31.toInt ∧ y31.toInt ≤ 400 := iv_lt_r t34 iy29 iy31 (by decide)
                obtain ⟨y37, ey37⟩ : ∃ y : Int32, y = v5_4 + (1 : Int32) := ⟨_, rfl⟩
                obtain ⟨ty37, iy37⟩ := ti_add (e := 1) (f := 16) i5 ln_1 ey37 (by decide)
                have ty37 : y37.toInt = v5_4.toInt + 1 := ty37
                have iy37 : 1 ≤ y37.toInt ∧ y37.toInt ≤ 16 := iy37
                refine lv_iinc (v := y37) (lv' := [(4, .int y37), (3, .int v5_3), (0, .ref (ad 0)), (1, .int a0), (2, .int a1)]) hx hb dX13_rulesOn_60 hl (k := 0) rfl (by rw [ey37]; rfl) (by decide) rfl (fun ls hl => ?_)
                refine lv_goto (tgt := 5) hx hb dX13_rulesOn_63 (by decide) ?_
                exact ih5 y37 v5_3 _ _ _ (iv_w iy37 (by decide)) (iv_w i28 (by decide)) (by first | exact ms_su hx5_0 ty37 (by decide) | omega) hP hS (lv_sub hl [0, 1, 2, 3, 4] rfl)
              · --54 not
                have t38 : y31.toInt ≤ y29.toInt := ti_nlt c33
                refine lv_iload hx hb dX13_rulesOn_57 (lv_at hl 0 rfl) ?_
                refine lv_istore_n (lv' := [(3, .int v5_4), (4, .int v5_4), (0, .ref (ad 0)), (1, .int a0), (2, .int a1)]) hx hb dX13_rulesOn_59 rfl hl (by decide) rfl (fun ls hl => ?_)
                obtain ⟨y39, ey39⟩ : ∃ y : Int32, y = v5_4 + (1 : Int32) := ⟨_, rfl⟩
                obtain ⟨ty39, iy39⟩ := ti_add (e := 1) (f := 16) i5 ln_1 ey39 (by decide)
                have ty39 : y39.toInt = v5_4.toInt + 1 := ty39
                have iy39 : 1 ≤ y39.toInt ∧ y39.toInt ≤ 16 := iy39
                refine lv_iinc (v := y39) (lv' := [(4, .int y39), (3, .int v5_4), (0, .ref (ad 0)), (1, .int a0), (2, .int a1)]) hx hb dX13_rulesOn_60 hl (k := 1) rfl (by rw [ey39]; rfl) (by decide) rfl (fun ls hl => ?_)
                refine lv_goto (tgt := 5) hx hb dX13_rulesOn_63 (by decide) ?_
                exact ih5 y39 v5_4 _ _ _ (iv_w iy39 (by decide)) (iv_w i5 (by decide)) (by first | exact ms_su hx5_0 ty39 (by decide) | omega) hP hS (lv_sub hl [0, 1, 2, 3, 4] rfl)
  exact hL5 (17) (0 : Int32) (-1 : Int32) _ _ _ (iv_w ln_0 (by decide)) (iv_w ln_m1 (by decide)) (by have h9 := ln_0; first | exact ms_bu h9.1 (by decide) | omega) hP hS (lv_sub hl [0, 1, 2, 3, 4] rfl)
def v_resultOf : List Cond := .code yX13_resultOf cX13_resultOf 6 (some .int) :: vA
abbrev rm_resultOf : Room := { frames := 0, cells := 0, slots := 0, locals := 0 }
set_option maxHeartbeats 4000000 in
set_option maxRecDepth 100000 in
theorem q_resultOf (l : Launch) (dC : Nat → ClassId) (dI : Nat → Nat → Nat) (cT : Nat → ClassId) (ad : Nat → Nat) (E : Nat → va_E) (sz : Nat) (a0 : Int32) (a1 : Int32) (a2 : Int32) (hI0 : IX cT shM spM 72 ad E)  : Met l yX13_resultOf v_resultOf rm_resultOf (va_Pc [.ref (ad 0), .int a0, .int a1, .int a2] (HW dC dI (TYM cT) 72 ad E sz)) (va_Qi (S := Unit) (fun r _ => (-1 ≤ r.toInt ∧ r.toInt ≤ 299) ∧ (r = lO (xi (E 24)) (xi (E 25)) (xi (E 28)) a0 a1 a2 (xi (E 0) 47).toNatClampNeg)) (fun _ _ => True) (fun _ => False)) 0 0 (fun _ => False) := by
  refine Met.ofW (cc := cX13_resultOf) (maxL := 6) (ret := (some .int)) (by decide) rfl ?_
  intro p e s m args below meth c s₁ B hml hv
  obtain ⟨hargs, hsz, hP, hK, hD0, hEV⟩ := hv
  subst hsz
  have hx := B.exec
  have hb := B.bytes
  have hr := B.returns
  have hts := atoms_spec (ws := v_resultOf) B.pre
  have hown : s.vm.findClass RX13 = some m.cls := findClass_of_methodNamed B.named
  have hlocks := B.notSynchronized
  have hinX13 : ∀ w ∈ u_ws RX13 TX13 97, w ∈ v_resultOf := fun w h => vA_in _ w (in_X13 w h)
  have hS : va_S (fun _ : Nat => False) s.heap s.heap [] := va_S.rf
  have hD := hD0
  have hI := hI0
  have hKp : Kp (wl [] []) E E := Kp.rf
  have hl := lv_entry ([.ref (ad 0), .int a0, .int a1, .int a2]) (n := 6) (Nat.le_of_ble_eq_true rfl)
  obtain ⟨Q, hQ⟩ : ∃ Q, Q = MQ below (va_Qi (S := Unit) (fun r _ => (-1 ≤ r.toInt ∧ r.toInt ≤ 299) ∧ (r = lO (xi (E 24)) (xi (E 25)) (xi (E 28)) a0 a1 a2 (xi (E 0) 47).toNatClampNeg)) (fun _ _ => True) (fun _ => False)) args s 0 0 (fun _ => False) := ⟨_, rfl⟩
  rw [← hQ, show entryFrame m args 6 = _ from (congrArg (fun z => entryFrame m z 6) hargs).trans (lg_entry_eq _ _ _)]
  generalize (lg_sl ([.ref (ad 0), .int a0, .int a1, .int a2]) ++ List.replicate (6 - (lg_sl ([.ref (ad 0), .int a0, .int a1, .int a2])).length) Slot.unset).toArray = ls at hl ⊢
  have hl : lv_has ls 6 [(0, .ref (ad 0)), (1, .int a0), (2, .int a1), (3, .int a2)] := hl
  refine lv_iconst (v := -1) hx hb dX13_resultOf_0 (by decide) ?_
  refine lv_istore (lv' := [(4, .int (-1)), (0, .ref (ad 0)), (1, .int a0), (2, .int a1), (3, .int a2)]) hx hb dX13_resultOf_1 hl (by decide) rfl (fun ls hl => ?_)
  refine lv_iconst (v := 0) hx hb dX13_resultOf_3 (by decide) ?_
  refine lv_istore (lv' := [(5, .int 0), (4, .int (-1)), (0, .ref (ad 0)), (1, .int a0), (2, .int a1), (3, .int a2)]) hx hb dX13_resultOf_4 hl (by decide) rfl (fun ls hl => ?_)
  have hL6 : ∀ d : Nat, ∀ (v6_5 : Int32) (v6_4 : Int32) (H : Heap) (locs : List Loc) (ls : Array Slot), 0 ≤ v6_5.toInt ∧ v6_5.toInt ≤ 300 → -1 ≤ v6_4.toInt ∧ v6_4.toInt ≤ 299 → v6_4 = lO (xi (E 24)) (xi (E 25)) (xi (E 28)) a0 a1 a2 v6_5.toNatClampNeg → v6_5.toInt ≤ (xi (E 0) 47).toInt → 300 - v6_5.toInt < (d : Int) → va_P (dC, dI) vwCl (WX 72 ad E) H → va_S (fun _ : Nat => False) s.heap H locs → lv_has ls 6 [(5, .int v6_5), (4, .int v6_4), (0, .ref (ad 0)), (1, .int a0), (2, .int a1), (3, .int a2)] → W p l e (headSpec v_resultOf rm_resultOf).room s m args below meth c H locs 0 0 Q (F0 m 6 ls []) := by
    intro d
    induction d with
    | zero =>
      intro v6_5 v6_4 H locs ls hv6_5 hv6_4 hx6_0 hx6_1 hx6_2 hP hS hl
      exact absurd hx6_2 (by first | exact ms_zu hv6_5.2 | omega)
    | succ d ih6 =>
      intro v6_5 v6_4 H locs ls hv6_5 hv6_4 hx6_0 hx6_1 hx6_2 hP hS hl
      refine lv_iload hx hb dX13_resultOf_6 (lv_at hl 0 rfl) ?_
      refine lv_aload_n hx hb dX13_resultOf_8 rfl (lv_at hl 2 rfl) ?_
      have i1 : 0 ≤ (xi (E 0) 47).toInt ∧ (xi (E 0) 47).toInt ≤ 300 := hI0.iv 0 (Nat.le_of_ble_eq_true rfl) rfl (Nat.le_of_ble_eq_true rfl) rfl
      refine th_get (ci := 14) (C := RX13) (T := TX13) (N := 97) (v := .int (xi (E 0) 47)) hx hb hts hinX13 hown hK hP hI 0 (Nat.le_of_ble_eq_true rfl) rfl rfl 47 (Nat.le_of_ble_eq_true rfl) (hts _ (vA_in _ _ (in_28 _ (zs4 (zs4 (zs4 (zs1 (zs0)))))))) (fun _ h9 => h9) (th_v0 hKp hI0 0 (Nat.le_of_ble_eq_true rfl) rfl (Nat.le_of_ble_eq_true rfl) rfl rfl) dX13_resultOf_9 ?_
      refine lv_icmp_ge (tgt := 58) hx hb dX13_resultOf_12 (by decide) (fun c2 => ?_) (fun c2 => ?_)
      · --12 taken
        have t3 : (xi (E 0) 47).toInt ≤ v6_5.toInt := ti_le c2
        refine lv_iload hx hb dX13_resultOf_58 (lv_at hl 1 rfl) ?_
        rw [hQ]
        exact W.iret (v := v6_4) hx hb hr (fun t ht hW => ⟨⟨v6_4, (), rfl, ⟨hv6_4, by have h9 := hx6_0; rw [tn_ge (x := v6_5) (y := xi (E 0) 47) (by omega) (by omega)] at h9; exact h9⟩, trivial⟩, hS.F ht⟩) hS.2.2 dX13_resultOf_60
      · --12 not
        have t4 : v6_5.toInt < (xi (E 0) 47).toInt := ti_nle c2
        have i5 : 0 ≤ v6_5.toInt ∧ v6_5.toInt ≤ 299 := iv_lt_l t4 hv6_5 i1 (by decide)
        have i6 : 1 ≤ (xi (E 0) 47).toInt ∧ (xi (E 0) 47).toInt ≤ 300 := iv_lt_r t4 hv6_5 i1 (by decide)
        refine lv_aload_n hx hb dX13_resultOf_15 rfl (lv_at hl 2 rfl) ?_
        refine th_get (ci := 14) (C := RX13) (T := TX13) (N := 97) (v := .ref (ad 24)) hx hb hts hinX13 hown hK hP hI 0 (Nat.le_of_ble_eq_true rfl) rfl rfl 38 (Nat.le_of_ble_eq_true rfl) (hts _ (vA_in _ _ (in_28 _ (zs4 (zs4 (zs4 (zs1 (zs1 (zs0))))))))) (fun _ h9 => h9) (hI.fr 0 (Nat.le_of_ble_eq_true rfl) rfl (Nat.le_of_ble_eq_true rfl) 24 rfl) dX13_resultOf_16 ?_
        refine lv_iload hx hb dX13_resultOf_19 (lv_at hl 0 rfl) ?_
        have n8 : vp_in v6_5 300 := (iv_in (n := 300) i5 (by decide))
        refine th_iald hx hb hK hP hI 24 (Nat.le_of_ble_eq_true rfl) rfl rfl n8 dX13_resultOf_21 (fun y7 ey7 => ?_)
        have iy7 : 0 ≤ y7.toInt ∧ y7.toInt ≤ 19 := hI.el 24 (Nat.le_of_ble_eq_true rfl) rfl n8 (fun _ => rfl) ey7
        have ey7 := ey7.trans (hKp.ei 24 _ rfl)
        refine lv_iload_n hx hb dX13_resultOf_22 rfl (lv_at hl 3 rfl) ?_
        refine lv_icmp_ne (tgt := 52) hx hb dX13_resultOf_23 (by decide) (fun c9 => ?_) (fun c9 => ?_)
        · --23 taken
          have t10 : ¬ y7.toInt = a0.toInt := ti_ne c9
          obtain ⟨y11, ey11⟩ : ∃ y : Int32, y = v6_5 + (1 : Int32) := ⟨_, rfl⟩
          obtain ⟨ty11, iy11⟩ := ti_add (e := 1) (f := 300) i5 ln_1 ey11 (by decide)
          have ty11 : y11.toInt = v6_5.toInt + 1 := ty11
          have iy11 : 1 ≤ y11.toInt ∧ y11.toInt ≤ 300 := iy11
          refine lv_iinc (v := y11) (lv' := [(5, .int y11), (4, .int v6_4), (0, .ref (ad 0)), (1, .int a0), (2, .int a1), (3, .int a2)]) hx hb dX13_resultOf_52 hl (k := 0) rfl (by rw [ey11]; rfl) (by decide) rfl (fun ls hl => ?_)
          refine lv_goto (tgt := 6) hx hb dX13_resultOf_55 (by decide) ?_
          exact ih6 y11 v6_4 _ _ _ (iv_w iy11 (by decide)) hv6_4 (lO_skip hx6_0 ty11 hv6_5 (by decide) (fun hh => c9 (ey7.trans hh.1))) (by have h9 := iy11; have h8 := i6; omega) (by first | exact ms_su hx6_2 ty11 (by decide) | omega) hP hS (lv_sub hl [0, 1, 2, 3, 4, 5] rfl)
        · --23 not
          have t12 : y7.toInt = a0.toInt := ti_eq c9
          have i13 : 0 ≤ a0.toInt ∧ a0.toInt ≤ 19 := iv_eqi t12.symm (iv_all _) iy7 (by decide)
          refine lv_aload_n hx hb dX13_resultOf_26 rfl (lv_at hl 2 rfl) ?_
          refine th_get (ci := 14) (C := RX13) (T := TX13) (N := 97) (v := .ref (ad 25)) hx hb hts hinX13 hown hK hP hI 0 (Nat.le_of_ble_eq_true rfl) rfl rfl 39 (Nat.le_of_ble_eq_true rfl) (hts _ (vA_in _ _ (in_28 _ (zs4 (zs4 (zs4 (zs1 (zs1 (zs1 (zs0)))))))))) (fun _ h9 => h9) (hI.fr 0 (Nat.le_of_ble_eq_true rfl) rfl (Nat.le_of_ble_eq_true rfl) 25 rfl) dX13_resultOf_27 ?_
          refine lv_iload hx hb dX13_resultOf_30 (lv_at hl 0 rfl) ?_
          have n15 : vp_in v6_5 300 := (iv_in (n := 300) i5 (by decide))
          refine th_iald hx hb hK hP hI 25 (Nat.le_of_ble_eq_true rfl) rfl rfl n15 dX13_resultOf_32 (fun y14 ey14 => ?_)
          have iy14 : 0 ≤ y14.toInt ∧ y14.toInt ≤ 15 := hI.el 25 (Nat.le_of_ble_eq_true rfl) rfl n15 (fun _ => rfl) ey14
          have ey14 := ey14.trans (hKp.ei 25 _ rfl)
          refine lv_iload_n hx hb dX13_resultOf_33 rfl (lv_at hl 4 rfl) ?_
          refine lv_icmp_ne (tgt := 52) hx hb dX13_resultOf_34 (by decide) (fun c16 => ?_) (fun c16 => ?_)
          · --34 taken
            have t17 : ¬ y14.toInt = a1.toInt := ti_ne c16
            obtain ⟨y18, ey18⟩ : ∃ y : Int32, y = v6_5 + (1 : Int32) := ⟨_, rfl⟩
            obtain ⟨ty18, iy18⟩ := ti_add (e := 1) (f := 300) i5 ln_1 ey18 (by decide)
            have ty18 : y18.toInt = v6_5.toInt + 1 := ty18
            have iy18 : 1 ≤ y18.toInt ∧ y18.toInt ≤ 300 := iy18
            refine lv_iinc (v := y18) (lv' := [(5, .int y18), (4, .int v6_4), (0, .ref (ad 0)), (1, .int a0), (2, .int a1), (3, .int a2)]) hx hb dX13_resultOf_52 hl (k := 0) rfl (by rw [ey18]; rfl) (by decide) rfl (fun ls hl => ?_)
            refine lv_goto (tgt := 6) hx hb dX13_resultOf_55 (by decide) ?_
            exact ih6 y18 v6_4 _ _ _ (iv_w iy18 (by decide)) hv6_4 (lO_skip hx6_0 ty18 hv6_5 (by decide) (fun hh => c16 (ey14.trans hh.2.1))) (by have h9 := iy18; have h8 := i6; omega) (by first | exact ms_su hx6_2 ty18 (by decide) | omega) hP hS (lv_sub hl [0, 1, 2, 3, 4, 5] rfl)
          · --34 not
            have t19 : y14.toInt = a1.toInt := ti_eq c16
            have i20 : 0 ≤ a1.toInt ∧ a1.toInt ≤ 15 := iv_eqi t19.symm (iv_all _) iy14 (by decide)
            refine lv_aload_n hx hb dX13_resultOf_37 rfl (lv_at hl 2 rfl) ?_
            refine th_get (ci := 14) (C := RX13) (T := TX13) (N := 97) (v := .ref (ad 28)) hx hb hts hinX13 hown hK hP hI 0 (Nat.le_of_ble_eq_true rfl) rfl rfl 42 (Nat.le_of_ble_eq_true rfl) (hts _ (vA_in _ _ (in_28 _ (zs16 (zs0))))) (fun _ h9 => h9) (hI.fr 0 (Nat.le_of_ble_eq_true rfl) rfl (Nat.le_of_ble_eq_true rfl) 28 rfl) dX13_resultOf_38 ?_
            refine lv_iload hx hb dX13_resultOf_41 (lv_at hl 0 rfl) ?_
            have n22 : vp_in v6_5 300 := (iv_in (n := 300) i5 (by decide))
            refine th_iald hx hb hK hP hI 28 (Nat.le_of_ble_eq_true rfl) rfl rfl n22 dX13_resultOf_43 (fun y21 ey21 => ?_)
            have iy21 : 0 ≤ y21.toInt ∧ y21.toInt ≤ 400 := hI.el 28 (Nat.le_of_ble_eq_true rfl) rfl n22 (fun _ => rfl) ey21
            have ey21 := ey21.trans (hKp.ei 28 _ rfl)
            refine lv_iload_n hx hb dX13_resultOf_44 rfl (lv_at hl 5 rfl) ?_
            refine lv_icmp_gt (tgt := 52) hx hb dX13_resultOf_45 (by decide) (fun c23 => ?_) (fun c23 => ?_)
            · --45 taken
              have t24 : a2.toInt < y21.toInt := ti_lt c23
              have i25 : -2147483648 ≤ a2.toInt ∧ a2.toInt ≤ 399 := iv_lt_l t24 (iv_all _) iy21 (by decide)
              obtain ⟨y26, ey26⟩ : ∃ y : Int32, y = v6_5 + (1 : Int32) := ⟨_, rfl⟩
              obtain ⟨ty26, iy26⟩ := ti_add (e := 1) (f := 300) i5 ln_1 ey26 (by decide)
              have ty26 : y26.toInt = v6_5.toInt + 1 := ty26
              have iy26 : 1 ≤ y26.toInt ∧ y26.toInt ≤ 300 := iy26
              refine lv_iinc (v := y26) (lv' := [(5, .int y26), (4, .int v6_4), (0, .ref (ad 0)), (1, .int a0), (2, .int a1), (3, .int a2)]) hx hb dX13_resultOf_52 hl (k := 0) rfl (by rw [ey26]; rfl) (by decide) rfl (fun ls hl => ?_)
              refine lv_goto (tgt := 6) hx hb dX13_resultOf_55 (by decide) ?_
              exact ih6 y26 v6_4 _ _ _ (iv_w iy26 (by decide)) hv6_4 (lO_skip hx6_0 ty26 hv6_5 (by decide) (fun hh => ub_nle c23 (by rw [ey21]; exact hh.2.2))) (by have h9 := iy26; have h8 := i6; omega) (by first | exact ms_su hx6_2 ty26 (by decide) | omega) hP hS (lv_sub hl [0, 1, 2, 3, 4, 5] rfl)
            · --45 not
              have t27 : y21.toInt ≤ a2.toInt := ti_nlt c23
              have i28 : 0 ≤ a2.toInt ∧ a2.toInt ≤ 2147483647 := iv_le_r t27 iy21 (iv_all _) (by decide)
              refine lv_iload hx hb dX13_resultOf_48 (lv_at hl 0 rfl) ?_
              refine lv_istore (lv' := [(4, .int v6_5), (5, .int v6_5), (0, .ref (ad 0)), (1, .int a0), (2, .int a1), (3, .int a2)]) hx hb dX13_resultOf_50 hl (by decide) rfl (fun ls hl => ?_)
              obtain ⟨y29, ey29⟩ : ∃ y : Int32, y = v6_5 + (1 : Int32) := ⟨_, rfl⟩
              obtain ⟨ty29, iy29⟩ := ti_add (e := 1) (f := 300) i5 ln_1 ey29 (by decide)
              have ty29 : y29.toInt = v6_5.toInt + 1 := ty29
              have iy29 : 1 ≤ y29.toInt ∧ y29.toInt ≤ 300 := iy29
              refine lv_iinc (v := y29) (lv' := [(5, .int y29), (4, .int v6_5), (0, .ref (ad 0)), (1, .int a0), (2, .int a1), (3, .int a2)]) hx hb dX13_resultOf_52 hl (k := 1) rfl (by rw [ey29]; rfl) (by decide) rfl (fun ls hl => ?_)
              refine lv_goto (tgt := 6) hx hb dX13_resultOf_55 (by decide) ?_
              exact ih6 y29 v6_5 _ _ _ (iv_w iy29 (by decide)) (iv_w i5 (by decide)) (lO_take ty29 hv6_5 (by decide) ⟨ey7.symm.trans c9, ey14.symm.trans c16, (by rw [← ey21]; exact ub_le c23)⟩) (by have h9 := iy29; have h8 := i6; omega) (by first | exact ms_su hx6_2 ty29 (by decide) | omega) hP hS (lv_sub hl [0, 1, 2, 3, 4, 5] rfl)
  exact hL6 (301) (0 : Int32) (-1 : Int32) _ _ _ (iv_w ln_0 (by decide)) (iv_w ln_m1 (by decide)) rfl (by have h9 := ln_0; have h8 := (show 0 ≤ (xi (E 0) 47).toInt ∧ (xi (E 0) 47).toInt ≤ 300 from hI0.iv 0 (Nat.le_of_ble_eq_true rfl) rfl (Nat.le_of_ble_eq_true rfl) rfl); omega) (by have h9 := ln_0; first | exact ms_bu h9.1 (by decide) | omega) hP hS (lv_sub hl [0, 1, 2, 3, 4, 5] rfl)
def v_isEntered : List Cond := .code yX13_isEntered cX13_isEntered 4 (some .boolean) :: vA
abbrev rm_isEntered : Room := { frames := 0, cells := 0, slots := 0, locals := 0 }
set_option maxHeartbeats 4000000 in
set_option maxRecDepth 100000 in
theorem q_isEntered (l : Launch) (dC : Nat → ClassId) (dI : Nat → Nat → Nat) (cT : Nat → ClassId) (ad : Nat → Nat) (E : Nat → va_E) (sz : Nat) (a0 : Int32) (a1 : Int32) (a2 : Int32) (hI0 : IX cT shM spM 72 ad E) (hh0 : 0 ≤ a0.toInt ∧ a0.toInt ≤ 19) (hh1 : 0 ≤ a1.toInt ∧ a1.toInt ≤ 15) : Met l yX13_isEntered v_isEntered rm_isEntered (va_Pc [.ref (ad 0), .int a0, .int a1, .int a2] (HW dC dI (TYM cT) 72 ad E sz)) (va_Qi (S := Unit) (fun r _ => (r = 1 ∧ ((xi (E 21) (16 * a0.toInt + a1.toInt).toNat).toInt ≤ a2.toInt)) ∨ (r = 0 ∧ (¬ ((xi (E 21) (16 * a0.toInt + a1.toInt).toNat).toInt ≤ a2.toInt)))) (fun _ _ => True) (fun _ => False)) 0 0 (fun _ => False) := by
  refine Met.ofW (cc := cX13_isEntered) (maxL := 4) (ret := (some .boolean)) (by decide) rfl ?_
  intro p e s m args below meth c s₁ B hml hv
  obtain ⟨hargs, hsz, hP, hK, hD0, hEV⟩ := hv
  subst hsz
  have hx := B.exec
  have hb := B.bytes
  have hr := B.returns
  have hts := atoms_spec (ws := v_isEntered) B.pre
  have hown : s.vm.findClass RX13 = some m.cls := findClass_of_methodNamed B.named
  have hlocks := B.notSynchronized
  have hinX13 : ∀ w ∈ u_ws RX13 TX13 97, w ∈ v_isEntered := fun w h => vA_in _ w (in_X13 w h)
  have hS : va_S (fun _ : Nat => False) s.heap s.heap [] := va_S.rf
  have hD := hD0
  have hI := hI0
  have hKp : Kp (wl [] []) E E := Kp.rf
  have hl := lv_entry ([.ref (ad 0), .int a0, .int a1, .int a2]) (n := 4) (Nat.le_of_ble_eq_true rfl)
  obtain ⟨Q, hQ⟩ : ∃ Q, Q = MQ below (va_Qi (S := Unit) (fun r _ => (r = 1 ∧ ((xi (E 21) (16 * a0.toInt + a1.toInt).toNat).toInt ≤ a2.toInt)) ∨ (r = 0 ∧ (¬ ((xi (E 21) (16 * a0.toInt + a1.toInt).toNat).toInt ≤ a2.toInt)))) (fun _ _ => True) (fun _ => False)) args s 0 0 (fun _ => False) := ⟨_, rfl⟩
  rw [← hQ, show entryFrame m args 4 = _ from (congrArg (fun z => entryFrame m z 4) hargs).trans (lg_entry_eq _ _ _)]
  generalize (lg_sl ([.ref (ad 0), .int a0, .int a1, .int a2]) ++ List.replicate (4 - (lg_sl ([.ref (ad 0), .int a0, .int a1, .int a2])).length) Slot.unset).toArray = ls at hl ⊢
  have hl : lv_has ls 4 [(0, .ref (ad 0)), (1, .int a0), (2, .int a1), (3, .int a2)] := hl
  refine lv_aload_n hx hb dX13_isEntered_0 rfl (lv_at hl 0 rfl) ?_
  refine th_get (ci := 14) (C := RX13) (T := TX13) (N := 97) (v := .ref (ad 21)) hx hb hts hinX13 hown hK hP hI 0 (Nat.le_of_ble_eq_true rfl) rfl rfl 35 (Nat.le_of_ble_eq_true rfl) (hts _ (vA_in _ _ (in_24 _ (zs16 (zs16 (zs4 (zs1 (zs1 (zs1 (zs0)))))))))) (fun _ h9 => h9) (hI.fr 0 (Nat.le_of_ble_eq_true rfl) rfl (Nat.le_of_ble_eq_true rfl) 21 rfl) dX13_isEntered_1 ?_
  refine lv_bipush (v := 16) hx hb dX13_isEntered_4 (by decide) ?_
  refine lv_iload_n hx hb dX13_isEntered_6 rfl (lv_at hl 1 rfl) ?_
  refine lv_imul hx hb dX13_isEntered_7 ?_
  refine lv_topi (fun y1 ey1 => ?_)
  obtain ⟨ty1, iy1⟩ := ti_mul (e := 0) (f := 304) ln_16 hh0 ey1 (by decide)
  have ty1 : y1.toInt = 16 * a0.toInt := ty1
  have iy1 : 0 ≤ y1.toInt ∧ y1.toInt ≤ 304 := iy1
  refine lv_iload_n hx hb dX13_isEntered_8 rfl (lv_at hl 2 rfl) ?_
  refine lv_iadd hx hb dX13_isEntered_9 ?_
  refine lv_topi (fun y2 ey2 => ?_)
  obtain ⟨ty2, iy2⟩ := ti_add (e := 0) (f := 319) iy1 hh1 ey2 (by decide)
  have ty2 : y2.toInt = y1.toInt + a1.toInt := ty2
  have iy2 : 0 ≤ y2.toInt ∧ y2.toInt ≤ 319 := iy2
  have n4 : vp_in y2 320 := (iv_in (n := 320) iy2 (by decide))
  refine th_iald hx hb hK hP hI 21 (Nat.le_of_ble_eq_true rfl) rfl rfl n4 dX13_isEntered_10 (fun y3 ey3 => ?_)
  have iy3 : 0 ≤ y3.toInt ∧ y3.toInt ≤ 1000 := hI.el 21 (Nat.le_of_ble_eq_true rfl) rfl n4 (fun _ => rfl) ey3
  have ey3 := ey3.trans (hKp.ei 21 _ rfl)
  refine lv_iload_n hx hb dX13_isEntered_11 rfl (lv_at hl 3 rfl) ?_
  refine lv_icmp_gt (tgt := 19) hx hb dX13_isEntered_12 (by decide) (fun c5 => ?_) (fun c5 => ?_)
  · --12 taken
    have t6 : a2.toInt < y3.toInt := ti_lt c5
    have i7 : -2147483648 ≤ a2.toInt ∧ a2.toInt ≤ 999 := iv_lt_l t6 (iv_all _) iy3 (by decide)
    refine lv_iconst (v := 0) hx hb dX13_isEntered_19 (by decide) ?_
    rw [hQ]
    exact W.zret (v := 0) hx hb hr rfl (fun t ht hW => ⟨⟨0, (), rfl, Or.inr (⟨rfl, by have h9 : (16 * a0.toInt + a1.toInt).toNat = y2.toNatClampNeg := (by rw [tn_]; omega); rw [h9, ← ey3]; omega⟩), trivial⟩, hS.F ht⟩) hS.2.2 dX13_isEntered_20
  · --12 not
    have t8 : y3.toInt ≤ a2.toInt := ti_nlt c5
    have i9 : 0 ≤ a2.toInt ∧ a2.toInt ≤ 2147483647 := iv_le_r t8 iy3 (iv_all _) (by decide)
    refine lv_iconst (v := 1) hx hb dX13_isEntered_15 (by decide) ?_
    refine lv_goto (tgt := 20) hx hb dX13_isEntered_16 (by decide) ?_
    rw [hQ]
    exact W.zret (v := 1) hx hb hr rfl (fun t ht hW => ⟨⟨1, (), rfl, Or.inl ⟨rfl, by have h9 : (16 * a0.toInt + a1.toInt).toNat = y2.toNatClampNeg := (by rw [tn_]; omega); rw [h9, ← ey3]; omega⟩, trivial⟩, hS.F ht⟩) hS.2.2 dX13_isEntered_20
def v_isEntry : List Cond := .code yX13_isEntry cX13_isEntry 3 (some .boolean) :: vA
abbrev rm_isEntry : Room := { frames := 1, cells := 0, slots := 0, locals := 40 }
set_option maxHeartbeats 4000000 in
set_option maxRecDepth 100000 in
theorem q_isEntry (l : Launch) (dC : Nat → ClassId) (dI : Nat → Nat → Nat) (cT : Nat → ClassId) (ad : Nat → Nat) (E : Nat → va_E) (sz : Nat) (a0 : Int32) (a1 : Int32) (hI0 : IX cT shM spM 72 ad E)  : Met l yX13_isEntry v_isEntry rm_isEntry (va_Pc [.ref (ad 0), .int a0, .int a1] (HW dC dI (TYM cT) 72 ad E sz)) (va_Qi (S := Unit) (fun r _ => (r = 1 ∧ ((0 ≤ a0.toInt ∧ a0.toInt < (xi (E 0) 46).toInt) ∧ (0 ≤ a1.toInt ∧ a1.toInt < (xi (E 0) 8).toInt) ∧ (xi (E 21) (16 * a0.toInt + a1.toInt).toNat).toInt ≤ (xi (E 0) 1).toInt) ∧ (0 ≤ a0.toInt ∧ a0.toInt ≤ 19) ∧ (0 ≤ a1.toInt ∧ a1.toInt ≤ 15)) ∨ (r = 0 ∧ (¬ ((0 ≤ a0.toInt ∧ a0.toInt < (xi (E 0) 46).toInt) ∧ (0 ≤ a1.toInt ∧ a1.toInt < (xi (E 0) 8).toInt) ∧ (xi (E 21) (16 * a0.toInt + a1.toInt).toNat).toInt ≤ (xi (E 0) 1).toInt)))) (fun _ _ => True) (fun _ => False)) 0 0 (fun _ => False) := by
  refine Met.ofW (cc := cX13_isEntry) (maxL := 3) (ret := (some .boolean)) (by decide) rfl ?_
  intro p e s m args below meth c s₁ B hml hv
  obtain ⟨hargs, hsz, hP, hK, hD0, hEV⟩ := hv
  subst hsz
  have hx := B.exec
  have hb := B.bytes
  have hr := B.returns
  have hts := atoms_spec (ws := v_isEntry) B.pre
  have hown : s.vm.findClass RX13 = some m.cls := findClass_of_methodNamed B.named
  have hlocks := B.notSynchronized
  have hinX13 : ∀ w ∈ u_ws RX13 TX13 97, w ∈ v_isEntry := fun w h => vA_in _ w (in_X13 w h)
  have hS : va_S (fun _ : Nat => False) s.heap s.heap [] := va_S.rf
  have hD := hD0
  have hI := hI0
  have hKp : Kp (wl [] []) E E := Kp.rf
  have hl := lv_entry ([.ref (ad 0), .int a0, .int a1]) (n := 3) (Nat.le_of_ble_eq_true rfl)
  obtain ⟨Q, hQ⟩ : ∃ Q, Q = MQ below (va_Qi (S := Unit) (fun r _ => (r = 1 ∧ ((0 ≤ a0.toInt ∧ a0.toInt < (xi (E 0) 46).toInt) ∧ (0 ≤ a1.toInt ∧ a1.toInt < (xi (E 0) 8).toInt) ∧ (xi (E 21) (16 * a0.toInt + a1.toInt).toNat).toInt ≤ (xi (E 0) 1).toInt) ∧ (0 ≤ a0.toInt ∧ a0.toInt ≤ 19) ∧ (0 ≤ a1.toInt ∧ a1.toInt ≤ 15)) ∨ (r = 0 ∧ (¬ ((0 ≤ a0.toInt ∧ a0.toInt < (xi (E 0) 46).toInt) ∧ (0 ≤ a1.toInt ∧ a1.toInt < (xi (E 0) 8).toInt) ∧ (xi (E 21) (16 * a0.toInt + a1.toInt).toNat).toInt ≤ (xi (E 0) 1).toInt)))) (fun _ _ => True) (fun _ => False)) args s 0 0 (fun _ => False) := ⟨_, rfl⟩
  rw [← hQ, show entryFrame m args 3 = _ from (congrArg (fun z => entryFrame m z 3) hargs).trans (lg_entry_eq _ _ _)]
  generalize (lg_sl ([.ref (ad 0), .int a0, .int a1]) ++ List.replicate (3 - (lg_sl ([.ref (ad 0), .int a0, .int a1])).length) Slot.unset).toArray = ls at hl ⊢
  have hl : lv_has ls 3 [(0, .ref (ad 0)), (1, .int a0), (2, .int a1)] := hl
  refine lv_aload_n hx hb dX13_isEntry_0 rfl (lv_at hl 0 rfl) ?_
  refine lv_iload_n hx hb dX13_isEntry_1 rfl (lv_at hl 1 rfl) ?_
  refine th_ri (va_runV (As := [.int a0]) (rest := []) ⟨hx, hb, hml, hown, hts⟩ (q_isRace l dC dI cT ad E s.heap.size a0 hI) (cwV 1 hts (gi_V (in_24 _ (zs4 (zs4 (zs4 (zs0))))) (in_24 _ (zs4 (zs4 (zs4 (zs1 (zs0)))))) (in_24 _ (zs4 (zs4 (zs4 (zs1 (zs1 (zs0))))))) (in_24 _ (zs4 (zs4 (zs4 (zs1 (zs1 (zs1 (zs0)))))))) (in_24 _ (zs16 (zs0)))) rfl rfl rfl ⟨rfl, hz_yX13_isRace_1⟩ ⟨Nat.le_of_ble_eq_true rfl, Nat.le_of_ble_eq_true rfl⟩) ⟨HW_bl, va_recv hK hP (ci := 14) (q0 := 0) rfl (hI.ob 0 (Nat.le_of_ble_eq_true rfl) rfl), (HW_wiR hP hK (WX_D hD) hS hEV)⟩ rfl rfl hl.1 rfl (lv_room (Nat.le_of_ble_eq_true rfl)) dX13_isEntry_2 ⟨Nat.le_of_ble_eq_true rfl, Nat.le_of_ble_eq_true rfl⟩) hS hP (fun r1 H locs hw hP hS => ?_)
  rcases hw with hw | hw
  · -- isRace, case 0
    obtain ⟨rfl, f2, f3⟩ := hw
    have i4 : 0 ≤ (xi (E 0) 46).toInt ∧ (xi (E 0) 46).toInt ≤ 20 := (show 0 ≤ (xi (E 0) 46).toInt ∧ (xi (E 0) 46).toInt ≤ 20 from hI0.iv 0 (Nat.le_of_ble_eq_true rfl) rfl (Nat.le_of_ble_eq_true rfl) rfl)
    refine lv_if_eq (tgt := 33) hx hb dX13_isEntry_5 (by decide) (fun c5 => ?_) (fun c5 => ?_)
    · --5 taken
      exact absurd c5 (by decide)
    · --5 not
      refine lv_aload_n hx hb dX13_isEntry_8 rfl (lv_at hl 0 rfl) ?_
      refine lv_iload_n hx hb dX13_isEntry_9 rfl (lv_at hl 2 rfl) ?_
      refine th_ri (va_runV (As := [.int a1]) (rest := []) ⟨hx, hb, hml, hown, hts⟩ (q_isBoat l dC dI cT ad E H.size a1 hI) (cwV 1 hts (gi_V (in_24 _ (zs16 (zs1 (zs1 (zs0))))) (in_24 _ (zs16 (zs1 (zs1 (zs1 (zs0)))))) (in_24 _ (zs16 (zs4 (zs0)))) (in_24 _ (zs4 (zs4 (zs4 (zs1 (zs1 (zs1 (zs0)))))))) (in_24 _ (zs16 (zs4 (zs1 (zs0)))))) rfl rfl rfl ⟨rfl, hz_yX13_isBoat_1⟩ ⟨Nat.le_of_ble_eq_true rfl, Nat.le_of_ble_eq_true rfl⟩) ⟨HW_bl, va_recv hK hP (ci := 14) (q0 := 0) rfl (hI.ob 0 (Nat.le_of_ble_eq_true rfl) rfl), (HW_wiR hP hK (WX_D hD) hS hEV)⟩ rfl rfl hl.1 rfl (lv_room (Nat.le_of_ble_eq_true rfl)) dX13_isEntry_10 ⟨Nat.le_of_ble_eq_true rfl, Nat.le_of_ble_eq_true rfl⟩) hS hP (fun r6 H locs hw hP hS => ?_)
      rcases hw with hw | hw
      · -- isBoat, case 0
        obtain ⟨rfl, f7, f8⟩ := hw
        have i9 : 0 ≤ (xi (E 0) 8).toInt ∧ (xi (E 0) 8).toInt ≤ 16 := (show 0 ≤ (xi (E 0) 8).toInt ∧ (xi (E 0) 8).toInt ≤ 16 from hI0.iv 0 (Nat.le_of_ble_eq_true rfl) rfl (Nat.le_of_ble_eq_true rfl) rfl)
        refine lv_if_eq (tgt := 33) hx hb dX13_isEntry_13 (by decide) (fun c10 => ?_) (fun c10 => ?_)
        · --13 taken
          exact absurd c10 (by decide)
        · --13 not
          refine lv_aload_n hx hb dX13_isEntry_16 rfl (lv_at hl 0 rfl) ?_
          refine lv_iload_n hx hb dX13_isEntry_17 rfl (lv_at hl 1 rfl) ?_
          refine lv_iload_n hx hb dX13_isEntry_18 rfl (lv_at hl 2 rfl) ?_
          refine lv_aload_n hx hb dX13_isEntry_19 rfl (lv_at hl 0 rfl) ?_
          have i11 : 0 ≤ (xi (E 0) 1).toInt ∧ (xi (E 0) 1).toInt ≤ 400 := hI0.iv 0 (Nat.le_of_ble_eq_true rfl) rfl (Nat.le_of_ble_eq_true rfl) rfl
          refine th_get (ci := 14) (C := RX13) (T := TX13) (N := 97) (v := .int (xi (E 0) 1)) hx hb hts hinX13 hown hK hP hI 0 (Nat.le_of_ble_eq_true rfl) rfl rfl 1 (Nat.le_of_ble_eq_true rfl) (hts _ (vA_in _ _ (in_24 _ (zs16 (zs4 (zs4 (zs1 (zs1 (zs1 (zs0)))))))))) (fun _ h9 => h9) (th_v0 hKp hI0 0 (Nat.le_of_ble_eq_true rfl) rfl (Nat.le_of_ble_eq_true rfl) rfl rfl) dX13_isEntry_20 ?_
          refine th_ri (va_runV (As := [.int a0, .int a1, .int (xi (E 0) 1)]) (rest := []) ⟨hx, hb, hml, hown, hts⟩ (q_isEntered l dC dI cT ad E H.size a0 a1 (xi (E 0) 1) hI f3 f8) (cwV 3 hts (gi_V (in_24 _ (zs16 (zs16 (zs1 (zs1 (zs1 (zs0))))))) (in_24 _ (zs16 (zs16 (zs4 (zs0))))) (in_24 _ (zs16 (zs16 (zs4 (zs1 (zs0)))))) (in_24 _ (zs4 (zs4 (zs4 (zs1 (zs1 (zs1 (zs0)))))))) (in_24 _ (zs16 (zs16 (zs4 (zs1 (zs1 (zs0)))))))) rfl rfl rfl ⟨rfl, hz_yX13_isEntered_3⟩ ⟨Nat.le_of_ble_eq_true rfl, Nat.le_of_ble_eq_true rfl⟩) ⟨HW_bl, va_recv hK hP (ci := 14) (q0 := 0) rfl (hI.ob 0 (Nat.le_of_ble_eq_true rfl) rfl), (HW_wiR hP hK (WX_D hD) hS hEV)⟩ rfl rfl hl.1 rfl (lv_room (Nat.le_of_ble_eq_true rfl)) dX13_isEntry_23 ⟨Nat.le_of_ble_eq_true rfl, Nat.le_of_ble_eq_true rfl⟩) hS hP (fun r12 H locs hw hP hS => ?_)
          rcases hw with hw | hw
          · -- isEntered, case 0
            obtain ⟨rfl, f13⟩ := hw
            refine lv_if_eq (tgt := 33) hx hb dX13_isEntry_26 (by decide) (fun c14 => ?_) (fun c14 => ?_)
            · --26 taken
              exact absurd c14 (by decide)
            · --26 not
              refine lv_iconst (v := 1) hx hb dX13_isEntry_29 (by decide) ?_
              refine lv_goto (tgt := 34) hx hb dX13_isEntry_30 (by decide) ?_
              rw [hQ]
              exact W.zret (v := 1) hx hb hr rfl (fun t ht hW => ⟨⟨1, (), rfl, Or.inl ⟨rfl, by have h8 := ln_1; all_goals omega, f3, f8⟩, trivial⟩, hS.F ht⟩) hS.2.2 dX13_isEntry_34
          · -- isEntered, case 1
            obtain ⟨rfl, f15⟩ := hw
            refine lv_if_eq (tgt := 33) hx hb dX13_isEntry_26 (by decide) (fun c16 => ?_) (fun c16 => ?_)
            · --26 taken
              refine lv_iconst (v := 0) hx hb dX13_isEntry_33 (by decide) ?_
              rw [hQ]
              exact W.zret (v := 0) hx hb hr rfl (fun t ht hW => ⟨⟨0, (), rfl, Or.inr (⟨rfl, by have h8 := ln_0; all_goals omega⟩), trivial⟩, hS.F ht⟩) hS.2.2 dX13_isEntry_34
            · --26 not
              exact absurd c16 (by decide)
      · -- isBoat, case 1
        obtain ⟨rfl, f17⟩ := hw
        have i18 : 0 ≤ (xi (E 0) 8).toInt ∧ (xi (E 0) 8).toInt ≤ 16 := (show 0 ≤ (xi (E 0) 8).toInt ∧ (xi (E 0) 8).toInt ≤ 16 from hI0.iv 0 (Nat.le_of_ble_eq_true rfl) rfl (Nat.le_of_ble_eq_true rfl) rfl)
        refine lv_if_eq (tgt := 33) hx hb dX13_isEntry_13 (by decide) (fun c19 => ?_) (fun c19 => ?_)
        · --13 taken
          refine lv_iconst (v := 0) hx hb dX13_isEntry_33 (by decide) ?_
          rw [hQ]
          exact W.zret (v := 0) hx hb hr rfl (fun t ht hW => ⟨⟨0, (), rfl, Or.inr (⟨rfl, by have h8 := ln_0; all_goals omega⟩), trivial⟩, hS.F ht⟩) hS.2.2 dX13_isEntry_34
        · --13 not
          exact absurd c19 (by decide)
  · -- isRace, case 1
    obtain ⟨rfl, f20⟩ := hw
    have i21 : 0 ≤ (xi (E 0) 46).toInt ∧ (xi (E 0) 46).toInt ≤ 20 := (show 0 ≤ (xi (E 0) 46).toInt ∧ (xi (E 0) 46).toInt ≤ 20 from hI0.iv 0 (Nat.le_of_ble_eq_true rfl) rfl (Nat.le_of_ble_eq_true rfl) rfl)
    refine lv_if_eq (tgt := 33) hx hb dX13_isEntry_5 (by decide) (fun c22 => ?_) (fun c22 => ?_)
    · --5 taken
      refine lv_iconst (v := 0) hx hb dX13_isEntry_33 (by decide) ?_
      rw [hQ]
      exact W.zret (v := 0) hx hb hr rfl (fun t ht hW => ⟨⟨0, (), rfl, Or.inr (⟨rfl, by have h8 := ln_0; all_goals omega⟩), trivial⟩, hS.F ht⟩) hS.2.2 dX13_isEntry_34
    · --5 not
      exact absurd c22 (by decide)
def v_asks : List Cond := .code yX13_asks cX13_asks 4 (some .boolean) :: vA
abbrev rm_asks : Room := { frames := 2, cells := 0, slots := 0, locals := 80 }
def w_asks : Nat → Nat → Bool := wl [] [(0, 0)]
set_option maxHeartbeats 4000000 in
set_option maxRecDepth 100000 in
theorem q_asks (l : Launch) (dC : Nat → ClassId) (dI : Nat → Nat → Nat) (cT : Nat → ClassId) (ad : Nat → Nat) (E : Nat → va_E) (sz : Nat) (a0 : Int32) (a1 : Int32) (a2 : Int32) (hI0 : IX cT shM spM 72 ad E)  : Met l yX13_asks v_asks rm_asks (va_Pc [.ref (ad 0), .int a0, .int a1, .int a2] (HW dC dI (TYM cT) 72 ad E sz)) (va_Qi (S := Nat → va_E) (fun r u => IX cT shM spM 72 ad u ∧ Kp w_asks E u ∧ ((r = 1 ∧ ((0 ≤ a0.toInt ∧ a0.toInt < (xi (E 0) 46).toInt) ∧ (0 ≤ a1.toInt ∧ a1.toInt < (xi (E 0) 8).toInt) ∧ (0 ≤ a2.toInt ∧ a2.toInt ≤ (xi (E 0) 1).toInt) ∧ (xi (E 20) a0.toInt.toNat).toInt ≤ a2.toInt) ∧ (0 ≤ a0.toInt ∧ a0.toInt ≤ 19) ∧ (0 ≤ a1.toInt ∧ a1.toInt ≤ 15) ∧ (0 ≤ a2.toInt ∧ a2.toInt ≤ 400)) ∨ (r = 0 ∧ (¬ ((0 ≤ a0.toInt ∧ a0.toInt < (xi (E 0) 46).toInt) ∧ (0 ≤ a1.toInt ∧ a1.toInt < (xi (E 0) 8).toInt) ∧ (0 ≤ a2.toInt ∧ a2.toInt ≤ (xi (E 0) 1).toInt) ∧ (xi (E 20) a0.toInt.toNat).toInt ≤ a2.toInt))))) (HB dC dI 72 ad) (va_A (WX 72 ad E) sz)) 0 0 (va_A (WX 72 ad E) sz) := by
  refine Met.ofW (cc := cX13_asks) (maxL := 4) (ret := (some .boolean)) (by decide) rfl ?_
  intro p e s m args below meth c s₁ B hml hv
  obtain ⟨hargs, hsz, hP, hK, hD0, hEV⟩ := hv
  subst hsz
  have hx := B.exec
  have hb := B.bytes
  have hr := B.returns
  have hts := atoms_spec (ws := v_asks) B.pre
  have hown : s.vm.findClass RX13 = some m.cls := findClass_of_methodNamed B.named
  have hlocks := B.notSynchronized
  have hinX13 : ∀ w ∈ u_ws RX13 TX13 97, w ∈ v_asks := fun w h => vA_in _ w (in_X13 w h)
  generalize hAe : va_A (WX 72 ad E) s.heap.size = A at hEV ⊢
  have hA : ∀ q : Nat, s.heap.size ≤ q → A q := fun q h => by rw [← hAe]; exact Or.inr h
  have hD : va_D A (WX 72 ad E) := by rw [← hAe]; exact hD0.self
  have hS : va_S A s.heap s.heap [] := va_S.rf
  have hI := hI0
  have hKp : Kp w_asks E E := Kp.rf
  have hl := lv_entry ([.ref (ad 0), .int a0, .int a1, .int a2]) (n := 4) (Nat.le_of_ble_eq_true rfl)
  obtain ⟨Q, hQ⟩ : ∃ Q, Q = MQ below (va_Qi (S := Nat → va_E) (fun r u => IX cT shM spM 72 ad u ∧ Kp w_asks E u ∧ ((r = 1 ∧ ((0 ≤ a0.toInt ∧ a0.toInt < (xi (E 0) 46).toInt) ∧ (0 ≤ a1.toInt ∧ a1.toInt < (xi (E 0) 8).toInt) ∧ (0 ≤ a2.toInt ∧ a2.toInt ≤ (xi (E 0) 1).toInt) ∧ (xi (E 20) a0.toInt.toNat).toInt ≤ a2.toInt) ∧ (0 ≤ a0.toInt ∧ a0.toInt ≤ 19) ∧ (0 ≤ a1.toInt ∧ a1.toInt ≤ 15) ∧ (0 ≤ a2.toInt ∧ a2.toInt ≤ 400)) ∨ (r = 0 ∧ (¬ ((0 ≤ a0.toInt ∧ a0.toInt < (xi (E 0) 46).toInt) ∧ (0 ≤ a1.toInt ∧ a1.toInt < (xi (E 0) 8).toInt) ∧ (0 ≤ a2.toInt ∧ a2.toInt ≤ (xi (E 0) 1).toInt) ∧ (xi (E 20) a0.toInt.toNat).toInt ≤ a2.toInt))))) (HB dC dI 72 ad) (A)) args s 0 0 (A) := ⟨_, rfl⟩
  rw [← hQ, show entryFrame m args 4 = _ from (congrArg (fun z => entryFrame m z 4) hargs).trans (lg_entry_eq _ _ _)]
  generalize (lg_sl ([.ref (ad 0), .int a0, .int a1, .int a2]) ++ List.replicate (4 - (lg_sl ([.ref (ad 0), .int a0, .int a1, .int a2])).length) Slot.unset).toArray = ls at hl ⊢
  have hl : lv_has ls 4 [(0, .ref (ad 0)), (1, .int a0), (2, .int a1), (3, .int a2)] := hl
  refine lv_aload_n hx hb dX13_asks_0 rfl (lv_at hl 0 rfl) ?_
  refine lv_iconst (v := 0) hx hb dX13_asks_1 (by decide) ?_
  refine th_put (ci := 14) (C := RX13) (T := TX13) (N := 97) (v := .int 0) (ty := .int) hx hb hts hinX13 tyX13 tyX13_ok nmX13 hown hK hP (WX_D hD) hS hI 0 (Nat.le_of_ble_eq_true rfl) rfl rfl 0 (Nat.le_of_ble_eq_true rfl) (hts _ (vA_in _ _ (in_24 _ (zs4 (zs4 (zs1 (zs1 (zs0)))))))) (fun _ h9 => h9) rfl (by decide +kernel) rfl rfl (okI rfl (iv_w ln_0 (by decide))) dX13_asks_2 (fun H locs E1 pw2 hI hP hS => ?_)
  have hKp := hKp.pw pw2 rfl
  refine lv_aload_n hx hb dX13_asks_5 rfl (lv_at hl 0 rfl) ?_
  refine lv_iload_n hx hb dX13_asks_6 rfl (lv_at hl 1 rfl) ?_
  refine th_ri (va_runV (As := [.int a0]) (rest := []) ⟨hx, hb, hml, hown, hts⟩ (q_isRace l dC dI cT ad E1 H.size a0 hI) (cwV 1 hts (gi_V (in_24 _ (zs4 (zs4 (zs4 (zs0))))) (in_24 _ (zs4 (zs4 (zs4 (zs1 (zs0)))))) (in_24 _ (zs4 (zs4 (zs4 (zs1 (zs1 (zs0))))))) (in_24 _ (zs4 (zs4 (zs4 (zs1 (zs1 (zs1 (zs0)))))))) (in_24 _ (zs16 (zs0)))) rfl rfl rfl ⟨rfl, hz_yX13_isRace_1⟩ ⟨Nat.le_of_ble_eq_true rfl, Nat.le_of_ble_eq_true rfl⟩) ⟨HW_bl, va_recv hK hP (ci := 14) (q0 := 0) rfl (hI.ob 0 (Nat.le_of_ble_eq_true rfl) rfl), (HW_wi hP hK (WX_D hD) hS hA hEV)⟩ rfl rfl hl.1 rfl (lv_room (Nat.le_of_ble_eq_true rfl)) dX13_asks_7 ⟨Nat.le_of_ble_eq_true rfl, Nat.le_of_ble_eq_true rfl⟩) hS hP (fun r3 H locs hw hP hS => ?_)
  rcases hw with hw | hw
  · -- isRace, case 0
    obtain ⟨rfl, f4, f5⟩ := hw
    have i6 : 0 ≤ (xi (E 0) 46).toInt ∧ (xi (E 0) 46).toInt ≤ 20 := (show 0 ≤ (xi (E 0) 46).toInt ∧ (xi (E 0) 46).toInt ≤ 20 from hI0.iv 0 (Nat.le_of_ble_eq_true rfl) rfl (Nat.le_of_ble_eq_true rfl) rfl)
    try rw [hKp.ei 0 46 rfl] at f4
    refine lv_if_eq (tgt := 43) hx hb dX13_asks_10 (by decide) (fun c7 => ?_) (fun c7 => ?_)
    · --10 taken
      exact absurd c7 (by decide)
    · --10 not
      refine lv_aload_n hx hb dX13_asks_13 rfl (lv_at hl 0 rfl) ?_
      refine lv_iload_n hx hb dX13_asks_14 rfl (lv_at hl 2 rfl) ?_
      refine th_ri (va_runV (As := [.int a1]) (rest := []) ⟨hx, hb, hml, hown, hts⟩ (q_isBoat l dC dI cT ad E1 H.size a1 hI) (cwV 1 hts (gi_V (in_24 _ (zs16 (zs1 (zs1 (zs0))))) (in_24 _ (zs16 (zs1 (zs1 (zs1 (zs0)))))) (in_24 _ (zs16 (zs4 (zs0)))) (in_24 _ (zs4 (zs4 (zs4 (zs1 (zs1 (zs1 (zs0)))))))) (in_24 _ (zs16 (zs4 (zs1 (zs0)))))) rfl rfl rfl ⟨rfl, hz_yX13_isBoat_1⟩ ⟨Nat.le_of_ble_eq_true rfl, Nat.le_of_ble_eq_true rfl⟩) ⟨HW_bl, va_recv hK hP (ci := 14) (q0 := 0) rfl (hI.ob 0 (Nat.le_of_ble_eq_true rfl) rfl), (HW_wi hP hK (WX_D hD) hS hA hEV)⟩ rfl rfl hl.1 rfl (lv_room (Nat.le_of_ble_eq_true rfl)) dX13_asks_15 ⟨Nat.le_of_ble_eq_true rfl, Nat.le_of_ble_eq_true rfl⟩) hS hP (fun r8 H locs hw hP hS => ?_)
      rcases hw with hw | hw
      · -- isBoat, case 0
        obtain ⟨rfl, f9, f10⟩ := hw
        have i11 : 0 ≤ (xi (E 0) 8).toInt ∧ (xi (E 0) 8).toInt ≤ 16 := (show 0 ≤ (xi (E 0) 8).toInt ∧ (xi (E 0) 8).toInt ≤ 16 from hI0.iv 0 (Nat.le_of_ble_eq_true rfl) rfl (Nat.le_of_ble_eq_true rfl) rfl)
        try rw [hKp.ei 0 8 rfl] at f9
        refine lv_if_eq (tgt := 43) hx hb dX13_asks_18 (by decide) (fun c12 => ?_) (fun c12 => ?_)
        · --18 taken
          exact absurd c12 (by decide)
        · --18 not
          refine lv_aload_n hx hb dX13_asks_21 rfl (lv_at hl 0 rfl) ?_
          refine lv_iload_n hx hb dX13_asks_22 rfl (lv_at hl 3 rfl) ?_
          refine th_ri (va_runV (As := [.int a2]) (rest := []) ⟨hx, hb, hml, hown, hts⟩ (q_isKnown l dC dI cT ad E1 H.size a2 hI) (cwV 1 hts (gi_V (in_24 _ (zs16 (zs4 (zs1 (zs1 (zs1 (zs0))))))) (in_24 _ (zs16 (zs4 (zs4 (zs0))))) (in_24 _ (zs16 (zs4 (zs4 (zs1 (zs0)))))) (in_24 _ (zs4 (zs4 (zs4 (zs1 (zs1 (zs1 (zs0)))))))) (in_24 _ (zs16 (zs4 (zs4 (zs1 (zs1 (zs0)))))))) rfl rfl rfl ⟨rfl, hz_yX13_isKnown_1⟩ ⟨Nat.le_of_ble_eq_true rfl, Nat.le_of_ble_eq_true rfl⟩) ⟨HW_bl, va_recv hK hP (ci := 14) (q0 := 0) rfl (hI.ob 0 (Nat.le_of_ble_eq_true rfl) rfl), (HW_wi hP hK (WX_D hD) hS hA hEV)⟩ rfl rfl hl.1 rfl (lv_room (Nat.le_of_ble_eq_true rfl)) dX13_asks_23 ⟨Nat.le_of_ble_eq_true rfl, Nat.le_of_ble_eq_true rfl⟩) hS hP (fun r13 H locs hw hP hS => ?_)
          rcases hw with hw | hw
          · -- isKnown, case 0
            obtain ⟨rfl, f14⟩ := hw
            have i15 : 0 ≤ (xi (E 0) 1).toInt ∧ (xi (E 0) 1).toInt ≤ 400 := (show 0 ≤ (xi (E 0) 1).toInt ∧ (xi (E 0) 1).toInt ≤ 400 from hI0.iv 0 (Nat.le_of_ble_eq_true rfl) rfl (Nat.le_of_ble_eq_true rfl) rfl)
            try rw [hKp.ei 0 1 rfl] at f14
            have t16 : (0 : Int) ≤ a2.toInt := f14.1
            have t17 : a2.toInt ≤ (xi (E 0) 1).toInt := f14.2
            have i18 : 0 ≤ a2.toInt ∧ a2.toInt ≤ 2147483647 := iv_le_r t16 (il_ 0) (iv_all _) (by decide)
            have i19 : 0 ≤ a2.toInt ∧ a2.toInt ≤ 400 := iv_le_l t17 i18 i15 (by decide)
            refine lv_if_eq (tgt := 43) hx hb dX13_asks_26 (by decide) (fun c20 => ?_) (fun c20 => ?_)
            · --26 taken
              exact absurd c20 (by decide)
            · --26 not
              refine lv_aload_n hx hb dX13_asks_29 rfl (lv_at hl 0 rfl) ?_
              refine th_get (ci := 14) (C := RX13) (T := TX13) (N := 97) (v := .ref (ad 20)) hx hb hts hinX13 hown hK hP hI 0 (Nat.le_of_ble_eq_true rfl) rfl rfl 34 (Nat.le_of_ble_eq_true rfl) (hts _ (vA_in _ _ (in_24 _ (zs4 (zs4 (zs1 (zs1 (zs1 (zs0))))))))) (fun _ h9 => h9) (hI.fr 0 (Nat.le_of_ble_eq_true rfl) rfl (Nat.le_of_ble_eq_true rfl) 20 rfl) dX13_asks_30 ?_
              refine lv_iload_n hx hb dX13_asks_33 rfl (lv_at hl 1 rfl) ?_
              have n22 : vp_in a0 20 := (iv_in (n := 20) f5 (by decide))
              refine th_iald hx hb hK hP hI 20 (Nat.le_of_ble_eq_true rfl) rfl rfl n22 dX13_asks_34 (fun y21 ey21 => ?_)
              have iy21 : 0 ≤ y21.toInt ∧ y21.toInt ≤ 400 := hI.el 20 (Nat.le_of_ble_eq_true rfl) rfl n22 (fun _ => rfl) ey21
              have ey21 := ey21.trans (hKp.ei 20 _ rfl)
              refine lv_iload_n hx hb dX13_asks_35 rfl (lv_at hl 3 rfl) ?_
              refine lv_icmp_gt (tgt := 43) hx hb dX13_asks_36 (by decide) (fun c23 => ?_) (fun c23 => ?_)
              · --36 taken
                have t24 : a2.toInt < y21.toInt := ti_lt c23
                have i25 : 0 ≤ a2.toInt ∧ a2.toInt ≤ 399 := iv_lt_l t24 i19 iy21 (by decide)
                have i26 : 1 ≤ y21.toInt ∧ y21.toInt ≤ 400 := iv_lt_r t24 i19 iy21 (by decide)
                refine lv_iconst (v := 0) hx hb dX13_asks_43 (by decide) ?_
                rw [hQ]
                exact W.zret (v := 0) hx hb hr rfl (fun t ht hW => ⟨⟨0, E1, rfl, ⟨hI, hKp, Or.inr (⟨rfl, by have h9 : a0.toInt.toNat = a0.toNatClampNeg := rfl; rw [h9, ← ey21]; omega⟩)⟩, by show va_P (dC, dI) vwCl (WX 72 ad E1) t.heap; rw [ht]; exact hP⟩, hS.F ht⟩) hS.2.2 dX13_asks_44
              · --36 not
                have t27 : y21.toInt ≤ a2.toInt := ti_nlt c23
                refine lv_iconst (v := 1) hx hb dX13_asks_39 (by decide) ?_
                refine lv_goto (tgt := 44) hx hb dX13_asks_40 (by decide) ?_
                rw [hQ]
                exact W.zret (v := 1) hx hb hr rfl (fun t ht hW => ⟨⟨1, E1, rfl, ⟨hI, hKp, Or.inl ⟨rfl, by have h9 : a0.toInt.toNat = a0.toNatClampNeg := rfl; rw [h9, ← ey21]; omega, f5, f10, i19⟩⟩, by show va_P (dC, dI) vwCl (WX 72 ad E1) t.heap; rw [ht]; exact hP⟩, hS.F ht⟩) hS.2.2 dX13_asks_44
          · -- isKnown, case 1
            obtain ⟨rfl, f28⟩ := hw
            have i29 : 0 ≤ (xi (E 0) 1).toInt ∧ (xi (E 0) 1).toInt ≤ 400 := (show 0 ≤ (xi (E 0) 1).toInt ∧ (xi (E 0) 1).toInt ≤ 400 from hI0.iv 0 (Nat.le_of_ble_eq_true rfl) rfl (Nat.le_of_ble_eq_true rfl) rfl)
            try rw [hKp.ei 0 1 rfl] at f28
            have t30 : ¬ ((0 : Int) ≤ a2.toInt ∧ a2.toInt ≤ (xi (E 0) 1).toInt) := f28
            refine lv_if_eq (tgt := 43) hx hb dX13_asks_26 (by decide) (fun c31 => ?_) (fun c31 => ?_)
            · --26 taken
              refine lv_iconst (v := 0) hx hb dX13_asks_43 (by decide) ?_
              rw [hQ]
              exact W.zret (v := 0) hx hb hr rfl (fun t ht hW => ⟨⟨0, E1, rfl, ⟨hI, hKp, Or.inr (⟨rfl, by have h8 := ln_0; all_goals omega⟩)⟩, by show va_P (dC, dI) vwCl (WX 72 ad E1) t.heap; rw [ht]; exact hP⟩, hS.F ht⟩) hS.2.2 dX13_asks_44
            · --26 not
              exact absurd c31 (by decide)
      · -- isBoat, case 1
        obtain ⟨rfl, f32⟩ := hw
        have i33 : 0 ≤ (xi (E 0) 8).toInt ∧ (xi (E 0) 8).toInt ≤ 16 := (show 0 ≤ (xi (E 0) 8).toInt ∧ (xi (E 0) 8).toInt ≤ 16 from hI0.iv 0 (Nat.le_of_ble_eq_true rfl) rfl (Nat.le_of_ble_eq_true rfl) rfl)
        try rw [hKp.ei 0 8 rfl] at f32
        refine lv_if_eq (tgt := 43) hx hb dX13_asks_18 (by decide) (fun c34 => ?_) (fun c34 => ?_)
        · --18 taken
          refine lv_iconst (v := 0) hx hb dX13_asks_43 (by decide) ?_
          rw [hQ]
          exact W.zret (v := 0) hx hb hr rfl (fun t ht hW => ⟨⟨0, E1, rfl, ⟨hI, hKp, Or.inr (⟨rfl, by have h8 := ln_0; all_goals omega⟩)⟩, by show va_P (dC, dI) vwCl (WX 72 ad E1) t.heap; rw [ht]; exact hP⟩, hS.F ht⟩) hS.2.2 dX13_asks_44
        · --18 not
          exact absurd c34 (by decide)
  · -- isRace, case 1
    obtain ⟨rfl, f35⟩ := hw
    have i36 : 0 ≤ (xi (E 0) 46).toInt ∧ (xi (E 0) 46).toInt ≤ 20 := (show 0 ≤ (xi (E 0) 46).toInt ∧ (xi (E 0) 46).toInt ≤ 20 from hI0.iv 0 (Nat.le_of_ble_eq_true rfl) rfl (Nat.le_of_ble_eq_true rfl) rfl)
    try rw [hKp.ei 0 46 rfl] at f35
    refine lv_if_eq (tgt := 43) hx hb dX13_asks_10 (by decide) (fun c37 => ?_) (fun c37 => ?_)
    · --10 taken
      refine lv_iconst (v := 0) hx hb dX13_asks_43 (by decide) ?_
      rw [hQ]
      exact W.zret (v := 0) hx hb hr rfl (fun t ht hW => ⟨⟨0, E1, rfl, ⟨hI, hKp, Or.inr (⟨rfl, by have h8 := ln_0; all_goals omega⟩)⟩, by show va_P (dC, dI) vwCl (WX 72 ad E1) t.heap; rw [ht]; exact hP⟩, hS.F ht⟩) hS.2.2 dX13_asks_44
    · --10 not
      exact absurd c37 (by decide)
def v_asksEntry : List Cond := .code yX13_asksEntry cX13_asksEntry 4 (some .boolean) :: vA
abbrev rm_asksEntry : Room := { frames := 3, cells := 0, slots := 0, locals := 120 }
def w_asksEntry : Nat → Nat → Bool := wl [] [(0, 0)]
set_option maxHeartbeats 4000000 in
set_option maxRecDepth 100000 in
theorem q_asksEntry (l : Launch) (dC : Nat → ClassId) (dI : Nat → Nat → Nat) (cT : Nat → ClassId) (ad : Nat → Nat) (E : Nat → va_E) (sz : Nat) (a0 : Int32) (a1 : Int32) (a2 : Int32) (hI0 : IX cT shM spM 72 ad E)  : Met l yX13_asksEntry v_asksEntry rm_asksEntry (va_Pc [.ref (ad 0), .int a0, .int a1, .int a2] (HW dC dI (TYM cT) 72 ad E sz)) (va_Qi (S := Nat → va_E) (fun r u => IX cT shM spM 72 ad u ∧ Kp w_asksEntry E u ∧ ((r = 1 ∧ (((0 ≤ a0.toInt ∧ a0.toInt < (xi (E 0) 46).toInt) ∧ (0 ≤ a1.toInt ∧ a1.toInt < (xi (E 0) 8).toInt) ∧ (0 ≤ a2.toInt ∧ a2.toInt ≤ (xi (E 0) 1).toInt) ∧ (xi (E 20) a0.toInt.toNat).toInt ≤ a2.toInt) ∧ (xi (E 21) (16 * a0.toInt + a1.toInt).toNat).toInt ≤ a2.toInt) ∧ (0 ≤ a0.toInt ∧ a0.toInt ≤ 19) ∧ (0 ≤ a1.toInt ∧ a1.toInt ≤ 15) ∧ (0 ≤ a2.toInt ∧ a2.toInt ≤ 400)) ∨ (r = 0 ∧ (¬ (((0 ≤ a0.toInt ∧ a0.toInt < (xi (E 0) 46).toInt) ∧ (0 ≤ a1.toInt ∧ a1.toInt < (xi (E 0) 8).toInt) ∧ (0 ≤ a2.toInt ∧ a2.toInt ≤ (xi (E 0) 1).toInt) ∧ (xi (E 20) a0.toInt.toNat).toInt ≤ a2.toInt) ∧ (xi (E 21) (16 * a0.toInt + a1.toInt).toNat).toInt ≤ a2.toInt))))) (HB dC dI 72 ad) (va_A (WX 72 ad E) sz)) 0 0 (va_A (WX 72 ad E) sz) := by
  refine Met.ofW (cc := cX13_asksEntry) (maxL := 4) (ret := (some .boolean)) (by decide) rfl ?_
  intro p e s m args below meth c s₁ B hml hv
  obtain ⟨hargs, hsz, hP, hK, hD0, hEV⟩ := hv
  subst hsz
  have hx := B.exec
  have hb := B.bytes
  have hr := B.returns
  have hts := atoms_spec (ws := v_asksEntry) B.pre
  have hown : s.vm.findClass RX13 = some m.cls := findClass_of_methodNamed B.named
  have hlocks := B.notSynchronized
  have hinX13 : ∀ w ∈ u_ws RX13 TX13 97, w ∈ v_asksEntry := fun w h => vA_in _ w (in_X13 w h)
  generalize hAe : va_A (WX 72 ad E) s.heap.size = A at hEV ⊢
  have hA : ∀ q : Nat, s.heap.size ≤ q → A q := fun q h => by rw [← hAe]; exact Or.inr h
  have hD : va_D A (WX 72 ad E) := by rw [← hAe]; exact hD0.self
  have hS : va_S A s.heap s.heap [] := va_S.rf
  have hI := hI0
  have hKp : Kp w_asksEntry E E := Kp.rf
  have hl := lv_entry ([.ref (ad 0), .int a0, .int a1, .int a2]) (n := 4) (Nat.le_of_ble_eq_true rfl)
  obtain ⟨Q, hQ⟩ : ∃ Q, Q = MQ below (va_Qi (S := Nat → va_E) (fun r u => IX cT shM spM 72 ad u ∧ Kp w_asksEntry E u ∧ ((r = 1 ∧ (((0 ≤ a0.toInt ∧ a0.toInt < (xi (E 0) 46).toInt) ∧ (0 ≤ a1.toInt ∧ a1.toInt < (xi (E 0) 8).toInt) ∧ (0 ≤ a2.toInt ∧ a2.toInt ≤ (xi (E 0) 1).toInt) ∧ (xi (E 20) a0.toInt.toNat).toInt ≤ a2.toInt) ∧ (xi (E 21) (16 * a0.toInt + a1.toInt).toNat).toInt ≤ a2.toInt) ∧ (0 ≤ a0.toInt ∧ a0.toInt ≤ 19) ∧ (0 ≤ a1.toInt ∧ a1.toInt ≤ 15) ∧ (0 ≤ a2.toInt ∧ a2.toInt ≤ 400)) ∨ (r = 0 ∧ (¬ (((0 ≤ a0.toInt ∧ a0.toInt < (xi (E 0) 46).toInt) ∧ (0 ≤ a1.toInt ∧ a1.toInt < (xi (E 0) 8).toInt) ∧ (0 ≤ a2.toInt ∧ a2.toInt ≤ (xi (E 0) 1).toInt) ∧ (xi (E 20) a0.toInt.toNat).toInt ≤ a2.toInt) ∧ (xi (E 21) (16 * a0.toInt + a1.toInt).toNat).toInt ≤ a2.toInt))))) (HB dC dI 72 ad) (A)) args s 0 0 (A) := ⟨_, rfl⟩
  rw [← hQ, show entryFrame m args 4 = _ from (congrArg (fun z => entryFrame m z 4) hargs).trans (lg_entry_eq _ _ _)]
  generalize (lg_sl ([.ref (ad 0), .int a0, .int a1, .int a2]) ++ List.replicate (4 - (lg_sl ([.ref (ad 0), .int a0, .int a1, .int a2])).length) Slot.unset).toArray = ls at hl ⊢
  have hl : lv_has ls 4 [(0, .ref (ad 0)), (1, .int a0), (2, .int a1), (3, .int a2)] := hl
  refine lv_aload_n hx hb dX13_asksEntry_0 rfl (lv_at hl 0 rfl) ?_
  refine lv_iload_n hx hb dX13_asksEntry_1 rfl (lv_at hl 1 rfl) ?_
  refine lv_iload_n hx hb dX13_asksEntry_2 rfl (lv_at hl 2 rfl) ?_
  refine lv_iload_n hx hb dX13_asksEntry_3 rfl (lv_at hl 3 rfl) ?_
  refine th_i (va_runV (As := [.int a0, .int a1, .int a2]) (rest := []) ⟨hx, hb, hml, hown, hts⟩ (q_asks l dC dI cT ad E s.heap.size a0 a1 a2 hI) (cwV 3 hts (gi_V (in_24 _ (zs16 (zs16 (zs0)))) (in_24 _ (zs16 (zs16 (zs1 (zs0))))) (in_24 _ (zs16 (zs16 (zs1 (zs1 (zs0)))))) (in_24 _ (zs4 (zs4 (zs4 (zs1 (zs1 (zs1 (zs0)))))))) (in_24 _ (zs4 (zs4 (zs1 (zs0)))))) rfl rfl rfl ⟨rfl, hz_yX13_asks_3⟩ ⟨Nat.le_of_ble_eq_true rfl, Nat.le_of_ble_eq_true rfl⟩) ⟨HW_bl, va_recv hK hP (ci := 14) (q0 := 0) rfl (hI.ob 0 (Nat.le_of_ble_eq_true rfl) rfl), (HW_wi hP hK (WX_D hD) hS hA hEV)⟩ rfl rfl hl.1 rfl (lv_room (Nat.le_of_ble_eq_true rfl)) dX13_asksEntry_4 ⟨Nat.le_of_ble_eq_true rfl, Nat.le_of_ble_eq_true rfl⟩) (WX_D hD) hS hA (fun r1 E2 H locs hw hP hS => ?_)
  obtain ⟨hI, kq3, hw⟩ := hw
  have hKb := hKp
  have hKp := hKp.tr kq3 (wl_sub rfl rfl)
  rcases hw with hw | hw
  · -- asks, case 0
    obtain ⟨rfl, f4, f5, f6, f7⟩ := hw
    have i8 : 0 ≤ (xi (E 0) 46).toInt ∧ (xi (E 0) 46).toInt ≤ 20 := (show 0 ≤ (xi (E 0) 46).toInt ∧ (xi (E 0) 46).toInt ≤ 20 from hI0.iv 0 (Nat.le_of_ble_eq_true rfl) rfl (Nat.le_of_ble_eq_true rfl) rfl)
    have i9 : 0 ≤ (xi (E 0) 8).toInt ∧ (xi (E 0) 8).toInt ≤ 16 := (show 0 ≤ (xi (E 0) 8).toInt ∧ (xi (E 0) 8).toInt ≤ 16 from hI0.iv 0 (Nat.le_of_ble_eq_true rfl) rfl (Nat.le_of_ble_eq_true rfl) rfl)
    have i10 : 0 ≤ (xi (E 0) 1).toInt ∧ (xi (E 0) 1).toInt ≤ 400 := (show 0 ≤ (xi (E 0) 1).toInt ∧ (xi (E 0) 1).toInt ≤ 400 from hI0.iv 0 (Nat.le_of_ble_eq_true rfl) rfl (Nat.le_of_ble_eq_true rfl) rfl)
    refine lv_if_eq (tgt := 24) hx hb dX13_asksEntry_7 (by decide) (fun c11 => ?_) (fun c11 => ?_)
    · --7 taken
      exact absurd c11 (by decide)
    · --7 not
      refine lv_aload_n hx hb dX13_asksEntry_10 rfl (lv_at hl 0 rfl) ?_
      refine lv_iload_n hx hb dX13_asksEntry_11 rfl (lv_at hl 1 rfl) ?_
      refine lv_iload_n hx hb dX13_asksEntry_12 rfl (lv_at hl 2 rfl) ?_
      refine lv_iload_n hx hb dX13_asksEntry_13 rfl (lv_at hl 3 rfl) ?_
      refine th_ri (va_runV (As := [.int a0, .int a1, .int a2]) (rest := []) ⟨hx, hb, hml, hown, hts⟩ (q_isEntered l dC dI cT ad E2 H.size a0 a1 a2 hI f5 f6) (cwV 3 hts (gi_V (in_24 _ (zs16 (zs16 (zs1 (zs1 (zs1 (zs0))))))) (in_24 _ (zs16 (zs16 (zs4 (zs0))))) (in_24 _ (zs16 (zs16 (zs4 (zs1 (zs0)))))) (in_24 _ (zs4 (zs4 (zs4 (zs1 (zs1 (zs1 (zs0)))))))) (in_24 _ (zs16 (zs16 (zs4 (zs1 (zs1 (zs0)))))))) rfl rfl rfl ⟨rfl, hz_yX13_isEntered_3⟩ ⟨Nat.le_of_ble_eq_true rfl, Nat.le_of_ble_eq_true rfl⟩) ⟨HW_bl, va_recv hK hP (ci := 14) (q0 := 0) rfl (hI.ob 0 (Nat.le_of_ble_eq_true rfl) rfl), (HW_wi hP hK (WX_D hD) hS hA hEV)⟩ rfl rfl hl.1 rfl (lv_room (Nat.le_of_ble_eq_true rfl)) dX13_asksEntry_14 ⟨Nat.le_of_ble_eq_true rfl, Nat.le_of_ble_eq_true rfl⟩) hS hP (fun r12 H locs hw hP hS => ?_)
      rcases hw with hw | hw
      · -- isEntered, case 0
        obtain ⟨rfl, f13⟩ := hw
        try rw [hKp.ef 21 (fun _ => rfl)] at f13
        refine lv_if_eq (tgt := 24) hx hb dX13_asksEntry_17 (by decide) (fun c14 => ?_) (fun c14 => ?_)
        · --17 taken
          exact absurd c14 (by decide)
        · --17 not
          refine lv_iconst (v := 1) hx hb dX13_asksEntry_20 (by decide) ?_
          refine lv_goto (tgt := 25) hx hb dX13_asksEntry_21 (by decide) ?_
          rw [hQ]
          exact W.zret (v := 1) hx hb hr rfl (fun t ht hW => ⟨⟨1, E2, rfl, ⟨hI, hKp, Or.inl ⟨rfl, by have h8 := ln_1; all_goals omega, f5, f6, f7⟩⟩, by show va_P (dC, dI) vwCl (WX 72 ad E2) t.heap; rw [ht]; exact hP⟩, hS.F ht⟩) hS.2.2 dX13_asksEntry_25
      · -- isEntered, case 1
        obtain ⟨rfl, f15⟩ := hw
        try rw [hKp.ef 21 (fun _ => rfl)] at f15
        refine lv_if_eq (tgt := 24) hx hb dX13_asksEntry_17 (by decide) (fun c16 => ?_) (fun c16 => ?_)
        · --17 taken
          refine lv_iconst (v := 0) hx hb dX13_asksEntry_24 (by decide) ?_
          rw [hQ]
          exact W.zret (v := 0) hx hb hr rfl (fun t ht hW => ⟨⟨0, E2, rfl, ⟨hI, hKp, Or.inr (⟨rfl, by have h8 := ln_0; all_goals omega⟩)⟩, by show va_P (dC, dI) vwCl (WX 72 ad E2) t.heap; rw [ht]; exact hP⟩, hS.F ht⟩) hS.2.2 dX13_asksEntry_25
        · --17 not
          exact absurd c16 (by decide)
  · -- asks, case 1
    obtain ⟨rfl, f17⟩ := hw
    have i18 : 0 ≤ (xi (E 0) 46).toInt ∧ (xi (E 0) 46).toInt ≤ 20 := (show 0 ≤ (xi (E 0) 46).toInt ∧ (xi (E 0) 46).toInt ≤ 20 from hI0.iv 0 (Nat.le_of_ble_eq_true rfl) rfl (Nat.le_of_ble_eq_true rfl) rfl)
    have i19 : 0 ≤ (xi (E 0) 8).toInt ∧ (xi (E 0) 8).toInt ≤ 16 := (show 0 ≤ (xi (E 0) 8).toInt ∧ (xi (E 0) 8).toInt ≤ 16 from hI0.iv 0 (Nat.le_of_ble_eq_true rfl) rfl (Nat.le_of_ble_eq_true rfl) rfl)
    have i20 : 0 ≤ (xi (E 0) 1).toInt ∧ (xi (E 0) 1).toInt ≤ 400 := (show 0 ≤ (xi (E 0) 1).toInt ∧ (xi (E 0) 1).toInt ≤ 400 from hI0.iv 0 (Nat.le_of_ble_eq_true rfl) rfl (Nat.le_of_ble_eq_true rfl) rfl)
    refine lv_if_eq (tgt := 24) hx hb dX13_asksEntry_7 (by decide) (fun c21 => ?_) (fun c21 => ?_)
    · --7 taken
      refine lv_iconst (v := 0) hx hb dX13_asksEntry_24 (by decide) ?_
      rw [hQ]
      exact W.zret (v := 0) hx hb hr rfl (fun t ht hW => ⟨⟨0, E2, rfl, ⟨hI, hKp, Or.inr (⟨rfl, by have h8 := ln_0; all_goals omega⟩)⟩, by show va_P (dC, dI) vwCl (WX 72 ad E2) t.heap; rw [ht]; exact hP⟩, hS.F ht⟩) hS.2.2 dX13_asksEntry_25
    · --7 not
      exact absurd c21 (by decide)
def v_farFrom : List Cond := .code yX13_farFrom cX13_farFrom 6 (some .int) :: vA
abbrev rm_farFrom : Room := { frames := 1, cells := 0, slots := 0, locals := 40 }
set_option maxHeartbeats 4000000 in
set_option maxRecDepth 100000 in
theorem q_farFrom (l : Launch) (dC : Nat → ClassId) (dI : Nat → Nat → Nat) (cT : Nat → ClassId) (ad : Nat → Nat) (E : Nat → va_E) (sz : Nat) (a0 : Int32) (a1 : Int32) (a2 : Int32) (hI0 : IX cT shM spM 72 ad E) (hh0 : 0 ≤ a0.toInt ∧ a0.toInt ≤ 199) : Met l yX13_farFrom v_farFrom rm_farFrom (va_Pc [.ref (ad 0), .int a0, .int a1, .int a2] (HW dC dI (TYM cT) 72 ad E sz)) (va_Qi (S := Unit) (fun r _ => True) (fun _ _ => True) (fun _ => False)) 0 0 (fun _ => False) := by
  refine Met.ofW (cc := cX13_farFrom) (maxL := 6) (ret := (some .int)) (by decide) rfl ?_
  intro p e s m args below meth c s₁ B hml hv
  obtain ⟨hargs, hsz, hP, hK, hD0, hEV⟩ := hv
  subst hsz
  have hx := B.exec
  have hb := B.bytes
  have hr := B.returns
  have hts := atoms_spec (ws := v_farFrom) B.pre
  have hown : s.vm.findClass RX13 = some m.cls := findClass_of_methodNamed B.named
  have hlocks := B.notSynchronized
  have hinX13 : ∀ w ∈ u_ws RX13 TX13 97, w ∈ v_farFrom := fun w h => vA_in _ w (in_X13 w h)
  have hS : va_S (fun _ : Nat => False) s.heap s.heap [] := va_S.rf
  have hD := hD0
  have hI := hI0
  have hKp : Kp (wl [] []) E E := Kp.rf
  have hl := lv_entry ([.ref (ad 0), .int a0, .int a1, .int a2]) (n := 6) (Nat.le_of_ble_eq_true rfl)
  obtain ⟨Q, hQ⟩ : ∃ Q, Q = MQ below (va_Qi (S := Unit) (fun r _ => True) (fun _ _ => True) (fun _ => False)) args s 0 0 (fun _ => False) := ⟨_, rfl⟩
  rw [← hQ, show entryFrame m args 6 = _ from (congrArg (fun z => entryFrame m z 6) hargs).trans (lg_entry_eq _ _ _)]
  generalize (lg_sl ([.ref (ad 0), .int a0, .int a1, .int a2]) ++ List.replicate (6 - (lg_sl ([.ref (ad 0), .int a0, .int a1, .int a2])).length) Slot.unset).toArray = ls at hl ⊢
  have hl : lv_has ls 6 [(0, .ref (ad 0)), (1, .int a0), (2, .int a1), (3, .int a2)] := hl
  refine lv_iconst (v := 0) hx hb dX13_farFrom_0 (by decide) ?_
  refine lv_aload_n hx hb dX13_farFrom_1 rfl (lv_at hl 0 rfl) ?_
  refine th_get (ci := 14) (C := RX13) (T := TX13) (N := 97) (v := .ref (ad 41)) hx hb hts hinX13 hown hK hP hI 0 (Nat.le_of_ble_eq_true rfl) rfl rfl 59 (Nat.le_of_ble_eq_true rfl) (hts _ (vA_in _ _ (in_25 _ (zs16 (zs4 (zs4 (zs1 (zs0)))))))) (fun _ h9 => h9) (hI.fr 0 (Nat.le_of_ble_eq_true rfl) rfl (Nat.le_of_ble_eq_true rfl) 41 rfl) dX13_farFrom_2 ?_
  refine lv_iload_n hx hb dX13_farFrom_5 rfl (lv_at hl 1 rfl) ?_
  have n2 : vp_in a0 200 := (iv_in (n := 200) hh0 (by decide))
  refine th_iald hx hb hK hP hI 41 (Nat.le_of_ble_eq_true rfl) rfl rfl n2 dX13_farFrom_6 (fun y1 ey1 => ?_)
  have iy1 : 0 ≤ y1.toInt ∧ y1.toInt ≤ 99 := hI.el 41 (Nat.le_of_ble_eq_true rfl) rfl n2 (fun _ => rfl) ey1
  have ey1 := ey1.trans (hKp.ei 41 _ rfl)
  refine lv_iload_n hx hb dX13_farFrom_7 rfl (lv_at hl 2 rfl) ?_
  refine lv_isub hx hb dX13_farFrom_8 ?_
  refine lv_topi (fun y3 ey3 => ?_)
  refine lv_iload_n hx hb dX13_farFrom_9 rfl (lv_at hl 2 rfl) ?_
  refine lv_aload_n hx hb dX13_farFrom_10 rfl (lv_at hl 0 rfl) ?_
  refine th_get (ci := 14) (C := RX13) (T := TX13) (N := 97) (v := .ref (ad 41)) hx hb hts hinX13 hown hK hP hI 0 (Nat.le_of_ble_eq_true rfl) rfl rfl 59 (Nat.le_of_ble_eq_true rfl) (hts _ (vA_in _ _ (in_25 _ (zs16 (zs4 (zs4 (zs1 (zs0)))))))) (fun _ h9 => h9) (hI.fr 0 (Nat.le_of_ble_eq_true rfl) rfl (Nat.le_of_ble_eq_true rfl) 41 rfl) dX13_farFrom_11 ?_
  refine lv_iload_n hx hb dX13_farFrom_14 rfl (lv_at hl 1 rfl) ?_
  have n5 : vp_in a0 200 := (iv_in (n := 200) hh0 (by decide))
  refine th_iald hx hb hK hP hI 41 (Nat.le_of_ble_eq_true rfl) rfl rfl n5 dX13_farFrom_15 (fun y4 ey4 => ?_)
  have iy4 : 0 ≤ y4.toInt ∧ y4.toInt ≤ 99 := hI.el 41 (Nat.le_of_ble_eq_true rfl) rfl n5 (fun _ => rfl) ey4
  have ey4 := ey4.trans (hKp.ei 41 _ rfl)
  refine lv_isub hx hb dX13_farFrom_16 ?_
  refine lv_topi (fun y6 ey6 => ?_)
  refine lv_aload_n hx hb dX13_farFrom_17 rfl (lv_at hl 0 rfl) ?_
  refine th_get (ci := 14) (C := RX13) (T := TX13) (N := 97) (v := .ref (ad 43)) hx hb hts hinX13 hown hK hP hI 0 (Nat.le_of_ble_eq_true rfl) rfl rfl 61 (Nat.le_of_ble_eq_true rfl) (hts _ (vA_in _ _ (in_25 _ (zs16 (zs4 (zs4 (zs1 (zs1 (zs0))))))))) (fun _ h9 => h9) (hI.fr 0 (Nat.le_of_ble_eq_true rfl) rfl (Nat.le_of_ble_eq_true rfl) 43 rfl) dX13_farFrom_18 ?_
  refine lv_iload_n hx hb dX13_farFrom_21 rfl (lv_at hl 1 rfl) ?_
  have n8 : vp_in a0 200 := (iv_in (n := 200) hh0 (by decide))
  refine th_iald hx hb hK hP hI 43 (Nat.le_of_ble_eq_true rfl) rfl rfl n8 dX13_farFrom_22 (fun y7 ey7 => ?_)
  have iy7 : 0 ≤ y7.toInt ∧ y7.toInt ≤ 3 := hI.el 43 (Nat.le_of_ble_eq_true rfl) rfl n8 (fun _ => rfl) ey7
  have ey7 := ey7.trans (hKp.ei 43 _ rfl)
  refine lv_isub hx hb dX13_farFrom_23 ?_
  refine lv_topi (fun y9 ey9 => ?_)
  refine va_mmax hx hb (by rw [hml]; exact hl.1.symm) hown (hts _ (vA_in _ _ (in_25 _ (zs16 (zs4 (zs4 (zs1 (zs1 (zs1 (zs0)))))))))) (hts _ (vA_in _ _ (in_0 _ (zs16 (zs16 (zs0)))))) (hts _ (vA_in _ _ (in_0 _ (zs16 (zs16 (zs1 (zs0))))))) (hts _ (vA_in _ _ (in_0 _ (zs16 (zs16 (zs1 (zs1 (zs0)))))))) (Nat.le_of_ble_eq_true rfl) (Nat.le_of_ble_eq_true rfl) (Nat.le_of_ble_eq_true rfl) (Nat.le_of_ble_eq_true rfl) dX13_farFrom_24 ?_
  refine lv_topi (fun y10 ey10 => ?_)
  obtain ⟨ty10, iy10⟩ := ti_max (e := (-2147483648)) (f := 2147483647) (iv_all _) (iv_all _) ey10 (by decide)
  have iy10 : -2147483648 ≤ y10.toInt ∧ y10.toInt ≤ 2147483647 := iy10
  refine va_mmax hx hb (by rw [hml]; exact hl.1.symm) hown (hts _ (vA_in _ _ (in_25 _ (zs16 (zs4 (zs4 (zs1 (zs1 (zs1 (zs0)))))))))) (hts _ (vA_in _ _ (in_0 _ (zs16 (zs16 (zs0)))))) (hts _ (vA_in _ _ (in_0 _ (zs16 (zs16 (zs1 (zs0))))))) (hts _ (vA_in _ _ (in_0 _ (zs16 (zs16 (zs1 (zs1 (zs0)))))))) (Nat.le_of_ble_eq_true rfl) (Nat.le_of_ble_eq_true rfl) (Nat.le_of_ble_eq_true rfl) (Nat.le_of_ble_eq_true rfl) dX13_farFrom_27 ?_
  have z0 := ln_0
  refine lv_topi (fun y11 ey11 => ?_)
  obtain ⟨ty11, iy11⟩ := ti_max (e := 0) (f := 2147483647) ln_0 iy10 ey11 (by decide)
  have iy11 : 0 ≤ y11.toInt ∧ y11.toInt ≤ 2147483647 := iy11
  refine lv_istore (lv' := [(4, .int y11), (0, .ref (ad 0)), (1, .int a0), (2, .int a1), (3, .int a2)]) hx hb dX13_farFrom_30 hl (by decide) rfl (fun ls hl => ?_)
  refine lv_iconst (v := 0) hx hb dX13_farFrom_32 (by decide) ?_
  refine lv_aload_n hx hb dX13_farFrom_33 rfl (lv_at hl 1 rfl) ?_
  refine th_get (ci := 14) (C := RX13) (T := TX13) (N := 97) (v := .ref (ad 42)) hx hb hts hinX13 hown hK hP hI 0 (Nat.le_of_ble_eq_true rfl) rfl rfl 60 (Nat.le_of_ble_eq_true rfl) (hts _ (vA_in _ _ (in_25 _ (zs16 (zs4 (zs4 (zs4 (zs0)))))))) (fun _ h9 => h9) (hI.fr 0 (Nat.le_of_ble_eq_true rfl) rfl (Nat.le_of_ble_eq_true rfl) 42 rfl) dX13_farFrom_34 ?_
  refine lv_iload_n hx hb dX13_farFrom_37 rfl (lv_at hl 2 rfl) ?_
  have n13 : vp_in a0 200 := (iv_in (n := 200) hh0 (by decide))
  refine th_iald hx hb hK hP hI 42 (Nat.le_of_ble_eq_true rfl) rfl rfl n13 dX13_farFrom_38 (fun y12 ey12 => ?_)
  have iy12 : 0 ≤ y12.toInt ∧ y12.toInt ≤ 99 := hI.el 42 (Nat.le_of_ble_eq_true rfl) rfl n13 (fun _ => rfl) ey12
  have ey12 := ey12.trans (hKp.ei 42 _ rfl)
  refine lv_iload_n hx hb dX13_farFrom_39 rfl (lv_at hl 4 rfl) ?_
  refine lv_isub hx hb dX13_farFrom_40 ?_
  refine lv_topi (fun y14 ey14 => ?_)
  refine lv_iload_n hx hb dX13_farFrom_41 rfl (lv_at hl 4 rfl) ?_
  refine lv_aload_n hx hb dX13_farFrom_42 rfl (lv_at hl 1 rfl) ?_
  refine th_get (ci := 14) (C := RX13) (T := TX13) (N := 97) (v := .ref (ad 42)) hx hb hts hinX13 hown hK hP hI 0 (Nat.le_of_ble_eq_true rfl) rfl rfl 60 (Nat.le_of_ble_eq_true rfl) (hts _ (vA_in _ _ (in_25 _ (zs16 (zs4 (zs4 (zs4 (zs0)))))))) (fun _ h9 => h9) (hI.fr 0 (Nat.le_of_ble_eq_true rfl) rfl (Nat.le_of_ble_eq_true rfl) 42 rfl) dX13_farFrom_43 ?_
  refine lv_iload_n hx hb dX13_farFrom_46 rfl (lv_at hl 2 rfl) ?_
  have n16 : vp_in a0 200 := (iv_in (n := 200) hh0 (by decide))
  refine th_iald hx hb hK hP hI 42 (Nat.le_of_ble_eq_true rfl) rfl rfl n16 dX13_farFrom_47 (fun y15 ey15 => ?_)
  have iy15 : 0 ≤ y15.toInt ∧ y15.toInt ≤ 99 := hI.el 42 (Nat.le_of_ble_eq_true rfl) rfl n16 (fun _ => rfl) ey15
  have ey15 := ey15.trans (hKp.ei 42 _ rfl)
  refine lv_isub hx hb dX13_farFrom_48 ?_
  refine lv_topi (fun y17 ey17 => ?_)
  refine lv_aload_n hx hb dX13_farFrom_49 rfl (lv_at hl 1 rfl) ?_
  refine th_get (ci := 14) (C := RX13) (T := TX13) (N := 97) (v := .ref (ad 43)) hx hb hts hinX13 hown hK hP hI 0 (Nat.le_of_ble_eq_true rfl) rfl rfl 61 (Nat.le_of_ble_eq_true rfl) (hts _ (vA_in _ _ (in_25 _ (zs16 (zs4 (zs4 (zs1 (zs1 (zs0))))))))) (fun _ h9 => h9) (hI.fr 0 (Nat.le_of_ble_eq_true rfl) rfl (Nat.le_of_ble_eq_true rfl) 43 rfl) dX13_farFrom_50 ?_
  refine lv_iload_n hx hb dX13_farFrom_53 rfl (lv_at hl 2 rfl) ?_
  have n19 : vp_in a0 200 := (iv_in (n := 200) hh0 (by decide))
  refine th_iald hx hb hK hP hI 43 (Nat.le_of_ble_eq_true rfl) rfl rfl n19 dX13_farFrom_54 (fun y18 ey18 => ?_)
  have iy18 : 0 ≤ y18.toInt ∧ y18.toInt ≤ 3 := hI.el 43 (Nat.le_of_ble_eq_true rfl) rfl n19 (fun _ => rfl) ey18
  have ey18 := ey18.trans (hKp.ei 43 _ rfl)
  refine lv_isub hx hb dX13_farFrom_55 ?_
  refine lv_topi (fun y20 ey20 => ?_)
  refine va_mmax hx hb (by rw [hml]; exact hl.1.symm) hown (hts _ (vA_in _ _ (in_25 _ (zs16 (zs4 (zs4 (zs1 (zs1 (zs1 (zs0)))))))))) (hts _ (vA_in _ _ (in_0 _ (zs16 (zs16 (zs0)))))) (hts _ (vA_in _ _ (in_0 _ (zs16 (zs16 (zs1 (zs0))))))) (hts _ (vA_in _ _ (in_0 _ (zs16 (zs16 (zs1 (zs1 (zs0)))))))) (Nat.le_of_ble_eq_true rfl) (Nat.le_of_ble_eq_true rfl) (Nat.le_of_ble_eq_true rfl) (Nat.le_of_ble_eq_true rfl) dX13_farFrom_56 ?_
  refine lv_topi (fun y21 ey21 => ?_)
  obtain ⟨ty21, iy21⟩ := ti_max (e := (-2147483648)) (f := 2147483647) (iv_all _) (iv_all _) ey21 (by decide)
  have iy21 : -2147483648 ≤ y21.toInt ∧ y21.toInt ≤ 2147483647 := iy21
  refine va_mmax hx hb (by rw [hml]; exact hl.1.symm) hown (hts _ (vA_in _ _ (in_25 _ (zs16 (zs4 (zs4 (zs1 (zs1 (zs1 (zs0)))))))))) (hts _ (vA_in _ _ (in_0 _ (zs16 (zs16 (zs0)))))) (hts _ (vA_in _ _ (in_0 _ (zs16 (zs16 (zs1 (zs0))))))) (hts _ (vA_in _ _ (in_0 _ (zs16 (zs16 (zs1 (zs1 (zs0)))))))) (Nat.le_of_ble_eq_true rfl) (Nat.le_of_ble_eq_true rfl) (Nat.le_of_ble_eq_true rfl) (Nat.le_of_ble_eq_true rfl) dX13_farFrom_59 ?_
  refine lv_topi (fun y22 ey22 => ?_)
  obtain ⟨ty22, iy22⟩ := ti_max (e := 0) (f := 2147483647) ln_0 iy21 ey22 (by decide)
  have iy22 : 0 ≤ y22.toInt ∧ y22.toInt ≤ 2147483647 := iy22
  refine lv_istore (lv' := [(5, .int y22), (4, .int y11), (0, .ref (ad 0)), (1, .int a0), (2, .int a1), (3, .int a2)]) hx hb dX13_farFrom_62 hl (by decide) rfl (fun ls hl => ?_)
  refine lv_iload hx hb dX13_farFrom_64 (lv_at hl 1 rfl) ?_
  refine lv_iload hx hb dX13_farFrom_66 (lv_at hl 0 rfl) ?_
  refine va_mmax hx hb (by rw [hml]; exact hl.1.symm) hown (hts _ (vA_in _ _ (in_25 _ (zs16 (zs4 (zs4 (zs1 (zs1 (zs1 (zs0)))))))))) (hts _ (vA_in _ _ (in_0 _ (zs16 (zs16 (zs0)))))) (hts _ (vA_in _ _ (in_0 _ (zs16 (zs16 (zs1 (zs0))))))) (hts _ (vA_in _ _ (in_0 _ (zs16 (zs16 (zs1 (zs1 (zs0)))))))) (Nat.le_of_ble_eq_true rfl) (Nat.le_of_ble_eq_true rfl) (Nat.le_of_ble_eq_true rfl) (Nat.le_of_ble_eq_true rfl) dX13_farFrom_68 ?_
  refine lv_topi (fun y23 ey23 => ?_)
  obtain ⟨ty23, iy23⟩ := ti_max (e := 0) (f := 2147483647) iy11 iy22 ey23 (by decide)
  have iy23 : 0 ≤ y23.toInt ∧ y23.toInt ≤ 2147483647 := iy23
  rw [hQ]
  exact W.iret (v := y23) hx hb hr (fun t ht hW => ⟨⟨y23, (), rfl, trivial, trivial⟩, hS.F ht⟩) hS.2.2 dX13_farFrom_71
def v_clear : List Cond := .code yX13_clear cX13_clear 2 none :: vA
abbrev rm_clear : Room := { frames := 0, cells := 0, slots := 0, locals := 0 }
def w_clear : Nat → Nat → Bool := wl [12] []
set_option maxHeartbeats 4000000 in
set_option maxRecDepth 100000 in
theorem q_clear (l : Launch) (dC : Nat → ClassId) (dI : Nat → Nat → Nat) (cT : Nat → ClassId) (ad : Nat → Nat) (E : Nat → va_E) (sz : Nat)  (hI0 : IX cT shM spM 72 ad E)  : Met l yX13_clear v_clear rm_clear (va_Pc [.ref (ad 0)] (HW dC dI (TYM cT) 72 ad E sz)) (va_Qv (S := Nat → va_E) (fun u => IX cT shM spM 72 ad u ∧ Kp w_clear E u ∧ (True)) (HB dC dI 72 ad) (va_A (WX 72 ad E) sz)) 0 0 (va_A (WX 72 ad E) sz) := by
  refine Met.ofW (cc := cX13_clear) (maxL := 2) (ret := none) (by decide) rfl ?_
  intro p e s m args below meth c s₁ B hml hv
  obtain ⟨hargs, hsz, hP, hK, hD0, hEV⟩ := hv
  subst hsz
  have hx := B.exec
  have hb := B.bytes
  have hr := B.returns
  have hts := atoms_spec (ws := v_clear) B.pre
  have hown : s.vm.findClass RX13 = some m.cls := findClass_of_methodNamed B.named
  have hlocks := B.notSynchronized
  have hinX13 : ∀ w ∈ u_ws RX13 TX13 97, w ∈ v_clear := fun w h => vA_in _ w (in_X13 w h)
  generalize hAe : va_A (WX 72 ad E) s.heap.size = A at hEV ⊢
  have hA : ∀ q : Nat, s.heap.size ≤ q → A q := fun q h => by rw [← hAe]; exact Or.inr h
  have hD : va_D A (WX 72 ad E) := by rw [← hAe]; exact hD0.self
  have hS : va_S A s.heap s.heap [] := va_S.rf
  have hI := hI0
  have hKp : Kp w_clear E E := Kp.rf
  have hl := lv_entry ([.ref (ad 0)]) (n := 2) (Nat.le_of_ble_eq_true rfl)
  obtain ⟨Q, hQ⟩ : ∃ Q, Q = MQ below (va_Qv (S := Nat → va_E) (fun u => IX cT shM spM 72 ad u ∧ Kp w_clear E u ∧ (True)) (HB dC dI 72 ad) (A)) args s 0 0 (A) := ⟨_, rfl⟩
  rw [← hQ, show entryFrame m args 2 = _ from (congrArg (fun z => entryFrame m z 2) hargs).trans (lg_entry_eq _ _ _)]
  generalize (lg_sl ([.ref (ad 0)]) ++ List.replicate (2 - (lg_sl ([.ref (ad 0)])).length) Slot.unset).toArray = ls at hl ⊢
  have hl : lv_has ls 2 [(0, .ref (ad 0))] := hl
  refine lv_iconst (v := 0) hx hb dX13_clear_0 (by decide) ?_
  refine lv_istore_n (lv' := [(1, .int 0), (0, .ref (ad 0))]) hx hb dX13_clear_1 rfl hl (by decide) rfl (fun ls hl => ?_)
  have hL2 : ∀ d : Nat, ∀ (v2_1 : Int32) (E2_ : Nat → va_E) (H : Heap) (locs : List Loc) (ls : Array Slot), 0 ≤ v2_1.toInt ∧ v2_1.toInt ≤ 128 → 128 - v2_1.toInt < (d : Int) → IX cT shM spM 72 ad E2_ → Kp w_clear E E2_ → va_P (dC, dI) vwCl (WX 72 ad E2_) H → va_S A s.heap H locs → lv_has ls 2 [(1, .int v2_1), (0, .ref (ad 0))] → W p l e (headSpec v_clear rm_clear).room s m args below meth c H locs 0 0 Q (F0 m 2 ls []) := by
    intro d
    induction d with
    | zero =>
      intro v2_1 E2_ H locs ls hv2_1 hx2_0 hI hKp hP hS hl
      exact absurd hx2_0 (by first | exact ms_zu hv2_1.2 | omega)
    | succ d ih2 =>
      intro v2_1 E2_ H locs ls hv2_1 hx2_0 hI hKp hP hS hl
      refine lv_iload_n hx hb dX13_clear_2 rfl (lv_at hl 0 rfl) ?_
      refine lv_sipush (v := 128) hx hb dX13_clear_3 (by decide) ?_
      refine lv_icmp_ge (tgt := 22) hx hb dX13_clear_6 (by decide) (fun c1 => ?_) (fun c1 => ?_)
      · --6 taken
        have t2 : (128 : Int) ≤ v2_1.toInt := ti_le c1
        have i3 : 128 ≤ v2_1.toInt ∧ v2_1.toInt ≤ 128 := iv_le_r t2 (il_ 128) hv2_1 (by decide)
        rw [hQ]
        exact W.vret hx hb hr (fun t ht hW => ⟨⟨E2_, rfl, ⟨hI, hKp, trivial⟩, by show va_P (dC, dI) vwCl (WX 72 ad E2_) t.heap; rw [ht]; exact hP⟩, hS.F ht⟩) hS.2.2 dX13_clear_22
      · --6 not
        have t4 : v2_1.toInt < 128 := ti_nle c1
        have i5 : 0 ≤ v2_1.toInt ∧ v2_1.toInt ≤ 127 := iv_lt_l t4 hv2_1 (il_ 128) (by decide)
        refine lv_aload_n hx hb dX13_clear_9 rfl (lv_at hl 1 rfl) ?_
        refine th_get (ci := 14) (C := RX13) (T := TX13) (N := 97) (v := .ref (ad 12)) hx hb hts hinX13 hown hK hP hI 0 (Nat.le_of_ble_eq_true rfl) rfl rfl 15 (Nat.le_of_ble_eq_true rfl) (hts _ (vA_in _ _ (in_25 _ (zs16 (zs16 (zs4 (zs1 (zs0)))))))) (fun _ h9 => h9) (hI.fr 0 (Nat.le_of_ble_eq_true rfl) rfl (Nat.le_of_ble_eq_true rfl) 12 rfl) dX13_clear_10 ?_
        refine lv_iload_n hx hb dX13_clear_13 rfl (lv_at hl 0 rfl) ?_
        refine lv_iconst (v := 0) hx hb dX13_clear_14 (by decide) ?_
        have n6 : vp_in v2_1 128 := (iv_in (n := 128) i5 (by decide))
        refine th_iast hx hb hK hP (WX_D hD) hS hI 12 (Nat.le_of_ble_eq_true rfl) rfl rfl n6 (okI rfl (iv_w ln_0 (by decide))) dX13_clear_15 (fun H locs E7 pw8 hI hP hS => ?_)
        have hKp := hKp.pw pw8 rfl
        obtain ⟨y9, ey9⟩ : ∃ y : Int32, y = v2_1 + (1 : Int32) := ⟨_, rfl⟩
        obtain ⟨ty9, iy9⟩ := ti_add (e := 1) (f := 128) i5 ln_1 ey9 (by decide)
        have ty9 : y9.toInt = v2_1.toInt + 1 := ty9
        have iy9 : 1 ≤ y9.toInt ∧ y9.toInt ≤ 128 := iy9
        refine lv_iinc (v := y9) (lv' := [(1, .int y9), (0, .ref (ad 0))]) hx hb dX13_clear_16 hl (k := 0) rfl (by rw [ey9]; rfl) (by decide) rfl (fun ls hl => ?_)
        refine lv_goto (tgt := 2) hx hb dX13_clear_19 (by decide) ?_
        exact ih2 y9 E7 _ _ _ (iv_w iy9 (by decide)) (by first | exact ms_su hx2_0 ty9 (by decide) | omega) hI hKp hP hS (lv_sub hl [0, 1] rfl)
  exact hL2 (129) (0 : Int32) E _ _ _ (iv_w ln_0 (by decide)) (by have h9 := ln_0; first | exact ms_bu h9.1 (by decide) | omega) hI hKp hP hS (lv_sub hl [0, 1] rfl)
