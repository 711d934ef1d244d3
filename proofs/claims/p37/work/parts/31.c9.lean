def tyX0 : Nat → FieldType := fun k => match k with
  | 0 => .int
  | 1 => .int
  | 2 => .int
  | 3 => .object "java/util/ArrayList"
  | 4 => .object "java/util/ArrayList"
  | 5 => .object "java/util/ArrayList"
  | 6 => .object "java/util/ArrayList"
  | 7 => .object "java/util/ArrayList"
  | 8 => .object "java/util/ArrayList"
  | 9 => .array .int
  | _ => .array .int
theorem nmX0 : ∀ a, a < 11 → ∀ b, b < 11 → a ≠ b → (TX0 a).2.1 ≠ (TX0 b).2.1 := by decide +kernel
theorem tyX0_ok : ∀ k, k < 11 → parseFieldDescriptor (TX0 k).2.2.1 = some (tyX0 k) := by decide +kernel
set_option maxRecDepth 100000 in
theorem zh_dX12_days_0_0 : zc cX12_days 0 [27, 3, 17, 1, 144, 42, 180, 0, 10, 180, 0, 55, 100, 184, 0, 59] = true := by decide +kernel
set_option maxRecDepth 100000 in
theorem zh_dX12_days_16_16 : zc cX12_days 16 [154, 0, 5, 2, 172, 42, 180, 0, 10, 89, 180, 0, 55, 27, 96, 181] = true := by decide +kernel
set_option maxRecDepth 100000 in
theorem zh_dX12_days_31_32 : zc cX12_days 32 [0, 55, 42, 180, 0, 10, 180, 0, 55, 172] = true := by decide +kernel
set_option maxRecDepth 100000 in
theorem zh_dX12_boat_0_0 : zc cX12_boat 0 [42, 180, 0, 10, 180, 0, 63, 16, 16, 161, 0, 5, 2, 172, 42, 180] = true := by decide +kernel
set_option maxRecDepth 100000 in
theorem zh_dX12_boat_15_16 : zc cX12_boat 16 [0, 10, 89, 180, 0, 63, 4, 96, 181, 0, 63, 42, 180, 0, 10, 180] = true := by decide +kernel
set_option maxRecDepth 100000 in
theorem zh_dX12_boat_31_32 : zc cX12_boat 32 [0, 63, 4, 100, 172] = true := by decide +kernel
set_option maxRecDepth 100000 in
theorem zh_dX12_thrown_0_0 : zc cX12_thrown 0 [42, 180, 0, 10, 27, 29, 182, 0, 162, 153, 0, 14, 42, 180, 0, 10] = true := by decide +kernel
set_option maxRecDepth 100000 in
theorem zh_dX12_thrown_16_16 : zc cX12_thrown 16 [28, 182, 0, 66, 154, 0, 5, 2, 172, 42, 180, 0, 37, 29, 182, 0] = true := by decide +kernel
set_option maxRecDepth 100000 in
theorem zh_dX12_thrown_30_32 : zc cX12_thrown 32 [189, 42, 180, 0, 37, 180, 0, 192, 28, 51, 154, 0, 5, 2, 172, 42] = true := by decide +kernel
set_option maxRecDepth 100000 in
theorem zh_dX12_thrown_48_48 : zc cX12_thrown 48 [180, 0, 37, 180, 0, 196, 27, 28, 184, 0, 199, 51, 153, 0, 7, 4] = true := by decide +kernel
set_option maxRecDepth 100000 in
theorem zh_dX12_thrown_64_64 : zc cX12_thrown 64 [167, 0, 4, 3, 172] = true := by decide +kernel
set_option maxRecDepth 100000 in
theorem zh_dX12_total_0_0 : zc cX12_total 0 [42, 180, 0, 10, 27, 182, 0, 66, 153, 0, 14, 42, 180, 0, 10, 28] = true := by decide +kernel
set_option maxRecDepth 100000 in
theorem zh_dX12_total_16_16 : zc cX12_total 16 [182, 0, 92, 154, 0, 5, 2, 172, 42, 180, 0, 37, 28, 182, 0, 189] = true := by decide +kernel
set_option maxRecDepth 100000 in
theorem zh_dX12_total_32_32 : zc cX12_total 32 [42, 180, 0, 37, 180, 0, 192, 27, 51, 153, 0, 15, 42, 180, 0, 37] = true := by decide +kernel
set_option maxRecDepth 100000 in
theorem zh_dX12_total_48_48 : zc cX12_total 48 [180, 0, 202, 27, 46, 167, 0, 4, 2, 172] = true := by decide +kernel
set_option maxRecDepth 100000 in
theorem zh_dX12_ranked_0_0 : zc cX12_ranked 0 [27, 3, 16, 15, 184, 0, 59, 153, 0, 14, 42, 180, 0, 10, 28, 182] = true := by decide +kernel
set_option maxRecDepth 100000 in
theorem zh_dX12_ranked_15_16 : zc cX12_ranked 16 [0, 92, 154, 0, 5, 2, 172, 42, 180, 0, 37, 28, 182, 0, 189, 42] = true := by decide +kernel
set_option maxRecDepth 100000 in
theorem zh_dX12_ranked_32_32 : zc cX12_ranked 32 [180, 0, 37, 27, 182, 0, 205, 172] = true := by decide +kernel
set_option maxRecDepth 100000 in
theorem zh_dX12_states_0_0 : zc cX12_states 0 [42, 180, 0, 10, 27, 29, 182, 0, 226, 153, 0, 12, 28, 3, 4, 184] = true := by decide +kernel
set_option maxRecDepth 100000 in
theorem zh_dX12_states_15_16 : zc cX12_states 16 [0, 59, 154, 0, 5, 2, 172, 42, 180, 0, 44, 42, 180, 0, 10, 180] = true := by decide +kernel
set_option maxRecDepth 100000 in
theorem zh_dX12_states_31_32 : zc cX12_states 32 [0, 220, 27, 182, 0, 138, 192, 0, 223, 28, 29, 182, 0, 229, 172] = true := by decide +kernel
set_option maxRecDepth 100000 in
theorem zh_dX12_finding_0_0 : zc cX12_finding 0 [42, 180, 0, 10, 27, 29, 182, 0, 226, 153, 0, 12, 28, 3, 4, 184] = true := by decide +kernel
set_option maxRecDepth 100000 in
theorem zh_dX12_finding_15_16 : zc cX12_finding 16 [0, 59, 154, 0, 5, 2, 172, 42, 180, 0, 44, 42, 180, 0, 10, 180] = true := by decide +kernel
set_option maxRecDepth 100000 in
theorem zh_dX12_finding_31_32 : zc cX12_finding 32 [0, 220, 27, 182, 0, 138, 192, 0, 223, 28, 29, 182, 0, 233, 172] = true := by decide +kernel
set_option maxRecDepth 100000 in
theorem zh_dX12_even_0_0 : zc cX12_even 0 [42, 180, 0, 10, 27, 182, 0, 246, 154, 0, 5, 2, 172, 42, 180, 0] = true := by decide +kernel
set_option maxRecDepth 100000 in
theorem zh_dX12_even_14_16 : zc cX12_even 16 [51, 182, 0, 249, 42, 180, 0, 51, 27, 182, 0, 252, 42, 180, 0, 51] = true := by decide +kernel
set_option maxRecDepth 100000 in
theorem zh_dX12_even_32_32 : zc cX12_even 32 [180, 0, 255, 172] = true := by decide +kernel
set_option maxRecDepth 100000 in
theorem zh_dX12_change_0_0 : zc cX12_change 0 [42, 180, 0, 10, 27, 182, 0, 246, 153, 0, 22, 42, 180, 0, 10, 28] = true := by decide +kernel
set_option maxRecDepth 100000 in
theorem zh_dX12_change_16_16 : zc cX12_change 16 [182, 0, 66, 153, 0, 11, 27, 28, 122, 4, 126, 154, 0, 6, 18, 172] = true := by decide +kernel
set_option maxRecDepth 100000 in
theorem zh_dX12_change_32_32 : zc cX12_change 32 [172, 42, 180, 0, 51, 182, 0, 249, 42, 180, 0, 51, 27, 182, 0, 252] = true := by decide +kernel
set_option maxRecDepth 100000 in
theorem zh_dX12_change_48_48 : zc cX12_change 48 [42, 180, 0, 51, 28, 182, 1, 2, 172] = true := by decide +kernel
theorem dX12_days_0 : decode cX12_days 0 = .ok (.iload_n 1, 1) := zo_27 (zi_at zh_dX12_days_0_0 0 rfl)
theorem dX12_days_1 : decode cX12_days 1 = .ok (.iconst 0, 1) := zo_3 (zi_at zh_dX12_days_0_0 1 rfl)
theorem dX12_days_2 : decode cX12_days 2 = .ok (.sipush 400, 3) := zo_17 (zi_at zh_dX12_days_0_0 2 rfl) (zi_at zh_dX12_days_0_0 3 rfl) (zi_at zh_dX12_days_0_0 4 rfl) rfl
theorem dX12_days_5 : decode cX12_days 5 = .ok (.aload_n 0, 1) := zo_42 (zi_at zh_dX12_days_0_0 5 rfl)
theorem dX12_days_6 : decode cX12_days 6 = .ok (.getfield 10, 3) := zo_180 (zi_at zh_dX12_days_0_0 6 rfl) (zi_at zh_dX12_days_0_0 7 rfl) (zi_at zh_dX12_days_0_0 8 rfl) rfl
theorem dX12_days_9 : decode cX12_days 9 = .ok (.getfield 55, 3) := zo_180 (zi_at zh_dX12_days_0_0 9 rfl) (zi_at zh_dX12_days_0_0 10 rfl) (zi_at zh_dX12_days_0_0 11 rfl) rfl
theorem dX12_days_12 : decode cX12_days 12 = .ok (.isub, 1) := zo_100 (zi_at zh_dX12_days_0_0 12 rfl)
theorem dX12_days_13 : decode cX12_days 13 = .ok (.invokestatic 59, 3) := zo_184 (zi_at zh_dX12_days_0_0 13 rfl) (zi_at zh_dX12_days_0_0 14 rfl) (zi_at zh_dX12_days_0_0 15 rfl) rfl
theorem dX12_days_16 : decode cX12_days 16 = .ok (.ifCond .ne 5, 3) := zo_154 (zi_at zh_dX12_days_16_16 0 rfl) (zi_at zh_dX12_days_16_16 1 rfl) (zi_at zh_dX12_days_16_16 2 rfl) rfl
theorem dX12_days_19 : decode cX12_days 19 = .ok (.iconst (-1), 1) := zo_2 (zi_at zh_dX12_days_16_16 3 rfl)
theorem dX12_days_20 : decode cX12_days 20 = .ok (.ireturn, 1) := zo_172 (zi_at zh_dX12_days_16_16 4 rfl)
theorem dX12_days_21 : decode cX12_days 21 = .ok (.aload_n 0, 1) := zo_42 (zi_at zh_dX12_days_16_16 5 rfl)
theorem dX12_days_22 : decode cX12_days 22 = .ok (.getfield 10, 3) := zo_180 (zi_at zh_dX12_days_16_16 6 rfl) (zi_at zh_dX12_days_16_16 7 rfl) (zi_at zh_dX12_days_16_16 8 rfl) rfl
theorem dX12_days_25 : decode cX12_days 25 = .ok (.dup, 1) := zo_89 (zi_at zh_dX12_days_16_16 9 rfl)
theorem dX12_days_26 : decode cX12_days 26 = .ok (.getfield 55, 3) := zo_180 (zi_at zh_dX12_days_16_16 10 rfl) (zi_at zh_dX12_days_16_16 11 rfl) (zi_at zh_dX12_days_16_16 12 rfl) rfl
theorem dX12_days_29 : decode cX12_days 29 = .ok (.iload_n 1, 1) := zo_27 (zi_at zh_dX12_days_16_16 13 rfl)
theorem dX12_days_30 : decode cX12_days 30 = .ok (.iadd, 1) := zo_96 (zi_at zh_dX12_days_16_16 14 rfl)
theorem dX12_days_31 : decode cX12_days 31 = .ok (.putfield 55, 3) := zo_181 (zi_at zh_dX12_days_16_16 15 rfl) (zi_at zh_dX12_days_31_32 0 rfl) (zi_at zh_dX12_days_31_32 1 rfl) rfl
theorem dX12_days_34 : decode cX12_days 34 = .ok (.aload_n 0, 1) := zo_42 (zi_at zh_dX12_days_31_32 2 rfl)
theorem dX12_days_35 : decode cX12_days 35 = .ok (.getfield 10, 3) := zo_180 (zi_at zh_dX12_days_31_32 3 rfl) (zi_at zh_dX12_days_31_32 4 rfl) (zi_at zh_dX12_days_31_32 5 rfl) rfl
theorem dX12_days_38 : decode cX12_days 38 = .ok (.getfield 55, 3) := zo_180 (zi_at zh_dX12_days_31_32 6 rfl) (zi_at zh_dX12_days_31_32 7 rfl) (zi_at zh_dX12_days_31_32 8 rfl) rfl
theorem dX12_days_41 : decode cX12_days 41 = .ok (.ireturn, 1) := zo_172 (zi_at zh_dX12_days_31_32 9 rfl)
theorem dX12_boat_0 : decode cX12_boat 0 = .ok (.aload_n 0, 1) := zo_42 (zi_at zh_dX12_boat_0_0 0 rfl)
theorem dX12_boat_1 : decode cX12_boat 1 = .ok (.getfield 10, 3) := zo_180 (zi_at zh_dX12_boat_0_0 1 rfl) (zi_at zh_dX12_boat_0_0 2 rfl) (zi_at zh_dX12_boat_0_0 3 rfl) rfl
theorem dX12_boat_4 : decode cX12_boat 4 = .ok (.getfield 63, 3) := zo_180 (zi_at zh_dX12_boat_0_0 4 rfl) (zi_at zh_dX12_boat_0_0 5 rfl) (zi_at zh_dX12_boat_0_0 6 rfl) rfl
theorem dX12_boat_7 : decode cX12_boat 7 = .ok (.bipush 16, 2) := zo_16 (zi_at zh_dX12_boat_0_0 7 rfl) (zi_at zh_dX12_boat_0_0 8 rfl) rfl
theorem dX12_boat_9 : decode cX12_boat 9 = .ok (.if_icmp .lt 5, 3) := zo_161 (zi_at zh_dX12_boat_0_0 9 rfl) (zi_at zh_dX12_boat_0_0 10 rfl) (zi_at zh_dX12_boat_0_0 11 rfl) rfl
theorem dX12_boat_12 : decode cX12_boat 12 = .ok (.iconst (-1), 1) := zo_2 (zi_at zh_dX12_boat_0_0 12 rfl)
theorem dX12_boat_13 : decode cX12_boat 13 = .ok (.ireturn, 1) := zo_172 (zi_at zh_dX12_boat_0_0 13 rfl)
theorem dX12_boat_14 : decode cX12_boat 14 = .ok (.aload_n 0, 1) := zo_42 (zi_at zh_dX12_boat_0_0 14 rfl)
theorem dX12_boat_15 : decode cX12_boat 15 = .ok (.getfield 10, 3) := zo_180 (zi_at zh_dX12_boat_0_0 15 rfl) (zi_at zh_dX12_boat_15_16 0 rfl) (zi_at zh_dX12_boat_15_16 1 rfl) rfl
theorem dX12_boat_18 : decode cX12_boat 18 = .ok (.dup, 1) := zo_89 (zi_at zh_dX12_boat_15_16 2 rfl)
theorem dX12_boat_19 : decode cX12_boat 19 = .ok (.getfield 63, 3) := zo_180 (zi_at zh_dX12_boat_15_16 3 rfl) (zi_at zh_dX12_boat_15_16 4 rfl) (zi_at zh_dX12_boat_15_16 5 rfl) rfl
theorem dX12_boat_22 : decode cX12_boat 22 = .ok (.iconst 1, 1) := zo_4 (zi_at zh_dX12_boat_15_16 6 rfl)
theorem dX12_boat_23 : decode cX12_boat 23 = .ok (.iadd, 1) := zo_96 (zi_at zh_dX12_boat_15_16 7 rfl)
theorem dX12_boat_24 : decode cX12_boat 24 = .ok (.putfield 63, 3) := zo_181 (zi_at zh_dX12_boat_15_16 8 rfl) (zi_at zh_dX12_boat_15_16 9 rfl) (zi_at zh_dX12_boat_15_16 10 rfl) rfl
theorem dX12_boat_27 : decode cX12_boat 27 = .ok (.aload_n 0, 1) := zo_42 (zi_at zh_dX12_boat_15_16 11 rfl)
theorem dX12_boat_28 : decode cX12_boat 28 = .ok (.getfield 10, 3) := zo_180 (zi_at zh_dX12_boat_15_16 12 rfl) (zi_at zh_dX12_boat_15_16 13 rfl) (zi_at zh_dX12_boat_15_16 14 rfl) rfl
theorem dX12_boat_31 : decode cX12_boat 31 = .ok (.getfield 63, 3) := zo_180 (zi_at zh_dX12_boat_15_16 15 rfl) (zi_at zh_dX12_boat_31_32 0 rfl) (zi_at zh_dX12_boat_31_32 1 rfl) rfl
theorem dX12_boat_34 : decode cX12_boat 34 = .ok (.iconst 1, 1) := zo_4 (zi_at zh_dX12_boat_31_32 2 rfl)
theorem dX12_boat_35 : decode cX12_boat 35 = .ok (.isub, 1) := zo_100 (zi_at zh_dX12_boat_31_32 3 rfl)
theorem dX12_boat_36 : decode cX12_boat 36 = .ok (.ireturn, 1) := zo_172 (zi_at zh_dX12_boat_31_32 4 rfl)
theorem dX12_thrown_0 : decode cX12_thrown 0 = .ok (.aload_n 0, 1) := zo_42 (zi_at zh_dX12_thrown_0_0 0 rfl)
theorem dX12_thrown_1 : decode cX12_thrown 1 = .ok (.getfield 10, 3) := zo_180 (zi_at zh_dX12_thrown_0_0 1 rfl) (zi_at zh_dX12_thrown_0_0 2 rfl) (zi_at zh_dX12_thrown_0_0 3 rfl) rfl
theorem dX12_thrown_4 : decode cX12_thrown 4 = .ok (.iload_n 1, 1) := zo_27 (zi_at zh_dX12_thrown_0_0 4 rfl)
theorem dX12_thrown_5 : decode cX12_thrown 5 = .ok (.iload_n 3, 1) := zo_29 (zi_at zh_dX12_thrown_0_0 5 rfl)
theorem dX12_thrown_6 : decode cX12_thrown 6 = .ok (.invokevirtual 162, 3) := zo_182 (zi_at zh_dX12_thrown_0_0 6 rfl) (zi_at zh_dX12_thrown_0_0 7 rfl) (zi_at zh_dX12_thrown_0_0 8 rfl) rfl
theorem dX12_thrown_9 : decode cX12_thrown 9 = .ok (.ifCond .eq 14, 3) := zo_153 (zi_at zh_dX12_thrown_0_0 9 rfl) (zi_at zh_dX12_thrown_0_0 10 rfl) (zi_at zh_dX12_thrown_0_0 11 rfl) rfl
theorem dX12_thrown_12 : decode cX12_thrown 12 = .ok (.aload_n 0, 1) := zo_42 (zi_at zh_dX12_thrown_0_0 12 rfl)
theorem dX12_thrown_13 : decode cX12_thrown 13 = .ok (.getfield 10, 3) := zo_180 (zi_at zh_dX12_thrown_0_0 13 rfl) (zi_at zh_dX12_thrown_0_0 14 rfl) (zi_at zh_dX12_thrown_0_0 15 rfl) rfl
theorem dX12_thrown_16 : decode cX12_thrown 16 = .ok (.iload_n 2, 1) := zo_28 (zi_at zh_dX12_thrown_16_16 0 rfl)
theorem dX12_thrown_17 : decode cX12_thrown 17 = .ok (.invokevirtual 66, 3) := zo_182 (zi_at zh_dX12_thrown_16_16 1 rfl) (zi_at zh_dX12_thrown_16_16 2 rfl) (zi_at zh_dX12_thrown_16_16 3 rfl) rfl
theorem dX12_thrown_20 : decode cX12_thrown 20 = .ok (.ifCond .ne 5, 3) := zo_154 (zi_at zh_dX12_thrown_16_16 4 rfl) (zi_at zh_dX12_thrown_16_16 5 rfl) (zi_at zh_dX12_thrown_16_16 6 rfl) rfl
theorem dX12_thrown_23 : decode cX12_thrown 23 = .ok (.iconst (-1), 1) := zo_2 (zi_at zh_dX12_thrown_16_16 7 rfl)
theorem dX12_thrown_24 : decode cX12_thrown 24 = .ok (.ireturn, 1) := zo_172 (zi_at zh_dX12_thrown_16_16 8 rfl)
theorem dX12_thrown_25 : decode cX12_thrown 25 = .ok (.aload_n 0, 1) := zo_42 (zi_at zh_dX12_thrown_16_16 9 rfl)
theorem dX12_thrown_26 : decode cX12_thrown 26 = .ok (.getfield 37, 3) := zo_180 (zi_at zh_dX12_thrown_16_16 10 rfl) (zi_at zh_dX12_thrown_16_16 11 rfl) (zi_at zh_dX12_thrown_16_16 12 rfl) rfl
theorem dX12_thrown_29 : decode cX12_thrown 29 = .ok (.iload_n 3, 1) := zo_29 (zi_at zh_dX12_thrown_16_16 13 rfl)
theorem dX12_thrown_30 : decode cX12_thrown 30 = .ok (.invokevirtual 189, 3) := zo_182 (zi_at zh_dX12_thrown_16_16 14 rfl) (zi_at zh_dX12_thrown_16_16 15 rfl) (zi_at zh_dX12_thrown_30_32 0 rfl) rfl
theorem dX12_thrown_33 : decode cX12_thrown 33 = .ok (.aload_n 0, 1) := zo_42 (zi_at zh_dX12_thrown_30_32 1 rfl)
theorem dX12_thrown_34 : decode cX12_thrown 34 = .ok (.getfield 37, 3) := zo_180 (zi_at zh_dX12_thrown_30_32 2 rfl) (zi_at zh_dX12_thrown_30_32 3 rfl) (zi_at zh_dX12_thrown_30_32 4 rfl) rfl
theorem dX12_thrown_37 : decode cX12_thrown 37 = .ok (.getfield 192, 3) := zo_180 (zi_at zh_dX12_thrown_30_32 5 rfl) (zi_at zh_dX12_thrown_30_32 6 rfl) (zi_at zh_dX12_thrown_30_32 7 rfl) rfl
theorem dX12_thrown_40 : decode cX12_thrown 40 = .ok (.iload_n 2, 1) := zo_28 (zi_at zh_dX12_thrown_30_32 8 rfl)
theorem dX12_thrown_41 : decode cX12_thrown 41 = .ok (.baload, 1) := zo_51 (zi_at zh_dX12_thrown_30_32 9 rfl)
theorem dX12_thrown_42 : decode cX12_thrown 42 = .ok (.ifCond .ne 5, 3) := zo_154 (zi_at zh_dX12_thrown_30_32 10 rfl) (zi_at zh_dX12_thrown_30_32 11 rfl) (zi_at zh_dX12_thrown_30_32 12 rfl) rfl
theorem dX12_thrown_45 : decode cX12_thrown 45 = .ok (.iconst (-1), 1) := zo_2 (zi_at zh_dX12_thrown_30_32 13 rfl)
theorem dX12_thrown_46 : decode cX12_thrown 46 = .ok (.ireturn, 1) := zo_172 (zi_at zh_dX12_thrown_30_32 14 rfl)
theorem dX12_thrown_47 : decode cX12_thrown 47 = .ok (.aload_n 0, 1) := zo_42 (zi_at zh_dX12_thrown_30_32 15 rfl)
theorem dX12_thrown_48 : decode cX12_thrown 48 = .ok (.getfield 37, 3) := zo_180 (zi_at zh_dX12_thrown_48_48 0 rfl) (zi_at zh_dX12_thrown_48_48 1 rfl) (zi_at zh_dX12_thrown_48_48 2 rfl) rfl
theorem dX12_thrown_51 : decode cX12_thrown 51 = .ok (.getfield 196, 3) := zo_180 (zi_at zh_dX12_thrown_48_48 3 rfl) (zi_at zh_dX12_thrown_48_48 4 rfl) (zi_at zh_dX12_thrown_48_48 5 rfl) rfl
theorem dX12_thrown_54 : decode cX12_thrown 54 = .ok (.iload_n 1, 1) := zo_27 (zi_at zh_dX12_thrown_48_48 6 rfl)
theorem dX12_thrown_55 : decode cX12_thrown 55 = .ok (.iload_n 2, 1) := zo_28 (zi_at zh_dX12_thrown_48_48 7 rfl)
theorem dX12_thrown_56 : decode cX12_thrown 56 = .ok (.invokestatic 199, 3) := zo_184 (zi_at zh_dX12_thrown_48_48 8 rfl) (zi_at zh_dX12_thrown_48_48 9 rfl) (zi_at zh_dX12_thrown_48_48 10 rfl) rfl
theorem dX12_thrown_59 : decode cX12_thrown 59 = .ok (.baload, 1) := zo_51 (zi_at zh_dX12_thrown_48_48 11 rfl)
theorem dX12_thrown_60 : decode cX12_thrown 60 = .ok (.ifCond .eq 7, 3) := zo_153 (zi_at zh_dX12_thrown_48_48 12 rfl) (zi_at zh_dX12_thrown_48_48 13 rfl) (zi_at zh_dX12_thrown_48_48 14 rfl) rfl
theorem dX12_thrown_63 : decode cX12_thrown 63 = .ok (.iconst 1, 1) := zo_4 (zi_at zh_dX12_thrown_48_48 15 rfl)
theorem dX12_thrown_64 : decode cX12_thrown 64 = .ok (.goto 4, 3) := zo_167 (zi_at zh_dX12_thrown_64_64 0 rfl) (zi_at zh_dX12_thrown_64_64 1 rfl) (zi_at zh_dX12_thrown_64_64 2 rfl) rfl
theorem dX12_thrown_67 : decode cX12_thrown 67 = .ok (.iconst 0, 1) := zo_3 (zi_at zh_dX12_thrown_64_64 3 rfl)
theorem dX12_thrown_68 : decode cX12_thrown 68 = .ok (.ireturn, 1) := zo_172 (zi_at zh_dX12_thrown_64_64 4 rfl)
theorem dX12_total_0 : decode cX12_total 0 = .ok (.aload_n 0, 1) := zo_42 (zi_at zh_dX12_total_0_0 0 rfl)
theorem dX12_total_1 : decode cX12_total 1 = .ok (.getfield 10, 3) := zo_180 (zi_at zh_dX12_total_0_0 1 rfl) (zi_at zh_dX12_total_0_0 2 rfl) (zi_at zh_dX12_total_0_0 3 rfl) rfl
theorem dX12_total_4 : decode cX12_total 4 = .ok (.iload_n 1, 1) := zo_27 (zi_at zh_dX12_total_0_0 4 rfl)
theorem dX12_total_5 : decode cX12_total 5 = .ok (.invokevirtual 66, 3) := zo_182 (zi_at zh_dX12_total_0_0 5 rfl) (zi_at zh_dX12_total_0_0 6 rfl) (zi_at zh_dX12_total_0_0 7 rfl) rfl
theorem dX12_total_8 : decode cX12_total 8 = .ok (.ifCond .eq 14, 3) := zo_153 (zi_at zh_dX12_total_0_0 8 rfl) (zi_at zh_dX12_total_0_0 9 rfl) (zi_at zh_dX12_total_0_0 10 rfl) rfl
theorem dX12_total_11 : decode cX12_total 11 = .ok (.aload_n 0, 1) := zo_42 (zi_at zh_dX12_total_0_0 11 rfl)
theorem dX12_total_12 : decode cX12_total 12 = .ok (.getfield 10, 3) := zo_180 (zi_at zh_dX12_total_0_0 12 rfl) (zi_at zh_dX12_total_0_0 13 rfl) (zi_at zh_dX12_total_0_0 14 rfl) rfl
theorem dX12_total_15 : decode cX12_total 15 = .ok (.iload_n 2, 1) := zo_28 (zi_at zh_dX12_total_0_0 15 rfl)
theorem dX12_total_16 : decode cX12_total 16 = .ok (.invokevirtual 92, 3) := zo_182 (zi_at zh_dX12_total_16_16 0 rfl) (zi_at zh_dX12_total_16_16 1 rfl) (zi_at zh_dX12_total_16_16 2 rfl) rfl
theorem dX12_total_19 : decode cX12_total 19 = .ok (.ifCond .ne 5, 3) := zo_154 (zi_at zh_dX12_total_16_16 3 rfl) (zi_at zh_dX12_total_16_16 4 rfl) (zi_at zh_dX12_total_16_16 5 rfl) rfl
theorem dX12_total_22 : decode cX12_total 22 = .ok (.iconst (-1), 1) := zo_2 (zi_at zh_dX12_total_16_16 6 rfl)
theorem dX12_total_23 : decode cX12_total 23 = .ok (.ireturn, 1) := zo_172 (zi_at zh_dX12_total_16_16 7 rfl)
theorem dX12_total_24 : decode cX12_total 24 = .ok (.aload_n 0, 1) := zo_42 (zi_at zh_dX12_total_16_16 8 rfl)
theorem dX12_total_25 : decode cX12_total 25 = .ok (.getfield 37, 3) := zo_180 (zi_at zh_dX12_total_16_16 9 rfl) (zi_at zh_dX12_total_16_16 10 rfl) (zi_at zh_dX12_total_16_16 11 rfl) rfl
theorem dX12_total_28 : decode cX12_total 28 = .ok (.iload_n 2, 1) := zo_28 (zi_at zh_dX12_total_16_16 12 rfl)
theorem dX12_total_29 : decode cX12_total 29 = .ok (.invokevirtual 189, 3) := zo_182 (zi_at zh_dX12_total_16_16 13 rfl) (zi_at zh_dX12_total_16_16 14 rfl) (zi_at zh_dX12_total_16_16 15 rfl) rfl
theorem dX12_total_32 : decode cX12_total 32 = .ok (.aload_n 0, 1) := zo_42 (zi_at zh_dX12_total_32_32 0 rfl)
theorem dX12_total_33 : decode cX12_total 33 = .ok (.getfield 37, 3) := zo_180 (zi_at zh_dX12_total_32_32 1 rfl) (zi_at zh_dX12_total_32_32 2 rfl) (zi_at zh_dX12_total_32_32 3 rfl) rfl
theorem dX12_total_36 : decode cX12_total 36 = .ok (.getfield 192, 3) := zo_180 (zi_at zh_dX12_total_32_32 4 rfl) (zi_at zh_dX12_total_32_32 5 rfl) (zi_at zh_dX12_total_32_32 6 rfl) rfl
theorem dX12_total_39 : decode cX12_total 39 = .ok (.iload_n 1, 1) := zo_27 (zi_at zh_dX12_total_32_32 7 rfl)
theorem dX12_total_40 : decode cX12_total 40 = .ok (.baload, 1) := zo_51 (zi_at zh_dX12_total_32_32 8 rfl)
theorem dX12_total_41 : decode cX12_total 41 = .ok (.ifCond .eq 15, 3) := zo_153 (zi_at zh_dX12_total_32_32 9 rfl) (zi_at zh_dX12_total_32_32 10 rfl) (zi_at zh_dX12_total_32_32 11 rfl) rfl
theorem dX12_total_44 : decode cX12_total 44 = .ok (.aload_n 0, 1) := zo_42 (zi_at zh_dX12_total_32_32 12 rfl)
theorem dX12_total_45 : decode cX12_total 45 = .ok (.getfield 37, 3) := zo_180 (zi_at zh_dX12_total_32_32 13 rfl) (zi_at zh_dX12_total_32_32 14 rfl) (zi_at zh_dX12_total_32_32 15 rfl) rfl
theorem dX12_total_48 : decode cX12_total 48 = .ok (.getfield 202, 3) := zo_180 (zi_at zh_dX12_total_48_48 0 rfl) (zi_at zh_dX12_total_48_48 1 rfl) (zi_at zh_dX12_total_48_48 2 rfl) rfl
theorem dX12_total_51 : decode cX12_total 51 = .ok (.iload_n 1, 1) := zo_27 (zi_at zh_dX12_total_48_48 3 rfl)
theorem dX12_total_52 : decode cX12_total 52 = .ok (.iaload, 1) := zo_46 (zi_at zh_dX12_total_48_48 4 rfl)
theorem dX12_total_53 : decode cX12_total 53 = .ok (.goto 4, 3) := zo_167 (zi_at zh_dX12_total_48_48 5 rfl) (zi_at zh_dX12_total_48_48 6 rfl) (zi_at zh_dX12_total_48_48 7 rfl) rfl
theorem dX12_total_56 : decode cX12_total 56 = .ok (.iconst (-1), 1) := zo_2 (zi_at zh_dX12_total_48_48 8 rfl)
theorem dX12_total_57 : decode cX12_total 57 = .ok (.ireturn, 1) := zo_172 (zi_at zh_dX12_total_48_48 9 rfl)
theorem dX12_ranked_0 : decode cX12_ranked 0 = .ok (.iload_n 1, 1) := zo_27 (zi_at zh_dX12_ranked_0_0 0 rfl)
theorem dX12_ranked_1 : decode cX12_ranked 1 = .ok (.iconst 0, 1) := zo_3 (zi_at zh_dX12_ranked_0_0 1 rfl)
theorem dX12_ranked_2 : decode cX12_ranked 2 = .ok (.bipush 15, 2) := zo_16 (zi_at zh_dX12_ranked_0_0 2 rfl) (zi_at zh_dX12_ranked_0_0 3 rfl) rfl
theorem dX12_ranked_4 : decode cX12_ranked 4 = .ok (.invokestatic 59, 3) := zo_184 (zi_at zh_dX12_ranked_0_0 4 rfl) (zi_at zh_dX12_ranked_0_0 5 rfl) (zi_at zh_dX12_ranked_0_0 6 rfl) rfl
theorem dX12_ranked_7 : decode cX12_ranked 7 = .ok (.ifCond .eq 14, 3) := zo_153 (zi_at zh_dX12_ranked_0_0 7 rfl) (zi_at zh_dX12_ranked_0_0 8 rfl) (zi_at zh_dX12_ranked_0_0 9 rfl) rfl
theorem dX12_ranked_10 : decode cX12_ranked 10 = .ok (.aload_n 0, 1) := zo_42 (zi_at zh_dX12_ranked_0_0 10 rfl)
theorem dX12_ranked_11 : decode cX12_ranked 11 = .ok (.getfield 10, 3) := zo_180 (zi_at zh_dX12_ranked_0_0 11 rfl) (zi_at zh_dX12_ranked_0_0 12 rfl) (zi_at zh_dX12_ranked_0_0 13 rfl) rfl
theorem dX12_ranked_14 : decode cX12_ranked 14 = .ok (.iload_n 2, 1) := zo_28 (zi_at zh_dX12_ranked_0_0 14 rfl)
theorem dX12_ranked_15 : decode cX12_ranked 15 = .ok (.invokevirtual 92, 3) := zo_182 (zi_at zh_dX12_ranked_0_0 15 rfl) (zi_at zh_dX12_ranked_15_16 0 rfl) (zi_at zh_dX12_ranked_15_16 1 rfl) rfl
theorem dX12_ranked_18 : decode cX12_ranked 18 = .ok (.ifCond .ne 5, 3) := zo_154 (zi_at zh_dX12_ranked_15_16 2 rfl) (zi_at zh_dX12_ranked_15_16 3 rfl) (zi_at zh_dX12_ranked_15_16 4 rfl) rfl
theorem dX12_ranked_21 : decode cX12_ranked 21 = .ok (.iconst (-1), 1) := zo_2 (zi_at zh_dX12_ranked_15_16 5 rfl)
theorem dX12_ranked_22 : decode cX12_ranked 22 = .ok (.ireturn, 1) := zo_172 (zi_at zh_dX12_ranked_15_16 6 rfl)
theorem dX12_ranked_23 : decode cX12_ranked 23 = .ok (.aload_n 0, 1) := zo_42 (zi_at zh_dX12_ranked_15_16 7 rfl)
theorem dX12_ranked_24 : decode cX12_ranked 24 = .ok (.getfield 37, 3) := zo_180 (zi_at zh_dX12_ranked_15_16 8 rfl) (zi_at zh_dX12_ranked_15_16 9 rfl) (zi_at zh_dX12_ranked_15_16 10 rfl) rfl
theorem dX12_ranked_27 : decode cX12_ranked 27 = .ok (.iload_n 2, 1) := zo_28 (zi_at zh_dX12_ranked_15_16 11 rfl)
theorem dX12_ranked_28 : decode cX12_ranked 28 = .ok (.invokevirtual 189, 3) := zo_182 (zi_at zh_dX12_ranked_15_16 12 rfl) (zi_at zh_dX12_ranked_15_16 13 rfl) (zi_at zh_dX12_ranked_15_16 14 rfl) rfl
theorem dX12_ranked_31 : decode cX12_ranked 31 = .ok (.aload_n 0, 1) := zo_42 (zi_at zh_dX12_ranked_15_16 15 rfl)
theorem dX12_ranked_32 : decode cX12_ranked 32 = .ok (.getfield 37, 3) := zo_180 (zi_at zh_dX12_ranked_32_32 0 rfl) (zi_at zh_dX12_ranked_32_32 1 rfl) (zi_at zh_dX12_ranked_32_32 2 rfl) rfl
theorem dX12_ranked_35 : decode cX12_ranked 35 = .ok (.iload_n 1, 1) := zo_27 (zi_at zh_dX12_ranked_32_32 3 rfl)
theorem dX12_ranked_36 : decode cX12_ranked 36 = .ok (.invokevirtual 205, 3) := zo_182 (zi_at zh_dX12_ranked_32_32 4 rfl) (zi_at zh_dX12_ranked_32_32 5 rfl) (zi_at zh_dX12_ranked_32_32 6 rfl) rfl
theorem dX12_ranked_39 : decode cX12_ranked 39 = .ok (.ireturn, 1) := zo_172 (zi_at zh_dX12_ranked_32_32 7 rfl)
theorem dX12_states_0 : decode cX12_states 0 = .ok (.aload_n 0, 1) := zo_42 (zi_at zh_dX12_states_0_0 0 rfl)
theorem dX12_states_1 : decode cX12_states 1 = .ok (.getfield 10, 3) := zo_180 (zi_at zh_dX12_states_0_0 1 rfl) (zi_at zh_dX12_states_0_0 2 rfl) (zi_at zh_dX12_states_0_0 3 rfl) rfl
theorem dX12_states_4 : decode cX12_states 4 = .ok (.iload_n 1, 1) := zo_27 (zi_at zh_dX12_states_0_0 4 rfl)
theorem dX12_states_5 : decode cX12_states 5 = .ok (.iload_n 3, 1) := zo_29 (zi_at zh_dX12_states_0_0 5 rfl)
theorem dX12_states_6 : decode cX12_states 6 = .ok (.invokevirtual 226, 3) := zo_182 (zi_at zh_dX12_states_0_0 6 rfl) (zi_at zh_dX12_states_0_0 7 rfl) (zi_at zh_dX12_states_0_0 8 rfl) rfl
theorem dX12_states_9 : decode cX12_states 9 = .ok (.ifCond .eq 12, 3) := zo_153 (zi_at zh_dX12_states_0_0 9 rfl) (zi_at zh_dX12_states_0_0 10 rfl) (zi_at zh_dX12_states_0_0 11 rfl) rfl
theorem dX12_states_12 : decode cX12_states 12 = .ok (.iload_n 2, 1) := zo_28 (zi_at zh_dX12_states_0_0 12 rfl)
theorem dX12_states_13 : decode cX12_states 13 = .ok (.iconst 0, 1) := zo_3 (zi_at zh_dX12_states_0_0 13 rfl)
theorem dX12_states_14 : decode cX12_states 14 = .ok (.iconst 1, 1) := zo_4 (zi_at zh_dX12_states_0_0 14 rfl)
theorem dX12_states_15 : decode cX12_states 15 = .ok (.invokestatic 59, 3) := zo_184 (zi_at zh_dX12_states_0_0 15 rfl) (zi_at zh_dX12_states_15_16 0 rfl) (zi_at zh_dX12_states_15_16 1 rfl) rfl
theorem dX12_states_18 : decode cX12_states 18 = .ok (.ifCond .ne 5, 3) := zo_154 (zi_at zh_dX12_states_15_16 2 rfl) (zi_at zh_dX12_states_15_16 3 rfl) (zi_at zh_dX12_states_15_16 4 rfl) rfl
theorem dX12_states_21 : decode cX12_states 21 = .ok (.iconst (-1), 1) := zo_2 (zi_at zh_dX12_states_15_16 5 rfl)
theorem dX12_states_22 : decode cX12_states 22 = .ok (.ireturn, 1) := zo_172 (zi_at zh_dX12_states_15_16 6 rfl)
theorem dX12_states_23 : decode cX12_states 23 = .ok (.aload_n 0, 1) := zo_42 (zi_at zh_dX12_states_15_16 7 rfl)
theorem dX12_states_24 : decode cX12_states 24 = .ok (.getfield 44, 3) := zo_180 (zi_at zh_dX12_states_15_16 8 rfl) (zi_at zh_dX12_states_15_16 9 rfl) (zi_at zh_dX12_states_15_16 10 rfl) rfl
theorem dX12_states_27 : decode cX12_states 27 = .ok (.aload_n 0, 1) := zo_42 (zi_at zh_dX12_states_15_16 11 rfl)
theorem dX12_states_28 : decode cX12_states 28 = .ok (.getfield 10, 3) := zo_180 (zi_at zh_dX12_states_15_16 12 rfl) (zi_at zh_dX12_states_15_16 13 rfl) (zi_at zh_dX12_states_15_16 14 rfl) rfl
theorem dX12_states_31 : decode cX12_states 31 = .ok (.getfield 220, 3) := zo_180 (zi_at zh_dX12_states_15_16 15 rfl) (zi_at zh_dX12_states_31_32 0 rfl) (zi_at zh_dX12_states_31_32 1 rfl) rfl
theorem dX12_states_34 : decode cX12_states 34 = .ok (.iload_n 1, 1) := zo_27 (zi_at zh_dX12_states_31_32 2 rfl)
theorem dX12_states_35 : decode cX12_states 35 = .ok (.invokevirtual 138, 3) := zo_182 (zi_at zh_dX12_states_31_32 3 rfl) (zi_at zh_dX12_states_31_32 4 rfl) (zi_at zh_dX12_states_31_32 5 rfl) rfl
theorem dX12_states_38 : decode cX12_states 38 = .ok (.checkcast 223, 3) := zo_192 (zi_at zh_dX12_states_31_32 6 rfl) (zi_at zh_dX12_states_31_32 7 rfl) (zi_at zh_dX12_states_31_32 8 rfl) rfl
theorem dX12_states_41 : decode cX12_states 41 = .ok (.iload_n 2, 1) := zo_28 (zi_at zh_dX12_states_31_32 9 rfl)
theorem dX12_states_42 : decode cX12_states 42 = .ok (.iload_n 3, 1) := zo_29 (zi_at zh_dX12_states_31_32 10 rfl)
theorem dX12_states_43 : decode cX12_states 43 = .ok (.invokevirtual 229, 3) := zo_182 (zi_at zh_dX12_states_31_32 11 rfl) (zi_at zh_dX12_states_31_32 12 rfl) (zi_at zh_dX12_states_31_32 13 rfl) rfl
theorem dX12_states_46 : decode cX12_states 46 = .ok (.ireturn, 1) := zo_172 (zi_at zh_dX12_states_31_32 14 rfl)
theorem dX12_finding_0 : decode cX12_finding 0 = .ok (.aload_n 0, 1) := zo_42 (zi_at zh_dX12_finding_0_0 0 rfl)
theorem dX12_finding_1 : decode cX12_finding 1 = .ok (.getfield 10, 3) := zo_180 (zi_at zh_dX12_finding_0_0 1 rfl) (zi_at zh_dX12_finding_0_0 2 rfl) (zi_at zh_dX12_finding_0_0 3 rfl) rfl
theorem dX12_finding_4 : decode cX12_finding 4 = .ok (.iload_n 1, 1) := zo_27 (zi_at zh_dX12_finding_0_0 4 rfl)
theorem dX12_finding_5 : decode cX12_finding 5 = .ok (.iload_n 3, 1) := zo_29 (zi_at zh_dX12_finding_0_0 5 rfl)
theorem dX12_finding_6 : decode cX12_finding 6 = .ok (.invokevirtual 226, 3) := zo_182 (zi_at zh_dX12_finding_0_0 6 rfl) (zi_at zh_dX12_finding_0_0 7 rfl) (zi_at zh_dX12_finding_0_0 8 rfl) rfl
theorem dX12_finding_9 : decode cX12_finding 9 = .ok (.ifCond .eq 12, 3) := zo_153 (zi_at zh_dX12_finding_0_0 9 rfl) (zi_at zh_dX12_finding_0_0 10 rfl) (zi_at zh_dX12_finding_0_0 11 rfl) rfl
theorem dX12_finding_12 : decode cX12_finding 12 = .ok (.iload_n 2, 1) := zo_28 (zi_at zh_dX12_finding_0_0 12 rfl)
theorem dX12_finding_13 : decode cX12_finding 13 = .ok (.iconst 0, 1) := zo_3 (zi_at zh_dX12_finding_0_0 13 rfl)
theorem dX12_finding_14 : decode cX12_finding 14 = .ok (.iconst 1, 1) := zo_4 (zi_at zh_dX12_finding_0_0 14 rfl)
theorem dX12_finding_15 : decode cX12_finding 15 = .ok (.invokestatic 59, 3) := zo_184 (zi_at zh_dX12_finding_0_0 15 rfl) (zi_at zh_dX12_finding_15_16 0 rfl) (zi_at zh_dX12_finding_15_16 1 rfl) rfl
theorem dX12_finding_18 : decode cX12_finding 18 = .ok (.ifCond .ne 5, 3) := zo_154 (zi_at zh_dX12_finding_15_16 2 rfl) (zi_at zh_dX12_finding_15_16 3 rfl) (zi_at zh_dX12_finding_15_16 4 rfl) rfl
theorem dX12_finding_21 : decode cX12_finding 21 = .ok (.iconst (-1), 1) := zo_2 (zi_at zh_dX12_finding_15_16 5 rfl)
theorem dX12_finding_22 : decode cX12_finding 22 = .ok (.ireturn, 1) := zo_172 (zi_at zh_dX12_finding_15_16 6 rfl)
theorem dX12_finding_23 : decode cX12_finding 23 = .ok (.aload_n 0, 1) := zo_42 (zi_at zh_dX12_finding_15_16 7 rfl)
theorem dX12_finding_24 : decode cX12_finding 24 = .ok (.getfield 44, 3) := zo_180 (zi_at zh_dX12_finding_15_16 8 rfl) (zi_at zh_dX12_finding_15_16 9 rfl) (zi_at zh_dX12_finding_15_16 10 rfl) rfl
theorem dX12_finding_27 : decode cX12_finding 27 = .ok (.aload_n 0, 1) := zo_42 (zi_at zh_dX12_finding_15_16 11 rfl)
theorem dX12_finding_28 : decode cX12_finding 28 = .ok (.getfield 10, 3) := zo_180 (zi_at zh_dX12_finding_15_16 12 rfl) (zi_at zh_dX12_finding_15_16 13 rfl) (zi_at zh_dX12_finding_15_16 14 rfl) rfl
theorem dX12_finding_31 : decode cX12_finding 31 = .ok (.getfield 220, 3) := zo_180 (zi_at zh_dX12_finding_15_16 15 rfl) (zi_at zh_dX12_finding_31_32 0 rfl) (zi_at zh_dX12_finding_31_32 1 rfl) rfl
theorem dX12_finding_34 : decode cX12_finding 34 = .ok (.iload_n 1, 1) := zo_27 (zi_at zh_dX12_finding_31_32 2 rfl)
theorem dX12_finding_35 : decode cX12_finding 35 = .ok (.invokevirtual 138, 3) := zo_182 (zi_at zh_dX12_finding_31_32 3 rfl) (zi_at zh_dX12_finding_31_32 4 rfl) (zi_at zh_dX12_finding_31_32 5 rfl) rfl
theorem dX12_finding_38 : decode cX12_finding 38 = .ok (.checkcast 223, 3) := zo_192 (zi_at zh_dX12_finding_31_32 6 rfl) (zi_at zh_dX12_finding_31_32 7 rfl) (zi_at zh_dX12_finding_31_32 8 rfl) rfl
theorem dX12_finding_41 : decode cX12_finding 41 = .ok (.iload_n 2, 1) := zo_28 (zi_at zh_dX12_finding_31_32 9 rfl)
theorem dX12_finding_42 : decode cX12_finding 42 = .ok (.iload_n 3, 1) := zo_29 (zi_at zh_dX12_finding_31_32 10 rfl)
theorem dX12_finding_43 : decode cX12_finding 43 = .ok (.invokevirtual 233, 3) := zo_182 (zi_at zh_dX12_finding_31_32 11 rfl) (zi_at zh_dX12_finding_31_32 12 rfl) (zi_at zh_dX12_finding_31_32 13 rfl) rfl
theorem dX12_finding_46 : decode cX12_finding 46 = .ok (.ireturn, 1) := zo_172 (zi_at zh_dX12_finding_31_32 14 rfl)
theorem dX12_even_0 : decode cX12_even 0 = .ok (.aload_n 0, 1) := zo_42 (zi_at zh_dX12_even_0_0 0 rfl)
theorem dX12_even_1 : decode cX12_even 1 = .ok (.getfield 10, 3) := zo_180 (zi_at zh_dX12_even_0_0 1 rfl) (zi_at zh_dX12_even_0_0 2 rfl) (zi_at zh_dX12_even_0_0 3 rfl) rfl
theorem dX12_even_4 : decode cX12_even 4 = .ok (.iload_n 1, 1) := zo_27 (zi_at zh_dX12_even_0_0 4 rfl)
theorem dX12_even_5 : decode cX12_even 5 = .ok (.invokevirtual 246, 3) := zo_182 (zi_at zh_dX12_even_0_0 5 rfl) (zi_at zh_dX12_even_0_0 6 rfl) (zi_at zh_dX12_even_0_0 7 rfl) rfl
theorem dX12_even_8 : decode cX12_even 8 = .ok (.ifCond .ne 5, 3) := zo_154 (zi_at zh_dX12_even_0_0 8 rfl) (zi_at zh_dX12_even_0_0 9 rfl) (zi_at zh_dX12_even_0_0 10 rfl) rfl
theorem dX12_even_11 : decode cX12_even 11 = .ok (.iconst (-1), 1) := zo_2 (zi_at zh_dX12_even_0_0 11 rfl)
theorem dX12_even_12 : decode cX12_even 12 = .ok (.ireturn, 1) := zo_172 (zi_at zh_dX12_even_0_0 12 rfl)
theorem dX12_even_13 : decode cX12_even 13 = .ok (.aload_n 0, 1) := zo_42 (zi_at zh_dX12_even_0_0 13 rfl)
theorem dX12_even_14 : decode cX12_even 14 = .ok (.getfield 51, 3) := zo_180 (zi_at zh_dX12_even_0_0 14 rfl) (zi_at zh_dX12_even_0_0 15 rfl) (zi_at zh_dX12_even_14_16 0 rfl) rfl
theorem dX12_even_17 : decode cX12_even 17 = .ok (.invokevirtual 249, 3) := zo_182 (zi_at zh_dX12_even_14_16 1 rfl) (zi_at zh_dX12_even_14_16 2 rfl) (zi_at zh_dX12_even_14_16 3 rfl) rfl
theorem dX12_even_20 : decode cX12_even 20 = .ok (.aload_n 0, 1) := zo_42 (zi_at zh_dX12_even_14_16 4 rfl)
theorem dX12_even_21 : decode cX12_even 21 = .ok (.getfield 51, 3) := zo_180 (zi_at zh_dX12_even_14_16 5 rfl) (zi_at zh_dX12_even_14_16 6 rfl) (zi_at zh_dX12_even_14_16 7 rfl) rfl
theorem dX12_even_24 : decode cX12_even 24 = .ok (.iload_n 1, 1) := zo_27 (zi_at zh_dX12_even_14_16 8 rfl)
theorem dX12_even_25 : decode cX12_even 25 = .ok (.invokevirtual 252, 3) := zo_182 (zi_at zh_dX12_even_14_16 9 rfl) (zi_at zh_dX12_even_14_16 10 rfl) (zi_at zh_dX12_even_14_16 11 rfl) rfl
theorem dX12_even_28 : decode cX12_even 28 = .ok (.aload_n 0, 1) := zo_42 (zi_at zh_dX12_even_14_16 12 rfl)
theorem dX12_even_29 : decode cX12_even 29 = .ok (.getfield 51, 3) := zo_180 (zi_at zh_dX12_even_14_16 13 rfl) (zi_at zh_dX12_even_14_16 14 rfl) (zi_at zh_dX12_even_14_16 15 rfl) rfl
theorem dX12_even_32 : decode cX12_even 32 = .ok (.getfield 255, 3) := zo_180 (zi_at zh_dX12_even_32_32 0 rfl) (zi_at zh_dX12_even_32_32 1 rfl) (zi_at zh_dX12_even_32_32 2 rfl) rfl
theorem dX12_even_35 : decode cX12_even 35 = .ok (.ireturn, 1) := zo_172 (zi_at zh_dX12_even_32_32 3 rfl)
theorem dX12_change_0 : decode cX12_change 0 = .ok (.aload_n 0, 1) := zo_42 (zi_at zh_dX12_change_0_0 0 rfl)
theorem dX12_change_1 : decode cX12_change 1 = .ok (.getfield 10, 3) := zo_180 (zi_at zh_dX12_change_0_0 1 rfl) (zi_at zh_dX12_change_0_0 2 rfl) (zi_at zh_dX12_change_0_0 3 rfl) rfl
theorem dX12_change_4 : decode cX12_change 4 = .ok (.iload_n 1, 1) := zo_27 (zi_at zh_dX12_change_0_0 4 rfl)
theorem dX12_change_5 : decode cX12_change 5 = .ok (.invokevirtual 246, 3) := zo_182 (zi_at zh_dX12_change_0_0 5 rfl) (zi_at zh_dX12_change_0_0 6 rfl) (zi_at zh_dX12_change_0_0 7 rfl) rfl
theorem dX12_change_8 : decode cX12_change 8 = .ok (.ifCond .eq 22, 3) := zo_153 (zi_at zh_dX12_change_0_0 8 rfl) (zi_at zh_dX12_change_0_0 9 rfl) (zi_at zh_dX12_change_0_0 10 rfl) rfl
theorem dX12_change_11 : decode cX12_change 11 = .ok (.aload_n 0, 1) := zo_42 (zi_at zh_dX12_change_0_0 11 rfl)
theorem dX12_change_12 : decode cX12_change 12 = .ok (.getfield 10, 3) := zo_180 (zi_at zh_dX12_change_0_0 12 rfl) (zi_at zh_dX12_change_0_0 13 rfl) (zi_at zh_dX12_change_0_0 14 rfl) rfl
theorem dX12_change_15 : decode cX12_change 15 = .ok (.iload_n 2, 1) := zo_28 (zi_at zh_dX12_change_0_0 15 rfl)
theorem dX12_change_16 : decode cX12_change 16 = .ok (.invokevirtual 66, 3) := zo_182 (zi_at zh_dX12_change_16_16 0 rfl) (zi_at zh_dX12_change_16_16 1 rfl) (zi_at zh_dX12_change_16_16 2 rfl) rfl
theorem dX12_change_19 : decode cX12_change 19 = .ok (.ifCond .eq 11, 3) := zo_153 (zi_at zh_dX12_change_16_16 3 rfl) (zi_at zh_dX12_change_16_16 4 rfl) (zi_at zh_dX12_change_16_16 5 rfl) rfl
theorem dX12_change_22 : decode cX12_change 22 = .ok (.iload_n 1, 1) := zo_27 (zi_at zh_dX12_change_16_16 6 rfl)
theorem dX12_change_23 : decode cX12_change 23 = .ok (.iload_n 2, 1) := zo_28 (zi_at zh_dX12_change_16_16 7 rfl)
theorem dX12_change_24 : decode cX12_change 24 = .ok (.ishr, 1) := zo_122 (zi_at zh_dX12_change_16_16 8 rfl)
theorem dX12_change_25 : decode cX12_change 25 = .ok (.iconst 1, 1) := zo_4 (zi_at zh_dX12_change_16_16 9 rfl)
theorem dX12_change_26 : decode cX12_change 26 = .ok (.iand, 1) := zo_126 (zi_at zh_dX12_change_16_16 10 rfl)
theorem dX12_change_27 : decode cX12_change 27 = .ok (.ifCond .ne 6, 3) := zo_154 (zi_at zh_dX12_change_16_16 11 rfl) (zi_at zh_dX12_change_16_16 12 rfl) (zi_at zh_dX12_change_16_16 13 rfl) rfl
theorem dX12_change_30 : decode cX12_change 30 = .ok (.ldc 172, 2) := zo_18 (zi_at zh_dX12_change_16_16 14 rfl) (zi_at zh_dX12_change_16_16 15 rfl)
theorem dX12_change_32 : decode cX12_change 32 = .ok (.ireturn, 1) := zo_172 (zi_at zh_dX12_change_32_32 0 rfl)
theorem dX12_change_33 : decode cX12_change 33 = .ok (.aload_n 0, 1) := zo_42 (zi_at zh_dX12_change_32_32 1 rfl)
theorem dX12_change_34 : decode cX12_change 34 = .ok (.getfield 51, 3) := zo_180 (zi_at zh_dX12_change_32_32 2 rfl) (zi_at zh_dX12_change_32_32 3 rfl) (zi_at zh_dX12_change_32_32 4 rfl) rfl
theorem dX12_change_37 : decode cX12_change 37 = .ok (.invokevirtual 249, 3) := zo_182 (zi_at zh_dX12_change_32_32 5 rfl) (zi_at zh_dX12_change_32_32 6 rfl) (zi_at zh_dX12_change_32_32 7 rfl) rfl
theorem dX12_change_40 : decode cX12_change 40 = .ok (.aload_n 0, 1) := zo_42 (zi_at zh_dX12_change_32_32 8 rfl)
theorem dX12_change_41 : decode cX12_change 41 = .ok (.getfield 51, 3) := zo_180 (zi_at zh_dX12_change_32_32 9 rfl) (zi_at zh_dX12_change_32_32 10 rfl) (zi_at zh_dX12_change_32_32 11 rfl) rfl
theorem dX12_change_44 : decode cX12_change 44 = .ok (.iload_n 1, 1) := zo_27 (zi_at zh_dX12_change_32_32 12 rfl)
theorem dX12_change_45 : decode cX12_change 45 = .ok (.invokevirtual 252, 3) := zo_182 (zi_at zh_dX12_change_32_32 13 rfl) (zi_at zh_dX12_change_32_32 14 rfl) (zi_at zh_dX12_change_32_32 15 rfl) rfl
theorem dX12_change_48 : decode cX12_change 48 = .ok (.aload_n 0, 1) := zo_42 (zi_at zh_dX12_change_48_48 0 rfl)
theorem dX12_change_49 : decode cX12_change 49 = .ok (.getfield 51, 3) := zo_180 (zi_at zh_dX12_change_48_48 1 rfl) (zi_at zh_dX12_change_48_48 2 rfl) (zi_at zh_dX12_change_48_48 3 rfl) rfl
theorem dX12_change_52 : decode cX12_change 52 = .ok (.iload_n 2, 1) := zo_28 (zi_at zh_dX12_change_48_48 4 rfl)
theorem dX12_change_53 : decode cX12_change 53 = .ok (.invokevirtual 258, 3) := zo_182 (zi_at zh_dX12_change_48_48 5 rfl) (zi_at zh_dX12_change_48_48 6 rfl) (zi_at zh_dX12_change_48_48 7 rfl) rfl
theorem dX12_change_56 : decode cX12_change 56 = .ok (.ireturn, 1) := zo_172 (zi_at zh_dX12_change_48_48 8 rfl)
theorem hz_yX0_isCounted_2 : yX0_isCounted.cls ≠ "java/lang/invoke/MethodHandle" ∧ yX0_isCounted.cls ≠ "java/lang/invoke/VarHandle" ∧ (parseMethodDescriptor yX0_isCounted.desc).map (fun d => d.parameters.length) = some 2 := by decide +kernel
theorem hz_yX8_tally_1 : yX8_tally.cls ≠ "java/lang/invoke/MethodHandle" ∧ yX8_tally.cls ≠ "java/lang/invoke/VarHandle" ∧ (parseMethodDescriptor yX8_tally.desc).map (fun d => d.parameters.length) = some 1 := by decide +kernel
theorem hz_yX8_boatAt_1 : yX8_boatAt.cls ≠ "java/lang/invoke/MethodHandle" ∧ yX8_boatAt.cls ≠ "java/lang/invoke/VarHandle" ∧ (parseMethodDescriptor yX8_boatAt.desc).map (fun d => d.parameters.length) = some 1 := by decide +kernel
theorem hz_yX0_isProtested_2 : yX0_isProtested.cls ≠ "java/lang/invoke/MethodHandle" ∧ yX0_isProtested.cls ≠ "java/lang/invoke/VarHandle" ∧ (parseMethodDescriptor yX0_isProtested.desc).map (fun d => d.parameters.length) = some 2 := by decide +kernel
theorem hz_yX2_find_3 : yX2_find.cls ≠ "java/lang/invoke/MethodHandle" ∧ yX2_find.cls ≠ "java/lang/invoke/VarHandle" ∧ (parseMethodDescriptor yX2_find.desc).map (fun d => d.parameters.length) = some 3 := by decide +kernel
theorem hz_yX0_areSome_1 : yX0_areSome.cls ≠ "java/lang/invoke/MethodHandle" ∧ yX0_areSome.cls ≠ "java/lang/invoke/VarHandle" ∧ (parseMethodDescriptor yX0_areSome.desc).map (fun d => d.parameters.length) = some 1 := by decide +kernel
theorem hz_yX3_loadAll_0 : yX3_loadAll.cls ≠ "java/lang/invoke/MethodHandle" ∧ yX3_loadAll.cls ≠ "java/lang/invoke/VarHandle" ∧ (parseMethodDescriptor yX3_loadAll.desc).map (fun d => d.parameters.length) = some 0 := by decide +kernel
theorem hz_yX3_evenOut_1 : yX3_evenOut.cls ≠ "java/lang/invoke/MethodHandle" ∧ yX3_evenOut.cls ≠ "java/lang/invoke/VarHandle" ∧ (parseMethodDescriptor yX3_evenOut.desc).map (fun d => d.parameters.length) = some 1 := by decide +kernel
theorem hz_yX3_bestChangeOf_1 : yX3_bestChangeOf.cls ≠ "java/lang/invoke/MethodHandle" ∧ yX3_bestChangeOf.cls ≠ "java/lang/invoke/VarHandle" ∧ (parseMethodDescriptor yX3_bestChangeOf.desc).map (fun d => d.parameters.length) = some 1 := by decide +kernel
def v_u_days : List Cond := .code yX12_days cX12_days 2 (some .int) :: vA
abbrev rm_u_days : Room := { frames := 1, cells := 0, slots := 0, locals := 40 }
def w_u_days : Nat → Nat → Bool := wl [] [(1, 0)]
set_option maxHeartbeats 4000000 in
set_option maxRecDepth 100000 in
theorem q_u_days (l : Launch) (dC : Nat → ClassId) (dI : Nat → Nat → Nat) (cT : Nat → ClassId) (cf : Nat → Nat) (hC : CF cf) (ad : Nat → Nat) (E : Nat → va_E) (sz : Nat) (a0 : Int32) (hI0 : IXL cT (shC cf) (spC cf) (LC cf) ad E)  : Met l yX12_days v_u_days rm_u_days (va_Pc [.ref (ad 0), .int a0] (HWL dC dI (TYC cT) cf ad E sz)) (va_Qi (S := Nat → va_E) (fun r u => IXL cT (shC cf) (spC cf) (LC cf) ad u ∧ Kp w_u_days E u ∧ (((((0 ≤ a0.toInt ∧ a0.toInt ≤ 400 - (xi (E 1) 0).toInt) → (r.toInt = (xi (E 1) 0).toInt + a0.toInt ∧ (xi (u 1) 0).toInt = (xi (E 1) 0).toInt + a0.toInt)) ∧ (¬ (0 ≤ a0.toInt ∧ a0.toInt ≤ 400 - (xi (E 1) 0).toInt) → (r.toInt = -1 ∧ (xi (u 1) 0).toInt = (xi (E 1) 0).toInt)))))) (HBL dC dI (LC cf) ad) (va_A (WL (LC cf) ad E) sz)) 0 0 (va_A (WL (LC cf) ad E) sz) := by
  obtain ⟨⟨hc0, hc1, hc2, hc3, hc4, hc5⟩, hcr⟩ := id hC
  refine Met.ofW (cc := cX12_days) (maxL := 2) (ret := (some .int)) (by decide) rfl ?_
  intro p e s m args below meth c s₁ B hml hv
  obtain ⟨hargs, hsz, hP, hK, hD0, hEV⟩ := hv
  subst hsz
  have hx := B.exec
  have hb := B.bytes
  have hr := B.returns
  have hts := atoms_spec (ws := v_u_days) B.pre
  have hown : s.vm.findClass RX12 = some m.cls := findClass_of_methodNamed B.named
  have hlocks := B.notSynchronized
  have hinX0 : ∀ w ∈ u_ws RX0 TX0 11, w ∈ v_u_days := fun w h => vA_in _ w (in_X0 w h)
  have hinX12 : ∀ w ∈ u_ws RX12 TX12 6, w ∈ v_u_days := fun w h => vA_in _ w (in_X12 w h)
  generalize hAe : va_A (WL (LC cf) ad E) s.heap.size = A at hEV ⊢
  have hA : ∀ q : Nat, s.heap.size ≤ q → A q := fun q h => by rw [← hAe]; exact Or.inr h
  have hD : va_D A (WL (LC cf) ad E) := by rw [← hAe]; exact hD0.self
  have hS : va_S A s.heap s.heap [] := va_S.rf
  have hI := hI0
  have hKp : Kp w_u_days E E := Kp.rf
  have hl := lv_entry ([.ref (ad 0), .int a0]) (n := 2) (Nat.le_of_ble_eq_true rfl)
  obtain ⟨Q, hQ⟩ : ∃ Q, Q = MQ below (va_Qi (S := Nat → va_E) (fun r u => IXL cT (shC cf) (spC cf) (LC cf) ad u ∧ Kp w_u_days E u ∧ (((((0 ≤ a0.toInt ∧ a0.toInt ≤ 400 - (xi (E 1) 0).toInt) → (r.toInt = (xi (E 1) 0).toInt + a0.toInt ∧ (xi (u 1) 0).toInt = (xi (E 1) 0).toInt + a0.toInt)) ∧ (¬ (0 ≤ a0.toInt ∧ a0.toInt ≤ 400 - (xi (E 1) 0).toInt) → (r.toInt = -1 ∧ (xi (u 1) 0).toInt = (xi (E 1) 0).toInt)))))) (HBL dC dI (LC cf) ad) (A)) args s 0 0 (A) := ⟨_, rfl⟩
  rw [← hQ, show entryFrame m args 2 = _ from (congrArg (fun z => entryFrame m z 2) hargs).trans (lg_entry_eq _ _ _)]
  generalize (lg_sl ([.ref (ad 0), .int a0]) ++ List.replicate (2 - (lg_sl ([.ref (ad 0), .int a0])).length) Slot.unset).toArray = ls at hl ⊢
  have hl : lv_has ls 2 [(0, .ref (ad 0)), (1, .int a0)] := hl
  obtain ⟨y1, ey1⟩ : ∃ y, xi (E 1) 0 = y := ⟨_, rfl⟩
  have fy1 : xv (E 1) 0 = .int y1 := (hI.fi 1 (mF 1 rfl) rfl (Nat.le_of_ble_eq_true rfl) rfl).trans (congrArg Value.int ey1)
  have i2 : 0 ≤ y1.toInt ∧ y1.toInt ≤ 400 := by rw [← ey1]; exact hI.iv 1 (mF 1 rfl) rfl (Nat.le_of_ble_eq_true rfl) rfl
  refine lv_iload_n hx hb dX12_days_0 rfl (lv_at hl 1 rfl) ?_
  refine lv_iconst (v := 0) hx hb dX12_days_1 (by decide) ?_
  refine lv_sipush (v := 400) hx hb dX12_days_2 (by decide) ?_
  refine lv_aload_n hx hb dX12_days_5 rfl (lv_at hl 0 rfl) ?_
  refine th_getL (ci := 13) (C := RX12) (T := TX12) (N := 6) (v := .ref (ad 1)) hx hb hts hinX12 hown hK hP hI 0 (mF 0 rfl) rfl rfl 0 (Nat.le_of_ble_eq_true rfl) (hts _ (vA_in _ _ (in_10 _ (zs16 (zs1 (zs0)))))) (fun _ h9 => h9) (hI.fr 0 (mF 0 rfl) rfl (Nat.le_of_ble_eq_true rfl) 1 rfl) dX12_days_6 ?_
  refine th_getL (ci := 1) (C := RX0) (T := TX0) (N := 11) (v := .int y1) hx hb hts hinX0 hown hK hP hI 1 (mF 1 rfl) rfl rfl 0 (Nat.le_of_ble_eq_true rfl) (hts _ (vA_in _ _ (in_10 _ (zs16 (zs4 (zs4 (zs1 (zs1 (zs0))))))))) (fun _ h9 => h9) fy1 dX12_days_9 ?_
  refine lv_isub hx hb dX12_days_12 ?_
  refine lv_topi (fun y3 ey3 => ?_)
  obtain ⟨ty3, iy3⟩ := ti_sub (e := 0) (f := 400) ln_400 i2 ey3 (by decide)
  have ty3 : y3.toInt = 400 - y1.toInt := ty3
  have iy3 : 0 ≤ y3.toInt ∧ y3.toInt ≤ 400 := iy3
  refine th_pi (va_runS (As := [.int a0, .int 0, .int y3]) (rest := []) ⟨hx, hb, hml, hown, hts⟩ (q_cwithin l a0 (0 : Int32) y3) (va_cwS 3 hts (gi_S (in_10 _ (zs16 (zs4 (zs4 (zs4 (zs1 (zs1 (zs1 (zs0))))))))) (in_4 _ (zs16 (zs4 (zs1 (zs1 (zs0)))))) (in_4 _ (zs16 (zs4 (zs1 (zs1 (zs1 (zs0))))))) (in_4 _ (zs16 (zs4 (zs4 (zs0)))))) rfl rfl rfl hz_yX12_within_3 ⟨Nat.le_of_ble_eq_true rfl, Nat.le_of_ble_eq_true rfl⟩) ⟨fun _ _ _ _ q => q, fun _ _ _ => ⟨rfl, trivial⟩⟩ rfl rfl hl.1 rfl (lv_room (Nat.le_of_ble_eq_true rfl)) dX12_days_13 ⟨Nat.le_of_ble_eq_true rfl, Nat.le_of_ble_eq_true rfl⟩) hS (fun r4 H1 locs1 hw hk1 hS => ?_)
  have hP := ub_keep hP hk1
  generalize H1 = H at hP hS ⊢
  generalize locs1 = locs at hS ⊢
  rcases hw with hw | hw
  · -- cwithin, case 0
    obtain ⟨rfl, f5⟩ := hw
    have t6 : (0 : Int) ≤ a0.toInt := f5.1
    have t7 : a0.toInt ≤ y3.toInt := f5.2
    have i8 : 0 ≤ a0.toInt ∧ a0.toInt ≤ 2147483647 := iv_le_r t6 (il_ 0) (iv_all _) (by decide)
    have i9 : 0 ≤ a0.toInt ∧ a0.toInt ≤ 400 := iv_le_l t7 i8 iy3 (by decide)
    refine lv_if_ne (tgt := 21) hx hb dX12_days_16 (by decide) (fun c10 => ?_) (fun c10 => ?_)
    · --16 taken
      refine lv_aload_n hx hb dX12_days_21 rfl (lv_at hl 0 rfl) ?_
      refine th_getL (ci := 13) (C := RX12) (T := TX12) (N := 6) (v := .ref (ad 1)) hx hb hts hinX12 hown hK hP hI 0 (mF 0 rfl) rfl rfl 0 (Nat.le_of_ble_eq_true rfl) (hts _ (vA_in _ _ (in_10 _ (zs16 (zs1 (zs0)))))) (fun _ h9 => h9) (hI.fr 0 (mF 0 rfl) rfl (Nat.le_of_ble_eq_true rfl) 1 rfl) dX12_days_22 ?_
      refine lv_dup hx hb dX12_days_25 rfl ?_
      refine th_getL (ci := 1) (C := RX0) (T := TX0) (N := 11) (v := .int y1) hx hb hts hinX0 hown hK hP hI 1 (mF 1 rfl) rfl rfl 0 (Nat.le_of_ble_eq_true rfl) (hts _ (vA_in _ _ (in_10 _ (zs16 (zs4 (zs4 (zs1 (zs1 (zs0))))))))) (fun _ h9 => h9) fy1 dX12_days_26 ?_
      refine lv_iload_n hx hb dX12_days_29 rfl (lv_at hl 1 rfl) ?_
      refine lv_iadd hx hb dX12_days_30 ?_
      refine lv_topi (fun y11 ey11 => ?_)
      obtain ⟨ty11, iy11⟩ := ti_add (e := 0) (f := 800) i2 i9 ey11 (by decide)
      have ty11 : y11.toInt = y1.toInt + a0.toInt := ty11
      have iy11 : 0 ≤ y11.toInt ∧ y11.toInt ≤ 800 := iy11
      have i12 : 0 ≤ y11.toInt ∧ y11.toInt ≤ 400 := by omega
      refine th_putL (ci := 1) (C := RX0) (T := TX0) (N := 11) (v := .int y11) (ty := .int) hx hb hts hinX0 tyX0 tyX0_ok nmX0 hown hK hP (WL_D hD) hS hI 1 (mF 1 rfl) rfl rfl 0 (Nat.le_of_ble_eq_true rfl) (hts _ (vA_in _ _ (in_10 _ (zs16 (zs4 (zs4 (zs1 (zs1 (zs0))))))))) (fun _ h9 => h9) rfl (by decide +kernel) rfl rfl (okI rfl i12) dX12_days_31 (fun H locs E13 pw14 hI hP hS => ?_)
      have hKp := hKp.pw pw14 rfl
      refine lv_aload_n hx hb dX12_days_34 rfl (lv_at hl 0 rfl) ?_
      refine th_getL (ci := 13) (C := RX12) (T := TX12) (N := 6) (v := .ref (ad 1)) hx hb hts hinX12 hown hK hP hI 0 (mF 0 rfl) rfl rfl 0 (Nat.le_of_ble_eq_true rfl) (hts _ (vA_in _ _ (in_10 _ (zs16 (zs1 (zs0)))))) (fun _ h9 => h9) (hI.fr 0 (mF 0 rfl) rfl (Nat.le_of_ble_eq_true rfl) 1 rfl) dX12_days_35 ?_
      refine th_getL (ci := 1) (C := RX0) (T := TX0) (N := 11) (v := .int y11) hx hb hts hinX0 hown hK hP hI 1 (mF 1 rfl) rfl rfl 0 (Nat.le_of_ble_eq_true rfl) (hts _ (vA_in _ _ (in_10 _ (zs16 (zs4 (zs4 (zs1 (zs1 (zs0))))))))) (fun _ h9 => h9) pw14.1 dX12_days_38 ?_
      rw [hQ]
      exact W.iret (v := y11) hx hb hr (fun t ht hW => ⟨⟨y11, E13, rfl, ⟨hI, hKp, (by (try rw [(show xi (E13 1) 0 = y11 from vi_e pw14.1)]); (try rw [ey1]); all_goals omega)⟩, by show va_P (dC, dI) vwCl (WL (LC cf) ad E13) t.heap; rw [ht]; exact hP⟩, hS.F ht⟩) hS.2.2 dX12_days_41
    · --16 not
      exact absurd c10 (by decide)
  · -- cwithin, case 1
    obtain ⟨rfl, f15⟩ := hw
    have t16 : ¬ ((0 : Int) ≤ a0.toInt ∧ a0.toInt ≤ y3.toInt) := f15
    refine lv_if_ne (tgt := 21) hx hb dX12_days_16 (by decide) (fun c17 => ?_) (fun c17 => ?_)
    · --16 taken
      exact absurd c17 (by decide)
    · --16 not
      refine lv_iconst (v := -1) hx hb dX12_days_19 (by decide) ?_
      rw [hQ]
      exact W.iret (v := (-1)) hx hb hr (fun t ht hW => ⟨⟨(-1), E, rfl, ⟨hI, hKp, (by have h8 := ln_m1; (try rw [(show xi (E 1) 0 = y1 from vi_e fy1)]); (try rw [ey1]); all_goals omega)⟩, by show va_P (dC, dI) vwCl (WL (LC cf) ad E) t.heap; rw [ht]; exact hP⟩, hS.F ht⟩) hS.2.2 dX12_days_20
def v_u_boat : List Cond := .code yX12_boat cX12_boat 1 (some .int) :: vA
abbrev rm_u_boat : Room := { frames := 0, cells := 0, slots := 0, locals := 0 }
def w_u_boat : Nat → Nat → Bool := wl [] [(1, 1)]
set_option maxHeartbeats 4000000 in
set_option maxRecDepth 100000 in
theorem q_u_boat (l : Launch) (dC : Nat → ClassId) (dI : Nat → Nat → Nat) (cT : Nat → ClassId) (cf : Nat → Nat) (hC : CF cf) (ad : Nat → Nat) (E : Nat → va_E) (sz : Nat)  (hI0 : IXL cT (shC cf) (spC cf) (LC cf) ad E)  : Met l yX12_boat v_u_boat rm_u_boat (va_Pc [.ref (ad 0)] (HWL dC dI (TYC cT) cf ad E sz)) (va_Qi (S := Nat → va_E) (fun r u => IXL cT (shC cf) (spC cf) (LC cf) ad u ∧ Kp w_u_boat E u ∧ ((((((xi (E 1) 1).toInt < 16) → (r.toInt = (xi (E 1) 1).toInt ∧ (xi (u 1) 1).toInt = (xi (E 1) 1).toInt + 1)) ∧ (¬ ((xi (E 1) 1).toInt < 16) → (r.toInt = -1 ∧ (xi (u 1) 1).toInt = (xi (E 1) 1).toInt)))))) (HBL dC dI (LC cf) ad) (va_A (WL (LC cf) ad E) sz)) 0 0 (va_A (WL (LC cf) ad E) sz) := by
  obtain ⟨⟨hc0, hc1, hc2, hc3, hc4, hc5⟩, hcr⟩ := id hC
  refine Met.ofW (cc := cX12_boat) (maxL := 1) (ret := (some .int)) (by decide) rfl ?_
  intro p e s m args below meth c s₁ B hml hv
  obtain ⟨hargs, hsz, hP, hK, hD0, hEV⟩ := hv
  subst hsz
  have hx := B.exec
  have hb := B.bytes
  have hr := B.returns
  have hts := atoms_spec (ws := v_u_boat) B.pre
  have hown : s.vm.findClass RX12 = some m.cls := findClass_of_methodNamed B.named
  have hlocks := B.notSynchronized
  have hinX0 : ∀ w ∈ u_ws RX0 TX0 11, w ∈ v_u_boat := fun w h => vA_in _ w (in_X0 w h)
  have hinX12 : ∀ w ∈ u_ws RX12 TX12 6, w ∈ v_u_boat := fun w h => vA_in _ w (in_X12 w h)
  generalize hAe : va_A (WL (LC cf) ad E) s.heap.size = A at hEV ⊢
  have hA : ∀ q : Nat, s.heap.size ≤ q → A q := fun q h => by rw [← hAe]; exact Or.inr h
  have hD : va_D A (WL (LC cf) ad E) := by rw [← hAe]; exact hD0.self
  have hS : va_S A s.heap s.heap [] := va_S.rf
  have hI := hI0
  have hKp : Kp w_u_boat E E := Kp.rf
  have hl := lv_entry ([.ref (ad 0)]) (n := 1) (Nat.le_of_ble_eq_true rfl)
  obtain ⟨Q, hQ⟩ : ∃ Q, Q = MQ below (va_Qi (S := Nat → va_E) (fun r u => IXL cT (shC cf) (spC cf) (LC cf) ad u ∧ Kp w_u_boat E u ∧ ((((((xi (E 1) 1).toInt < 16) → (r.toInt = (xi (E 1) 1).toInt ∧ (xi (u 1) 1).toInt = (xi (E 1) 1).toInt + 1)) ∧ (¬ ((xi (E 1) 1).toInt < 16) → (r.toInt = -1 ∧ (xi (u 1) 1).toInt = (xi (E 1) 1).toInt)))))) (HBL dC dI (LC cf) ad) (A)) args s 0 0 (A) := ⟨_, rfl⟩
  rw [← hQ, show entryFrame m args 1 = _ from (congrArg (fun z => entryFrame m z 1) hargs).trans (lg_entry_eq _ _ _)]
  generalize (lg_sl ([.ref (ad 0)]) ++ List.replicate (1 - (lg_sl ([.ref (ad 0)])).length) Slot.unset).toArray = ls at hl ⊢
  have hl : lv_has ls 1 [(0, .ref (ad 0))] := hl
  obtain ⟨y1, ey1⟩ : ∃ y, xi (E 1) 1 = y := ⟨_, rfl⟩
  have fy1 : xv (E 1) 1 = .int y1 := (hI.fi 1 (mF 1 rfl) rfl (Nat.le_of_ble_eq_true rfl) rfl).trans (congrArg Value.int ey1)
  have i2 : 0 ≤ y1.toInt ∧ y1.toInt ≤ 16 := by rw [← ey1]; exact hI.iv 1 (mF 1 rfl) rfl (Nat.le_of_ble_eq_true rfl) rfl
  refine lv_aload_n hx hb dX12_boat_0 rfl (lv_at hl 0 rfl) ?_
  refine th_getL (ci := 13) (C := RX12) (T := TX12) (N := 6) (v := .ref (ad 1)) hx hb hts hinX12 hown hK hP hI 0 (mF 0 rfl) rfl rfl 0 (Nat.le_of_ble_eq_true rfl) (hts _ (vA_in _ _ (in_10 _ (zs16 (zs1 (zs0)))))) (fun _ h9 => h9) (hI.fr 0 (mF 0 rfl) rfl (Nat.le_of_ble_eq_true rfl) 1 rfl) dX12_boat_1 ?_
  refine th_getL (ci := 1) (C := RX0) (T := TX0) (N := 11) (v := .int y1) hx hb hts hinX0 hown hK hP hI 1 (mF 1 rfl) rfl rfl 1 (Nat.le_of_ble_eq_true rfl) (hts _ (vA_in _ _ (in_10 _ (zs16 (zs1 (zs1 (zs0))))))) (fun _ h9 => h9) fy1 dX12_boat_4 ?_
  refine lv_bipush (v := 16) hx hb dX12_boat_7 (by decide) ?_
  refine lv_icmp_lt (tgt := 14) hx hb dX12_boat_9 (by decide) (fun c3 => ?_) (fun c3 => ?_)
  · --9 taken
    have t4 : y1.toInt < 16 := ti_lt c3
    have i5 : 0 ≤ y1.toInt ∧ y1.toInt ≤ 15 := iv_lt_l t4 i2 (il_ 16) (by decide)
    refine lv_aload_n hx hb dX12_boat_14 rfl (lv_at hl 0 rfl) ?_
    refine th_getL (ci := 13) (C := RX12) (T := TX12) (N := 6) (v := .ref (ad 1)) hx hb hts hinX12 hown hK hP hI 0 (mF 0 rfl) rfl rfl 0 (Nat.le_of_ble_eq_true rfl) (hts _ (vA_in _ _ (in_10 _ (zs16 (zs1 (zs0)))))) (fun _ h9 => h9) (hI.fr 0 (mF 0 rfl) rfl (Nat.le_of_ble_eq_true rfl) 1 rfl) dX12_boat_15 ?_
    refine lv_dup hx hb dX12_boat_18 rfl ?_
    refine th_getL (ci := 1) (C := RX0) (T := TX0) (N := 11) (v := .int y1) hx hb hts hinX0 hown hK hP hI 1 (mF 1 rfl) rfl rfl 1 (Nat.le_of_ble_eq_true rfl) (hts _ (vA_in _ _ (in_10 _ (zs16 (zs1 (zs1 (zs0))))))) (fun _ h9 => h9) fy1 dX12_boat_19 ?_
    refine lv_iconst (v := 1) hx hb dX12_boat_22 (by decide) ?_
    refine lv_iadd hx hb dX12_boat_23 ?_
    refine lv_topi (fun y6 ey6 => ?_)
    obtain ⟨ty6, iy6⟩ := ti_add (e := 1) (f := 16) i5 ln_1 ey6 (by decide)
    have ty6 : y6.toInt = y1.toInt + 1 := ty6
    have iy6 : 1 ≤ y6.toInt ∧ y6.toInt ≤ 16 := iy6
    refine th_putL (ci := 1) (C := RX0) (T := TX0) (N := 11) (v := .int y6) (ty := .int) hx hb hts hinX0 tyX0 tyX0_ok nmX0 hown hK hP (WL_D hD) hS hI 1 (mF 1 rfl) rfl rfl 1 (Nat.le_of_ble_eq_true rfl) (hts _ (vA_in _ _ (in_10 _ (zs16 (zs1 (zs1 (zs0))))))) (fun _ h9 => h9) rfl (by decide +kernel) rfl rfl (okI rfl (iv_w iy6 (by decide))) dX12_boat_24 (fun H locs E7 pw8 hI hP hS => ?_)
    have hKp := hKp.pw pw8 rfl
    refine lv_aload_n hx hb dX12_boat_27 rfl (lv_at hl 0 rfl) ?_
    refine th_getL (ci := 13) (C := RX12) (T := TX12) (N := 6) (v := .ref (ad 1)) hx hb hts hinX12 hown hK hP hI 0 (mF 0 rfl) rfl rfl 0 (Nat.le_of_ble_eq_true rfl) (hts _ (vA_in _ _ (in_10 _ (zs16 (zs1 (zs0)))))) (fun _ h9 => h9) (hI.fr 0 (mF 0 rfl) rfl (Nat.le_of_ble_eq_true rfl) 1 rfl) dX12_boat_28 ?_
    refine th_getL (ci := 1) (C := RX0) (T := TX0) (N := 11) (v := .int y6) hx hb hts hinX0 hown hK hP hI 1 (mF 1 rfl) rfl rfl 1 (Nat.le_of_ble_eq_true rfl) (hts _ (vA_in _ _ (in_10 _ (zs16 (zs1 (zs1 (zs0))))))) (fun _ h9 => h9) pw8.1 dX12_boat_31 ?_
    refine lv_iconst (v := 1) hx hb dX12_boat_34 (by decide) ?_
    refine lv_isub hx hb dX12_boat_35 ?_
    refine lv_topi (fun y9 ey9 => ?_)
    obtain ⟨ty9, iy9⟩ := ti_sub (e := 0) (f := 15) iy6 ln_1 ey9 (by decide)
    have ty9 : y9.toInt = y6.toInt - 1 := ty9
    have iy9 : 0 ≤ y9.toInt ∧ y9.toInt ≤ 15 := iy9
    rw [hQ]
    exact W.iret (v := y9) hx hb hr (fun t ht hW => ⟨⟨y9, E7, rfl, ⟨hI, hKp, (by (try rw [(show xi (E7 1) 1 = y6 from vi_e pw8.1)]); (try rw [ey1]); all_goals omega)⟩, by show va_P (dC, dI) vwCl (WL (LC cf) ad E7) t.heap; rw [ht]; exact hP⟩, hS.F ht⟩) hS.2.2 dX12_boat_36
  · --9 not
    have t10 : (16 : Int) ≤ y1.toInt := ti_nlt c3
    have i11 : 16 ≤ y1.toInt ∧ y1.toInt ≤ 16 := iv_le_r t10 (il_ 16) i2 (by decide)
    refine lv_iconst (v := -1) hx hb dX12_boat_12 (by decide) ?_
    rw [hQ]
    exact W.iret (v := (-1)) hx hb hr (fun t ht hW => ⟨⟨(-1), E, rfl, ⟨hI, hKp, (by have h8 := ln_m1; (try rw [(show xi (E 1) 1 = y1 from vi_e fy1)]); (try rw [ey1]); all_goals omega)⟩, by show va_P (dC, dI) vwCl (WL (LC cf) ad E) t.heap; rw [ht]; exact hP⟩, hS.F ht⟩) hS.2.2 dX12_boat_13
def v_u_thrown : List Cond := .code yX12_thrown cX12_thrown 4 (some .int) :: vA
abbrev rm_u_thrown : Room := { frames := 7, cells := 0, slots := 0, locals := 280 }
def w_u_thrown : Nat → Nat → Bool := wl [19, 20, 26, 27, 28, 29, 30, 31, 32, 33, 34, 35] [(3, 6), (3, 7), (3, 8), (4, 2)]
set_option maxHeartbeats 4000000 in
set_option maxRecDepth 100000 in
theorem q_u_thrown (l : Launch) (dC : Nat → ClassId) (dI : Nat → Nat → Nat) (cT : Nat → ClassId) (cf : Nat → Nat) (hC : CF cf) (ad : Nat → Nat) (E : Nat → va_E) (sz : Nat) (a0 : Int32) (a1 : Int32) (a2 : Int32) (hI0 : IXL cT (shC cf) (spC cf) (LC cf) ad E)  : Met l yX12_thrown v_u_thrown rm_u_thrown (va_Pc [.ref (ad 0), .int a0, .int a1, .int a2] (HWL dC dI (TYC cT) cf ad E sz)) (va_Qi (S := Nat → va_E) (fun r u => IXL cT (shC cf) (spC cf) (LC cf) ad u ∧ Kp w_u_thrown E u ∧ (True)) (HBL dC dI (LC cf) ad) (va_A (WL (LC cf) ad E) sz)) 0 0 (va_A (WL (LC cf) ad E) sz) := by
  obtain ⟨⟨hc0, hc1, hc2, hc3, hc4, hc5⟩, hcr⟩ := id hC
  refine Met.ofW (cc := cX12_thrown) (maxL := 4) (ret := (some .int)) (by decide) rfl ?_
  intro p e s m args below meth c s₁ B hml hv
  obtain ⟨hargs, hsz, hP, hK, hD0, hEV⟩ := hv
  subst hsz
  have hx := B.exec
  have hb := B.bytes
  have hr := B.returns
  have hts := atoms_spec (ws := v_u_thrown) B.pre
  have hown : s.vm.findClass RX12 = some m.cls := findClass_of_methodNamed B.named
  have hlocks := B.notSynchronized
  have hinX12 : ∀ w ∈ u_ws RX12 TX12 6, w ∈ v_u_thrown := fun w h => vA_in _ w (in_X12 w h)
  have hinX8 : ∀ w ∈ u_ws RX8 TX8 10, w ∈ v_u_thrown := fun w h => vA_in _ w (in_X8 w h)
  generalize hAe : va_A (WL (LC cf) ad E) s.heap.size = A at hEV ⊢
  have hA : ∀ q : Nat, s.heap.size ≤ q → A q := fun q h => by rw [← hAe]; exact Or.inr h
  have hD : va_D A (WL (LC cf) ad E) := by rw [← hAe]; exact hD0.self
  have hS : va_S A s.heap s.heap [] := va_S.rf
  have hI := hI0
  have hKp : Kp w_u_thrown E E := Kp.rf
  have hl := lv_entry ([.ref (ad 0), .int a0, .int a1, .int a2]) (n := 4) (Nat.le_of_ble_eq_true rfl)
  obtain ⟨Q, hQ⟩ : ∃ Q, Q = MQ below (va_Qi (S := Nat → va_E) (fun r u => IXL cT (shC cf) (spC cf) (LC cf) ad u ∧ Kp w_u_thrown E u ∧ (True)) (HBL dC dI (LC cf) ad) (A)) args s 0 0 (A) := ⟨_, rfl⟩
  rw [← hQ, show entryFrame m args 4 = _ from (congrArg (fun z => entryFrame m z 4) hargs).trans (lg_entry_eq _ _ _)]
  generalize (lg_sl ([.ref (ad 0), .int a0, .int a1, .int a2]) ++ List.replicate (4 - (lg_sl ([.ref (ad 0), .int a0, .int a1, .int a2])).length) Slot.unset).toArray = ls at hl ⊢
  have hl : lv_has ls 4 [(0, .ref (ad 0)), (1, .int a0), (2, .int a1), (3, .int a2)] := hl
  refine lv_aload_n hx hb dX12_thrown_0 rfl (lv_at hl 0 rfl) ?_
  refine th_getL (ci := 13) (C := RX12) (T := TX12) (N := 6) (v := .ref (ad 1)) hx hb hts hinX12 hown hK hP hI 0 (mF 0 rfl) rfl rfl 0 (Nat.le_of_ble_eq_true rfl) (hts _ (vA_in _ _ (in_10 _ (zs16 (zs1 (zs0)))))) (fun _ h9 => h9) (hI.fr 0 (mF 0 rfl) rfl (Nat.le_of_ble_eq_true rfl) 1 rfl) dX12_thrown_1 ?_
  refine lv_iload_n hx hb dX12_thrown_4 rfl (lv_at hl 1 rfl) ?_
  refine lv_iload_n hx hb dX12_thrown_5 rfl (lv_at hl 3 rfl) ?_
  refine th_riL (va_runV (As := [.int a0, .int a2]) (rest := []) ⟨hx, hb, hml, hown, hts⟩ (q_isCountedC l dC dI cT cf hC ad E s.heap.size a0 a2 hI) (cwV 2 hts (gi_V (in_13 _ (zs16 (zs16 (zs4 (zs1 (zs1 (zs0))))))) (in_13 _ (zs16 (zs16 (zs4 (zs1 (zs1 (zs1 (zs0)))))))) (in_14 _ zs0) (in_5 _ (zs4 (zs1 (zs1 (zs0))))) (in_5 _ (zs16 (zs16 (zs4 (zs1 (zs1 (zs1 (zs0))))))))) rfl rfl rfl ⟨rfl, hz_yX0_isCounted_2⟩ ⟨Nat.le_of_ble_eq_true rfl, Nat.le_of_ble_eq_true rfl⟩) ⟨HWL_bl, va_recv hK hP (ci := 1) (q0 := posL 1 (LC cf)) rfl (hI.ob 1 (mF 1 rfl) rfl), (HWL_wi hP hK (WL_D hD) hS hA hEV)⟩ rfl rfl hl.1 rfl (lv_room (Nat.le_of_ble_eq_true rfl)) dX12_thrown_6 ⟨Nat.le_of_ble_eq_true rfl, Nat.le_of_ble_eq_true rfl⟩) hS hP (fun r1 H locs hw hP hS => ?_)
  rcases hw with hw | hw
  · -- isCountedC, case 0
    obtain ⟨rfl, f2, f3, f4⟩ := hw
    have i5 : 0 ≤ (xi (E 1) 0).toInt ∧ (xi (E 1) 0).toInt ≤ 400 := hI0.iv 1 (mF 1 rfl) rfl (Nat.le_of_ble_eq_true rfl) rfl
    refine lv_if_eq (tgt := 23) hx hb dX12_thrown_9 (by decide) (fun c6 => ?_) (fun c6 => ?_)
    · --9 taken
      exact absurd c6 (by decide)
    · --9 not
      refine lv_aload_n hx hb dX12_thrown_12 rfl (lv_at hl 0 rfl) ?_
      refine th_getL (ci := 13) (C := RX12) (T := TX12) (N := 6) (v := .ref (ad 1)) hx hb hts hinX12 hown hK hP hI 0 (mF 0 rfl) rfl rfl 0 (Nat.le_of_ble_eq_true rfl) (hts _ (vA_in _ _ (in_10 _ (zs16 (zs1 (zs0)))))) (fun _ h9 => h9) (hI.fr 0 (mF 0 rfl) rfl (Nat.le_of_ble_eq_true rfl) 1 rfl) dX12_thrown_13 ?_
      refine lv_iload_n hx hb dX12_thrown_16 rfl (lv_at hl 2 rfl) ?_
      refine th_riL (va_runV (As := [.int a1]) (rest := []) ⟨hx, hb, hml, hown, hts⟩ (q_isBoatC l dC dI cT cf hC ad E H.size a1 hI) (cwV 1 hts (gi_V (in_10 _ (zs16 (zs4 (zs4 (zs1 (zs1 (zs1 (zs0)))))))) (in_6 _ (zs4 (zs4 (zs4 (zs0))))) (in_6 _ (zs4 (zs4 (zs4 (zs1 (zs0)))))) (in_5 _ (zs4 (zs1 (zs1 (zs0))))) (in_5 _ (zs16 (zs16 (zs4 (zs1 (zs1 (zs0)))))))) rfl rfl rfl ⟨rfl, hz_yX0_isBoat_1⟩ ⟨Nat.le_of_ble_eq_true rfl, Nat.le_of_ble_eq_true rfl⟩) ⟨HWL_bl, va_recv hK hP (ci := 1) (q0 := posL 1 (LC cf)) rfl (hI.ob 1 (mF 1 rfl) rfl), (HWL_wi hP hK (WL_D hD) hS hA hEV)⟩ rfl rfl hl.1 rfl (lv_room (Nat.le_of_ble_eq_true rfl)) dX12_thrown_17 ⟨Nat.le_of_ble_eq_true rfl, Nat.le_of_ble_eq_true rfl⟩) hS hP (fun r7 H locs hw hP hS => ?_)
      rcases hw with hw | hw
      · -- isBoatC, case 0
        obtain ⟨rfl, f8, f9⟩ := hw
        have i10 : 0 ≤ (xi (E 1) 1).toInt ∧ (xi (E 1) 1).toInt ≤ 16 := hI0.iv 1 (mF 1 rfl) rfl (Nat.le_of_ble_eq_true rfl) rfl
        refine lv_if_ne (tgt := 25) hx hb dX12_thrown_20 (by decide) (fun c11 => ?_) (fun c11 => ?_)
        · --20 taken
          refine lv_aload_n hx hb dX12_thrown_25 rfl (lv_at hl 0 rfl) ?_
          refine th_getL (ci := 13) (C := RX12) (T := TX12) (N := 6) (v := .ref (ad 4)) hx hb hts hinX12 hown hK hP hI 0 (mF 0 rfl) rfl rfl 3 (Nat.le_of_ble_eq_true rfl) (hts _ (vA_in _ _ (in_18 _ (zs16 (zs16 (zs1 (zs0))))))) (fun _ h9 => h9) (hI.fr 0 (mF 0 rfl) rfl (Nat.le_of_ble_eq_true rfl) 4 rfl) dX12_thrown_26 ?_
          refine lv_iload_n hx hb dX12_thrown_29 rfl (lv_at hl 3 rfl) ?_
          refine th_vL (va_runV (As := [.int a2]) (rest := []) ⟨hx, hb, hml, hown, hts⟩ (q_tally l dC dI cT cf hC ad E H.size a2 hI) (cwV 1 hts (gi_V (in_21 _ (zs16 (zs4 (zs1 (zs1 (zs0)))))) (in_21 _ (zs16 (zs4 (zs1 (zs1 (zs1 (zs0))))))) (in_21 _ (zs16 (zs4 (zs4 (zs0))))) (in_18 _ (zs16 (zs16 (zs0)))) (in_21 _ (zs16 (zs4 (zs4 (zs1 (zs0))))))) rfl rfl rfl ⟨rfl, hz_yX8_tally_1⟩ ⟨Nat.le_of_ble_eq_true rfl, Nat.le_of_ble_eq_true rfl⟩) ⟨HWL_bl, va_recv hK hP (ci := 9) (q0 := posL 4 (LC cf)) rfl (hI.ob 4 (mF 4 rfl) rfl), (HWL_wi hP hK (WL_D hD) hS hA hEV)⟩ rfl rfl hl.1 rfl (lv_room (Nat.le_of_ble_eq_true rfl)) dX12_thrown_30 ⟨Nat.le_of_ble_eq_true rfl, Nat.le_of_ble_eq_true rfl⟩) (WL_D hD) hS hA (fun E13 H locs hw hP hS => ?_)
          obtain ⟨hI, kq14, hw⟩ := hw
          have hKb := hKp
          have hKp := hKp.tr kq14 (wl_sub rfl rfl)
          refine lv_aload_n hx hb dX12_thrown_33 rfl (lv_at hl 0 rfl) ?_
          refine th_getL (ci := 13) (C := RX12) (T := TX12) (N := 6) (v := .ref (ad 4)) hx hb hts hinX12 hown hK hP hI 0 (mF 0 rfl) rfl rfl 3 (Nat.le_of_ble_eq_true rfl) (hts _ (vA_in _ _ (in_18 _ (zs16 (zs16 (zs1 (zs0))))))) (fun _ h9 => h9) (hI.fr 0 (mF 0 rfl) rfl (Nat.le_of_ble_eq_true rfl) 4 rfl) dX12_thrown_34 ?_
          refine th_getL (ci := 9) (C := RX8) (T := TX8) (N := 10) (v := .ref (ad 34)) hx hb hts hinX8 hown hK hP hI 4 (mF 4 rfl) rfl rfl 6 (Nat.le_of_ble_eq_true rfl) (hts _ (vA_in _ _ (in_23 _ (zs16 (zs4 (zs1 (zs1 (zs1 (zs0))))))))) (fun _ h9 => h9) (hI.fr 4 (mF 4 rfl) rfl (Nat.le_of_ble_eq_true rfl) 34 rfl) dX12_thrown_37 ?_
          refine lv_iload_n hx hb dX12_thrown_40 rfl (lv_at hl 2 rfl) ?_
          have n16 : vp_in a1 16 := (iv_in (n := 16) f9 (by decide))
          refine th_zaldL hx hb hK hP hI 34 (mF 34 rfl) rfl rfl n16 dX12_thrown_41 (fun y15 ey15 => ?_)
          have iy15 : 0 ≤ y15.toInt ∧ y15.toInt ≤ 1 := hI.el 34 (mF 34 rfl) rfl n16 (fun _ => rfl) ey15
          refine lv_if_ne (tgt := 47) hx hb dX12_thrown_42 (by decide) (fun c17 => ?_) (fun c17 => ?_)
          · --42 taken
            have t18 : ¬ y15.toInt = 0 := ti_ne c17
            have i19 : 1 ≤ y15.toInt ∧ y15.toInt ≤ 1 := iv_ne_l t18 iy15 (il_ 0)
            refine lv_aload_n hx hb dX12_thrown_47 rfl (lv_at hl 0 rfl) ?_
            refine th_getL (ci := 13) (C := RX12) (T := TX12) (N := 6) (v := .ref (ad 4)) hx hb hts hinX12 hown hK hP hI 0 (mF 0 rfl) rfl rfl 3 (Nat.le_of_ble_eq_true rfl) (hts _ (vA_in _ _ (in_18 _ (zs16 (zs16 (zs1 (zs0))))))) (fun _ h9 => h9) (hI.fr 0 (mF 0 rfl) rfl (Nat.le_of_ble_eq_true rfl) 4 rfl) dX12_thrown_48 ?_
            refine th_getL (ci := 9) (C := RX8) (T := TX8) (N := 10) (v := .ref (ad 33)) hx hb hts hinX8 hown hK hP hI 4 (mF 4 rfl) rfl rfl 5 (Nat.le_of_ble_eq_true rfl) (hts _ (vA_in _ _ (in_23 _ (zs16 (zs4 (zs4 (zs0))))))) (fun _ h9 => h9) (hI.fr 4 (mF 4 rfl) rfl (Nat.le_of_ble_eq_true rfl) 33 rfl) dX12_thrown_51 ?_
            refine lv_iload_n hx hb dX12_thrown_54 rfl (lv_at hl 1 rfl) ?_
            refine lv_iload_n hx hb dX12_thrown_55 rfl (lv_at hl 2 rfl) ?_
            refine th_pi (va_runS (As := [.int a0, .int a1]) (rest := [.ref (ad 33)]) ⟨hx, hb, hml, hown, hts⟩ (q_ccell l a0 a1 f3 f9) (va_cwS 2 hts (gi_S (in_23 _ (zs16 (zs4 (zs4 (zs1 (zs0)))))) (in_13 _ (zs1 (zs0))) (in_4 _ (zs16 (zs4 (zs1 (zs1 (zs1 (zs0))))))) (in_10 _ (zs16 (zs4 (zs0))))) rfl rfl rfl hz_yX12_cell_2 ⟨Nat.le_of_ble_eq_true rfl, Nat.le_of_ble_eq_true rfl⟩) ⟨fun _ _ _ _ q => q, fun _ _ _ => ⟨rfl, trivial⟩⟩ rfl rfl hl.1 rfl (lv_room (Nat.le_of_ble_eq_true rfl)) dX12_thrown_56 ⟨Nat.le_of_ble_eq_true rfl, Nat.le_of_ble_eq_true rfl⟩) hS (fun r20 H1 locs1 hw hk1 hS => ?_)
            have hP := ub_keep hP hk1
            generalize H1 = H at hP hS ⊢
            generalize locs1 = locs at hS ⊢
            obtain ⟨f21, f22⟩ := hw
            have n24 : vp_in r20 320 := (iv_in (n := 320) f21 (by decide))
            refine th_zaldL hx hb hK hP hI 33 (mF 33 rfl) rfl rfl n24 dX12_thrown_59 (fun y23 ey23 => ?_)
            have iy23 : 0 ≤ y23.toInt ∧ y23.toInt ≤ 1 := hI.el 33 (mF 33 rfl) rfl n24 (fun _ => rfl) ey23
            refine lv_if_eq (tgt := 67) hx hb dX12_thrown_60 (by decide) (fun c25 => ?_) (fun c25 => ?_)
            · --60 taken
              have t26 : y23.toInt = 0 := ti_eq c25
              have i27 : 0 ≤ y23.toInt ∧ y23.toInt ≤ 0 := iv_eqi t26 iy23 (il_ 0) (by decide)
              refine lv_iconst (v := 0) hx hb dX12_thrown_67 (by decide) ?_
              rw [hQ]
              exact W.iret (v := 0) hx hb hr (fun t ht hW => ⟨⟨0, E13, rfl, ⟨hI, hKp, trivial⟩, by show va_P (dC, dI) vwCl (WL (LC cf) ad E13) t.heap; rw [ht]; exact hP⟩, hS.F ht⟩) hS.2.2 dX12_thrown_68
            · --60 not
              have t28 : ¬ y23.toInt = 0 := ti_ne c25
              have i29 : 1 ≤ y23.toInt ∧ y23.toInt ≤ 1 := iv_ne_l t28 iy23 (il_ 0)
              refine lv_iconst (v := 1) hx hb dX12_thrown_63 (by decide) ?_
              refine lv_goto (tgt := 68) hx hb dX12_thrown_64 (by decide) ?_
              rw [hQ]
              exact W.iret (v := 1) hx hb hr (fun t ht hW => ⟨⟨1, E13, rfl, ⟨hI, hKp, trivial⟩, by show va_P (dC, dI) vwCl (WL (LC cf) ad E13) t.heap; rw [ht]; exact hP⟩, hS.F ht⟩) hS.2.2 dX12_thrown_68
          · --42 not
            have t30 : y15.toInt = 0 := ti_eq c17
            have i31 : 0 ≤ y15.toInt ∧ y15.toInt ≤ 0 := iv_eqi t30 iy15 (il_ 0) (by decide)
            refine lv_iconst (v := -1) hx hb dX12_thrown_45 (by decide) ?_
            rw [hQ]
            exact W.iret (v := (-1)) hx hb hr (fun t ht hW => ⟨⟨(-1), E13, rfl, ⟨hI, hKp, trivial⟩, by show va_P (dC, dI) vwCl (WL (LC cf) ad E13) t.heap; rw [ht]; exact hP⟩, hS.F ht⟩) hS.2.2 dX12_thrown_46
        · --20 not
          exact absurd c11 (by decide)
      · -- isBoatC, case 1
        obtain ⟨rfl, f32⟩ := hw
        have i33 : 0 ≤ (xi (E 1) 1).toInt ∧ (xi (E 1) 1).toInt ≤ 16 := hI0.iv 1 (mF 1 rfl) rfl (Nat.le_of_ble_eq_true rfl) rfl
        refine lv_if_ne (tgt := 25) hx hb dX12_thrown_20 (by decide) (fun c34 => ?_) (fun c34 => ?_)
        · --20 taken
          exact absurd c34 (by decide)
        · --20 not
          refine lv_iconst (v := -1) hx hb dX12_thrown_23 (by decide) ?_
          rw [hQ]
          exact W.iret (v := (-1)) hx hb hr (fun t ht hW => ⟨⟨(-1), E, rfl, ⟨hI, hKp, trivial⟩, by show va_P (dC, dI) vwCl (WL (LC cf) ad E) t.heap; rw [ht]; exact hP⟩, hS.F ht⟩) hS.2.2 dX12_thrown_24
  · -- isCountedC, case 1
    obtain ⟨rfl, f35⟩ := hw
    have i36 : 0 ≤ (xi (E 1) 0).toInt ∧ (xi (E 1) 0).toInt ≤ 400 := hI0.iv 1 (mF 1 rfl) rfl (Nat.le_of_ble_eq_true rfl) rfl
    refine lv_if_eq (tgt := 23) hx hb dX12_thrown_9 (by decide) (fun c37 => ?_) (fun c37 => ?_)
    · --9 taken
      refine lv_iconst (v := -1) hx hb dX12_thrown_23 (by decide) ?_
      rw [hQ]
      exact W.iret (v := (-1)) hx hb hr (fun t ht hW => ⟨⟨(-1), E, rfl, ⟨hI, hKp, trivial⟩, by show va_P (dC, dI) vwCl (WL (LC cf) ad E) t.heap; rw [ht]; exact hP⟩, hS.F ht⟩) hS.2.2 dX12_thrown_24
    · --9 not
      exact absurd c37 (by decide)
def v_u_total : List Cond := .code yX12_total cX12_total 3 (some .int) :: vA
abbrev rm_u_total : Room := { frames := 7, cells := 0, slots := 0, locals := 280 }
def w_u_total : Nat → Nat → Bool := wl [19, 20, 26, 27, 28, 29, 30, 31, 32, 33, 34, 35] [(3, 6), (3, 7), (3, 8), (4, 2)]
set_option maxHeartbeats 4000000 in
set_option maxRecDepth 100000 in
theorem q_u_total (l : Launch) (dC : Nat → ClassId) (dI : Nat → Nat → Nat) (cT : Nat → ClassId) (cf : Nat → Nat) (hC : CF cf) (ad : Nat → Nat) (E : Nat → va_E) (sz : Nat) (a0 : Int32) (a1 : Int32) (hI0 : IXL cT (shC cf) (spC cf) (LC cf) ad E)  : Met l yX12_total v_u_total rm_u_total (va_Pc [.ref (ad 0), .int a0, .int a1] (HWL dC dI (TYC cT) cf ad E sz)) (va_Qi (S := Nat → va_E) (fun r u => IXL cT (shC cf) (spC cf) (LC cf) ad u ∧ Kp w_u_total E u ∧ (True)) (HBL dC dI (LC cf) ad) (va_A (WL (LC cf) ad E) sz)) 0 0 (va_A (WL (LC cf) ad E) sz) := by
  obtain ⟨⟨hc0, hc1, hc2, hc3, hc4, hc5⟩, hcr⟩ := id hC
  refine Met.ofW (cc := cX12_total) (maxL := 3) (ret := (some .int)) (by decide) rfl ?_
  intro p e s m args below meth c s₁ B hml hv
  obtain ⟨hargs, hsz, hP, hK, hD0, hEV⟩ := hv
  subst hsz
  have hx := B.exec
  have hb := B.bytes
  have hr := B.returns
  have hts := atoms_spec (ws := v_u_total) B.pre
  have hown : s.vm.findClass RX12 = some m.cls := findClass_of_methodNamed B.named
  have hlocks := B.notSynchronized
  have hinX12 : ∀ w ∈ u_ws RX12 TX12 6, w ∈ v_u_total := fun w h => vA_in _ w (in_X12 w h)
  have hinX8 : ∀ w ∈ u_ws RX8 TX8 10, w ∈ v_u_total := fun w h => vA_in _ w (in_X8 w h)
  generalize hAe : va_A (WL (LC cf) ad E) s.heap.size = A at hEV ⊢
  have hA : ∀ q : Nat, s.heap.size ≤ q → A q := fun q h => by rw [← hAe]; exact Or.inr h
  have hD : va_D A (WL (LC cf) ad E) := by rw [← hAe]; exact hD0.self
  have hS : va_S A s.heap s.heap [] := va_S.rf
  have hI := hI0
  have hKp : Kp w_u_total E E := Kp.rf
  have hl := lv_entry ([.ref (ad 0), .int a0, .int a1]) (n := 3) (Nat.le_of_ble_eq_true rfl)
  obtain ⟨Q, hQ⟩ : ∃ Q, Q = MQ below (va_Qi (S := Nat → va_E) (fun r u => IXL cT (shC cf) (spC cf) (LC cf) ad u ∧ Kp w_u_total E u ∧ (True)) (HBL dC dI (LC cf) ad) (A)) args s 0 0 (A) := ⟨_, rfl⟩
  rw [← hQ, show entryFrame m args 3 = _ from (congrArg (fun z => entryFrame m z 3) hargs).trans (lg_entry_eq _ _ _)]
  generalize (lg_sl ([.ref (ad 0), .int a0, .int a1]) ++ List.replicate (3 - (lg_sl ([.ref (ad 0), .int a0, .int a1])).length) Slot.unset).toArray = ls at hl ⊢
  have hl : lv_has ls 3 [(0, .ref (ad 0)), (1, .int a0), (2, .int a1)] := hl
  refine lv_aload_n hx hb dX12_total_0 rfl (lv_at hl 0 rfl) ?_
  refine th_getL (ci := 13) (C := RX12) (T := TX12) (N := 6) (v := .ref (ad 1)) hx hb hts hinX12 hown hK hP hI 0 (mF 0 rfl) rfl rfl 0 (Nat.le_of_ble_eq_true rfl) (hts _ (vA_in _ _ (in_10 _ (zs16 (zs1 (zs0)))))) (fun _ h9 => h9) (hI.fr 0 (mF 0 rfl) rfl (Nat.le_of_ble_eq_true rfl) 1 rfl) dX12_total_1 ?_
  refine lv_iload_n hx hb dX12_total_4 rfl (lv_at hl 1 rfl) ?_
  refine th_riL (va_runV (As := [.int a0]) (rest := []) ⟨hx, hb, hml, hown, hts⟩ (q_isBoatC l dC dI cT cf hC ad E s.heap.size a0 hI) (cwV 1 hts (gi_V (in_10 _ (zs16 (zs4 (zs4 (zs1 (zs1 (zs1 (zs0)))))))) (in_6 _ (zs4 (zs4 (zs4 (zs0))))) (in_6 _ (zs4 (zs4 (zs4 (zs1 (zs0)))))) (in_5 _ (zs4 (zs1 (zs1 (zs0))))) (in_5 _ (zs16 (zs16 (zs4 (zs1 (zs1 (zs0)))))))) rfl rfl rfl ⟨rfl, hz_yX0_isBoat_1⟩ ⟨Nat.le_of_ble_eq_true rfl, Nat.le_of_ble_eq_true rfl⟩) ⟨HWL_bl, va_recv hK hP (ci := 1) (q0 := posL 1 (LC cf)) rfl (hI.ob 1 (mF 1 rfl) rfl), (HWL_wi hP hK (WL_D hD) hS hA hEV)⟩ rfl rfl hl.1 rfl (lv_room (Nat.le_of_ble_eq_true rfl)) dX12_total_5 ⟨Nat.le_of_ble_eq_true rfl, Nat.le_of_ble_eq_true rfl⟩) hS hP (fun r1 H locs hw hP hS => ?_)
  rcases hw with hw | hw
  · -- isBoatC, case 0
    obtain ⟨rfl, f2, f3⟩ := hw
    have i4 : 0 ≤ (xi (E 1) 1).toInt ∧ (xi (E 1) 1).toInt ≤ 16 := hI0.iv 1 (mF 1 rfl) rfl (Nat.le_of_ble_eq_true rfl) rfl
    refine lv_if_eq (tgt := 22) hx hb dX12_total_8 (by decide) (fun c5 => ?_) (fun c5 => ?_)
    · --8 taken
      exact absurd c5 (by decide)
    · --8 not
      refine lv_aload_n hx hb dX12_total_11 rfl (lv_at hl 0 rfl) ?_
      refine th_getL (ci := 13) (C := RX12) (T := TX12) (N := 6) (v := .ref (ad 1)) hx hb hts hinX12 hown hK hP hI 0 (mF 0 rfl) rfl rfl 0 (Nat.le_of_ble_eq_true rfl) (hts _ (vA_in _ _ (in_10 _ (zs16 (zs1 (zs0)))))) (fun _ h9 => h9) (hI.fr 0 (mF 0 rfl) rfl (Nat.le_of_ble_eq_true rfl) 1 rfl) dX12_total_12 ?_
      refine lv_iload_n hx hb dX12_total_15 rfl (lv_at hl 2 rfl) ?_
      refine th_riL (va_runV (As := [.int a1]) (rest := []) ⟨hx, hb, hml, hown, hts⟩ (q_isKnownC l dC dI cT cf hC ad E H.size a1 hI) (cwV 1 hts (gi_V (in_18 _ (zs16 (zs4 (zs0)))) (in_6 _ (zs1 (zs1 (zs1 (zs0))))) (in_6 _ (zs4 (zs0))) (in_5 _ (zs4 (zs1 (zs1 (zs0))))) (in_6 _ (zs4 (zs1 (zs0))))) rfl rfl rfl ⟨rfl, hz_yX0_isKnown_1⟩ ⟨Nat.le_of_ble_eq_true rfl, Nat.le_of_ble_eq_true rfl⟩) ⟨HWL_bl, va_recv hK hP (ci := 1) (q0 := posL 1 (LC cf)) rfl (hI.ob 1 (mF 1 rfl) rfl), (HWL_wi hP hK (WL_D hD) hS hA hEV)⟩ rfl rfl hl.1 rfl (lv_room (Nat.le_of_ble_eq_true rfl)) dX12_total_16 ⟨Nat.le_of_ble_eq_true rfl, Nat.le_of_ble_eq_true rfl⟩) hS hP (fun r6 H locs hw hP hS => ?_)
      rcases hw with hw | hw
      · -- isKnownC, case 0
        obtain ⟨rfl, f7, f8⟩ := hw
        have i9 : 0 ≤ (xi (E 1) 0).toInt ∧ (xi (E 1) 0).toInt ≤ 400 := hI0.iv 1 (mF 1 rfl) rfl (Nat.le_of_ble_eq_true rfl) rfl
        refine lv_if_ne (tgt := 24) hx hb dX12_total_19 (by decide) (fun c10 => ?_) (fun c10 => ?_)
        · --19 taken
          refine lv_aload_n hx hb dX12_total_24 rfl (lv_at hl 0 rfl) ?_
          refine th_getL (ci := 13) (C := RX12) (T := TX12) (N := 6) (v := .ref (ad 4)) hx hb hts hinX12 hown hK hP hI 0 (mF 0 rfl) rfl rfl 3 (Nat.le_of_ble_eq_true rfl) (hts _ (vA_in _ _ (in_18 _ (zs16 (zs16 (zs1 (zs0))))))) (fun _ h9 => h9) (hI.fr 0 (mF 0 rfl) rfl (Nat.le_of_ble_eq_true rfl) 4 rfl) dX12_total_25 ?_
          refine lv_iload_n hx hb dX12_total_28 rfl (lv_at hl 2 rfl) ?_
          refine th_vL (va_runV (As := [.int a1]) (rest := []) ⟨hx, hb, hml, hown, hts⟩ (q_tally l dC dI cT cf hC ad E H.size a1 hI) (cwV 1 hts (gi_V (in_21 _ (zs16 (zs4 (zs1 (zs1 (zs0)))))) (in_21 _ (zs16 (zs4 (zs1 (zs1 (zs1 (zs0))))))) (in_21 _ (zs16 (zs4 (zs4 (zs0))))) (in_18 _ (zs16 (zs16 (zs0)))) (in_21 _ (zs16 (zs4 (zs4 (zs1 (zs0))))))) rfl rfl rfl ⟨rfl, hz_yX8_tally_1⟩ ⟨Nat.le_of_ble_eq_true rfl, Nat.le_of_ble_eq_true rfl⟩) ⟨HWL_bl, va_recv hK hP (ci := 9) (q0 := posL 4 (LC cf)) rfl (hI.ob 4 (mF 4 rfl) rfl), (HWL_wi hP hK (WL_D hD) hS hA hEV)⟩ rfl rfl hl.1 rfl (lv_room (Nat.le_of_ble_eq_true rfl)) dX12_total_29 ⟨Nat.le_of_ble_eq_true rfl, Nat.le_of_ble_eq_true rfl⟩) (WL_D hD) hS hA (fun E12 H locs hw hP hS => ?_)
          obtain ⟨hI, kq13, hw⟩ := hw
          have hKb := hKp
          have hKp := hKp.tr kq13 (wl_sub rfl rfl)
          refine lv_aload_n hx hb dX12_total_32 rfl (lv_at hl 0 rfl) ?_
          refine th_getL (ci := 13) (C := RX12) (T := TX12) (N := 6) (v := .ref (ad 4)) hx hb hts hinX12 hown hK hP hI 0 (mF 0 rfl) rfl rfl 3 (Nat.le_of_ble_eq_true rfl) (hts _ (vA_in _ _ (in_18 _ (zs16 (zs16 (zs1 (zs0))))))) (fun _ h9 => h9) (hI.fr 0 (mF 0 rfl) rfl (Nat.le_of_ble_eq_true rfl) 4 rfl) dX12_total_33 ?_
          refine th_getL (ci := 9) (C := RX8) (T := TX8) (N := 10) (v := .ref (ad 34)) hx hb hts hinX8 hown hK hP hI 4 (mF 4 rfl) rfl rfl 6 (Nat.le_of_ble_eq_true rfl) (hts _ (vA_in _ _ (in_23 _ (zs16 (zs4 (zs1 (zs1 (zs1 (zs0))))))))) (fun _ h9 => h9) (hI.fr 4 (mF 4 rfl) rfl (Nat.le_of_ble_eq_true rfl) 34 rfl) dX12_total_36 ?_
          refine lv_iload_n hx hb dX12_total_39 rfl (lv_at hl 1 rfl) ?_
          have n15 : vp_in a0 16 := (iv_in (n := 16) f3 (by decide))
          refine th_zaldL hx hb hK hP hI 34 (mF 34 rfl) rfl rfl n15 dX12_total_40 (fun y14 ey14 => ?_)
          have iy14 : 0 ≤ y14.toInt ∧ y14.toInt ≤ 1 := hI.el 34 (mF 34 rfl) rfl n15 (fun _ => rfl) ey14
          refine lv_if_eq (tgt := 56) hx hb dX12_total_41 (by decide) (fun c16 => ?_) (fun c16 => ?_)
          · --41 taken
            have t17 : y14.toInt = 0 := ti_eq c16
            have i18 : 0 ≤ y14.toInt ∧ y14.toInt ≤ 0 := iv_eqi t17 iy14 (il_ 0) (by decide)
            refine lv_iconst (v := -1) hx hb dX12_total_56 (by decide) ?_
            rw [hQ]
            exact W.iret (v := (-1)) hx hb hr (fun t ht hW => ⟨⟨(-1), E12, rfl, ⟨hI, hKp, trivial⟩, by show va_P (dC, dI) vwCl (WL (LC cf) ad E12) t.heap; rw [ht]; exact hP⟩, hS.F ht⟩) hS.2.2 dX12_total_57
          · --41 not
            have t19 : ¬ y14.toInt = 0 := ti_ne c16
            have i20 : 1 ≤ y14.toInt ∧ y14.toInt ≤ 1 := iv_ne_l t19 iy14 (il_ 0)
            refine lv_aload_n hx hb dX12_total_44 rfl (lv_at hl 0 rfl) ?_
            refine th_getL (ci := 13) (C := RX12) (T := TX12) (N := 6) (v := .ref (ad 4)) hx hb hts hinX12 hown hK hP hI 0 (mF 0 rfl) rfl rfl 3 (Nat.le_of_ble_eq_true rfl) (hts _ (vA_in _ _ (in_18 _ (zs16 (zs16 (zs1 (zs0))))))) (fun _ h9 => h9) (hI.fr 0 (mF 0 rfl) rfl (Nat.le_of_ble_eq_true rfl) 4 rfl) dX12_total_45 ?_
            refine th_getL (ci := 9) (C := RX8) (T := TX8) (N := 10) (v := .ref (ad 35)) hx hb hts hinX8 hown hK hP hI 4 (mF 4 rfl) rfl rfl 7 (Nat.le_of_ble_eq_true rfl) (hts _ (vA_in _ _ (in_23 _ (zs16 (zs16 (zs4 (zs1 (zs1 (zs1 (zs0)))))))))) (fun _ h9 => h9) (hI.fr 4 (mF 4 rfl) rfl (Nat.le_of_ble_eq_true rfl) 35 rfl) dX12_total_48 ?_
            refine lv_iload_n hx hb dX12_total_51 rfl (lv_at hl 1 rfl) ?_
            have n22 : vp_in a0 16 := (iv_in (n := 16) f3 (by decide))
            refine th_ialdL hx hb hK hP hI 35 (mF 35 rfl) rfl rfl n22 dX12_total_52 (fun y21 ey21 => ?_)
            refine lv_goto (tgt := 57) hx hb dX12_total_53 (by decide) ?_
            rw [hQ]
            exact W.iret (v := y21) hx hb hr (fun t ht hW => ⟨⟨y21, E12, rfl, ⟨hI, hKp, trivial⟩, by show va_P (dC, dI) vwCl (WL (LC cf) ad E12) t.heap; rw [ht]; exact hP⟩, hS.F ht⟩) hS.2.2 dX12_total_57
        · --19 not
          exact absurd c10 (by decide)
      · -- isKnownC, case 1
        obtain ⟨rfl, f23⟩ := hw
        have i24 : 0 ≤ (xi (E 1) 0).toInt ∧ (xi (E 1) 0).toInt ≤ 400 := hI0.iv 1 (mF 1 rfl) rfl (Nat.le_of_ble_eq_true rfl) rfl
        refine lv_if_ne (tgt := 24) hx hb dX12_total_19 (by decide) (fun c25 => ?_) (fun c25 => ?_)
        · --19 taken
          exact absurd c25 (by decide)
        · --19 not
          refine lv_iconst (v := -1) hx hb dX12_total_22 (by decide) ?_
          rw [hQ]
          exact W.iret (v := (-1)) hx hb hr (fun t ht hW => ⟨⟨(-1), E, rfl, ⟨hI, hKp, trivial⟩, by show va_P (dC, dI) vwCl (WL (LC cf) ad E) t.heap; rw [ht]; exact hP⟩, hS.F ht⟩) hS.2.2 dX12_total_23
  · -- isBoatC, case 1
    obtain ⟨rfl, f26⟩ := hw
    have i27 : 0 ≤ (xi (E 1) 1).toInt ∧ (xi (E 1) 1).toInt ≤ 16 := hI0.iv 1 (mF 1 rfl) rfl (Nat.le_of_ble_eq_true rfl) rfl
    refine lv_if_eq (tgt := 22) hx hb dX12_total_8 (by decide) (fun c28 => ?_) (fun c28 => ?_)
    · --8 taken
      refine lv_iconst (v := -1) hx hb dX12_total_22 (by decide) ?_
      rw [hQ]
      exact W.iret (v := (-1)) hx hb hr (fun t ht hW => ⟨⟨(-1), E, rfl, ⟨hI, hKp, trivial⟩, by show va_P (dC, dI) vwCl (WL (LC cf) ad E) t.heap; rw [ht]; exact hP⟩, hS.F ht⟩) hS.2.2 dX12_total_23
    · --8 not
      exact absurd c28 (by decide)
def v_u_ranked : List Cond := .code yX12_ranked cX12_ranked 3 (some .int) :: vA
abbrev rm_u_ranked : Room := { frames := 7, cells := 0, slots := 0, locals := 280 }
def w_u_ranked : Nat → Nat → Bool := wl [19, 20, 26, 27, 28, 29, 30, 31, 32, 33, 34, 35, 36, 37] [(3, 6), (3, 7), (3, 8), (4, 2)]
set_option maxHeartbeats 4000000 in
set_option maxRecDepth 100000 in
theorem q_u_ranked (l : Launch) (dC : Nat → ClassId) (dI : Nat → Nat → Nat) (cT : Nat → ClassId) (cf : Nat → Nat) (hC : CF cf) (ad : Nat → Nat) (E : Nat → va_E) (sz : Nat) (a0 : Int32) (a1 : Int32) (hI0 : IXL cT (shC cf) (spC cf) (LC cf) ad E)  : Met l yX12_ranked v_u_ranked rm_u_ranked (va_Pc [.ref (ad 0), .int a0, .int a1] (HWL dC dI (TYC cT) cf ad E sz)) (va_Qi (S := Nat → va_E) (fun r u => IXL cT (shC cf) (spC cf) (LC cf) ad u ∧ Kp w_u_ranked E u ∧ (True)) (HBL dC dI (LC cf) ad) (va_A (WL (LC cf) ad E) sz)) 0 0 (va_A (WL (LC cf) ad E) sz) := by
  obtain ⟨⟨hc0, hc1, hc2, hc3, hc4, hc5⟩, hcr⟩ := id hC
  refine Met.ofW (cc := cX12_ranked) (maxL := 3) (ret := (some .int)) (by decide) rfl ?_
  intro p e s m args below meth c s₁ B hml hv
  obtain ⟨hargs, hsz, hP, hK, hD0, hEV⟩ := hv
  subst hsz
  have hx := B.exec
  have hb := B.bytes
  have hr := B.returns
  have hts := atoms_spec (ws := v_u_ranked) B.pre
  have hown : s.vm.findClass RX12 = some m.cls := findClass_of_methodNamed B.named
  have hlocks := B.notSynchronized
  have hinX12 : ∀ w ∈ u_ws RX12 TX12 6, w ∈ v_u_ranked := fun w h => vA_in _ w (in_X12 w h)
  generalize hAe : va_A (WL (LC cf) ad E) s.heap.size = A at hEV ⊢
  have hA : ∀ q : Nat, s.heap.size ≤ q → A q := fun q h => by rw [← hAe]; exact Or.inr h
  have hD : va_D A (WL (LC cf) ad E) := by rw [← hAe]; exact hD0.self
  have hS : va_S A s.heap s.heap [] := va_S.rf
  have hI := hI0
  have hKp : Kp w_u_ranked E E := Kp.rf
  have hl := lv_entry ([.ref (ad 0), .int a0, .int a1]) (n := 3) (Nat.le_of_ble_eq_true rfl)
  obtain ⟨Q, hQ⟩ : ∃ Q, Q = MQ below (va_Qi (S := Nat → va_E) (fun r u => IXL cT (shC cf) (spC cf) (LC cf) ad u ∧ Kp w_u_ranked E u ∧ (True)) (HBL dC dI (LC cf) ad) (A)) args s 0 0 (A) := ⟨_, rfl⟩
  rw [← hQ, show entryFrame m args 3 = _ from (congrArg (fun z => entryFrame m z 3) hargs).trans (lg_entry_eq _ _ _)]
  generalize (lg_sl ([.ref (ad 0), .int a0, .int a1]) ++ List.replicate (3 - (lg_sl ([.ref (ad 0), .int a0, .int a1])).length) Slot.unset).toArray = ls at hl ⊢
  have hl : lv_has ls 3 [(0, .ref (ad 0)), (1, .int a0), (2, .int a1)] := hl
  refine lv_iload_n hx hb dX12_ranked_0 rfl (lv_at hl 1 rfl) ?_
  refine lv_iconst (v := 0) hx hb dX12_ranked_1 (by decide) ?_
  refine lv_bipush (v := 15) hx hb dX12_ranked_2 (by decide) ?_
  refine th_pi (va_runS (As := [.int a0, .int 0, .int 15]) (rest := []) ⟨hx, hb, hml, hown, hts⟩ (q_cwithin l a0 (0 : Int32) (15 : Int32)) (va_cwS 3 hts (gi_S (in_10 _ (zs16 (zs4 (zs4 (zs4 (zs1 (zs1 (zs1 (zs0))))))))) (in_4 _ (zs16 (zs4 (zs1 (zs1 (zs0)))))) (in_4 _ (zs16 (zs4 (zs1 (zs1 (zs1 (zs0))))))) (in_4 _ (zs16 (zs4 (zs4 (zs0)))))) rfl rfl rfl hz_yX12_within_3 ⟨Nat.le_of_ble_eq_true rfl, Nat.le_of_ble_eq_true rfl⟩) ⟨fun _ _ _ _ q => q, fun _ _ _ => ⟨rfl, trivial⟩⟩ rfl rfl hl.1 rfl (lv_room (Nat.le_of_ble_eq_true rfl)) dX12_ranked_4 ⟨Nat.le_of_ble_eq_true rfl, Nat.le_of_ble_eq_true rfl⟩) hS (fun r1 H1 locs1 hw hk1 hS => ?_)
  have hP := ub_keep hP hk1
  generalize H1 = H at hP hS ⊢
  generalize locs1 = locs at hS ⊢
  rcases hw with hw | hw
  · -- cwithin, case 0
    obtain ⟨rfl, f2⟩ := hw
    have t3 : (0 : Int) ≤ a0.toInt := f2.1
    have t4 : a0.toInt ≤ 15 := f2.2
    have i5 : 0 ≤ a0.toInt ∧ a0.toInt ≤ 2147483647 := iv_le_r t3 (il_ 0) (iv_all _) (by decide)
    have i6 : 0 ≤ a0.toInt ∧ a0.toInt ≤ 15 := iv_le_l t4 i5 (il_ 15) (by decide)
    refine lv_if_eq (tgt := 21) hx hb dX12_ranked_7 (by decide) (fun c7 => ?_) (fun c7 => ?_)
    · --7 taken
      exact absurd c7 (by decide)
    · --7 not
      refine lv_aload_n hx hb dX12_ranked_10 rfl (lv_at hl 0 rfl) ?_
      refine th_getL (ci := 13) (C := RX12) (T := TX12) (N := 6) (v := .ref (ad 1)) hx hb hts hinX12 hown hK hP hI 0 (mF 0 rfl) rfl rfl 0 (Nat.le_of_ble_eq_true rfl) (hts _ (vA_in _ _ (in_10 _ (zs16 (zs1 (zs0)))))) (fun _ h9 => h9) (hI.fr 0 (mF 0 rfl) rfl (Nat.le_of_ble_eq_true rfl) 1 rfl) dX12_ranked_11 ?_
      refine lv_iload_n hx hb dX12_ranked_14 rfl (lv_at hl 2 rfl) ?_
      refine th_riL (va_runV (As := [.int a1]) (rest := []) ⟨hx, hb, hml, hown, hts⟩ (q_isKnownC l dC dI cT cf hC ad E H.size a1 hI) (cwV 1 hts (gi_V (in_18 _ (zs16 (zs4 (zs0)))) (in_6 _ (zs1 (zs1 (zs1 (zs0))))) (in_6 _ (zs4 (zs0))) (in_5 _ (zs4 (zs1 (zs1 (zs0))))) (in_6 _ (zs4 (zs1 (zs0))))) rfl rfl rfl ⟨rfl, hz_yX0_isKnown_1⟩ ⟨Nat.le_of_ble_eq_true rfl, Nat.le_of_ble_eq_true rfl⟩) ⟨HWL_bl, va_recv hK hP (ci := 1) (q0 := posL 1 (LC cf)) rfl (hI.ob 1 (mF 1 rfl) rfl), (HWL_wi hP hK (WL_D hD) hS hA hEV)⟩ rfl rfl hl.1 rfl (lv_room (Nat.le_of_ble_eq_true rfl)) dX12_ranked_15 ⟨Nat.le_of_ble_eq_true rfl, Nat.le_of_ble_eq_true rfl⟩) hS hP (fun r8 H locs hw hP hS => ?_)
      rcases hw with hw | hw
      · -- isKnownC, case 0
        obtain ⟨rfl, f9, f10⟩ := hw
        have i11 : 0 ≤ (xi (E 1) 0).toInt ∧ (xi (E 1) 0).toInt ≤ 400 := hI0.iv 1 (mF 1 rfl) rfl (Nat.le_of_ble_eq_true rfl) rfl
        refine lv_if_ne (tgt := 23) hx hb dX12_ranked_18 (by decide) (fun c12 => ?_) (fun c12 => ?_)
        · --18 taken
          refine lv_aload_n hx hb dX12_ranked_23 rfl (lv_at hl 0 rfl) ?_
          refine th_getL (ci := 13) (C := RX12) (T := TX12) (N := 6) (v := .ref (ad 4)) hx hb hts hinX12 hown hK hP hI 0 (mF 0 rfl) rfl rfl 3 (Nat.le_of_ble_eq_true rfl) (hts _ (vA_in _ _ (in_18 _ (zs16 (zs16 (zs1 (zs0))))))) (fun _ h9 => h9) (hI.fr 0 (mF 0 rfl) rfl (Nat.le_of_ble_eq_true rfl) 4 rfl) dX12_ranked_24 ?_
          refine lv_iload_n hx hb dX12_ranked_27 rfl (lv_at hl 2 rfl) ?_
          refine th_vL (va_runV (As := [.int a1]) (rest := []) ⟨hx, hb, hml, hown, hts⟩ (q_tally l dC dI cT cf hC ad E H.size a1 hI) (cwV 1 hts (gi_V (in_21 _ (zs16 (zs4 (zs1 (zs1 (zs0)))))) (in_21 _ (zs16 (zs4 (zs1 (zs1 (zs1 (zs0))))))) (in_21 _ (zs16 (zs4 (zs4 (zs0))))) (in_18 _ (zs16 (zs16 (zs0)))) (in_21 _ (zs16 (zs4 (zs4 (zs1 (zs0))))))) rfl rfl rfl ⟨rfl, hz_yX8_tally_1⟩ ⟨Nat.le_of_ble_eq_true rfl, Nat.le_of_ble_eq_true rfl⟩) ⟨HWL_bl, va_recv hK hP (ci := 9) (q0 := posL 4 (LC cf)) rfl (hI.ob 4 (mF 4 rfl) rfl), (HWL_wi hP hK (WL_D hD) hS hA hEV)⟩ rfl rfl hl.1 rfl (lv_room (Nat.le_of_ble_eq_true rfl)) dX12_ranked_28 ⟨Nat.le_of_ble_eq_true rfl, Nat.le_of_ble_eq_true rfl⟩) (WL_D hD) hS hA (fun E14 H locs hw hP hS => ?_)
          obtain ⟨hI, kq15, hw⟩ := hw
          have hKb := hKp
          have hKp := hKp.tr kq15 (wl_sub rfl rfl)
          refine lv_aload_n hx hb dX12_ranked_31 rfl (lv_at hl 0 rfl) ?_
          refine th_getL (ci := 13) (C := RX12) (T := TX12) (N := 6) (v := .ref (ad 4)) hx hb hts hinX12 hown hK hP hI 0 (mF 0 rfl) rfl rfl 3 (Nat.le_of_ble_eq_true rfl) (hts _ (vA_in _ _ (in_18 _ (zs16 (zs16 (zs1 (zs0))))))) (fun _ h9 => h9) (hI.fr 0 (mF 0 rfl) rfl (Nat.le_of_ble_eq_true rfl) 4 rfl) dX12_ranked_32 ?_
          refine lv_iload_n hx hb dX12_ranked_35 rfl (lv_at hl 1 rfl) ?_
          refine th_iL (va_runV (As := [.int a0]) (rest := []) ⟨hx, hb, hml, hown, hts⟩ (q_boatAt l dC dI cT cf hC ad E14 H.size a0 hI) (cwV 1 hts (gi_V (in_22 _ (zs4 (zs1 (zs0)))) (in_22 _ (zs4 (zs1 (zs1 (zs0))))) (in_22 _ (zs4 (zs1 (zs1 (zs1 (zs0)))))) (in_18 _ (zs16 (zs16 (zs0)))) (in_22 _ (zs4 (zs4 (zs0))))) rfl rfl rfl ⟨rfl, hz_yX8_boatAt_1⟩ ⟨Nat.le_of_ble_eq_true rfl, Nat.le_of_ble_eq_true rfl⟩) ⟨HWL_bl, va_recv hK hP (ci := 9) (q0 := posL 4 (LC cf)) rfl (hI.ob 4 (mF 4 rfl) rfl), (HWL_wi hP hK (WL_D hD) hS hA hEV)⟩ rfl rfl hl.1 rfl (lv_room (Nat.le_of_ble_eq_true rfl)) dX12_ranked_36 ⟨Nat.le_of_ble_eq_true rfl, Nat.le_of_ble_eq_true rfl⟩) (WL_D hD) hS hA (fun r16 E17 H locs hw hP hS => ?_)
          obtain ⟨hI, kq18, hw⟩ := hw
          have hKb := hKp
          have hKp := hKp.tr kq18 (wl_sub rfl rfl)
          have f19 := hw
          rw [hQ]
          exact W.iret (v := r16) hx hb hr (fun t ht hW => ⟨⟨r16, E17, rfl, ⟨hI, hKp, trivial⟩, by show va_P (dC, dI) vwCl (WL (LC cf) ad E17) t.heap; rw [ht]; exact hP⟩, hS.F ht⟩) hS.2.2 dX12_ranked_39
        · --18 not
          exact absurd c12 (by decide)
      · -- isKnownC, case 1
        obtain ⟨rfl, f20⟩ := hw
        have i21 : 0 ≤ (xi (E 1) 0).toInt ∧ (xi (E 1) 0).toInt ≤ 400 := hI0.iv 1 (mF 1 rfl) rfl (Nat.le_of_ble_eq_true rfl) rfl
        refine lv_if_ne (tgt := 23) hx hb dX12_ranked_18 (by decide) (fun c22 => ?_) (fun c22 => ?_)
        · --18 taken
          exact absurd c22 (by decide)
        · --18 not
          refine lv_iconst (v := -1) hx hb dX12_ranked_21 (by decide) ?_
          rw [hQ]
          exact W.iret (v := (-1)) hx hb hr (fun t ht hW => ⟨⟨(-1), E, rfl, ⟨hI, hKp, trivial⟩, by show va_P (dC, dI) vwCl (WL (LC cf) ad E) t.heap; rw [ht]; exact hP⟩, hS.F ht⟩) hS.2.2 dX12_ranked_22
  · -- cwithin, case 1
    obtain ⟨rfl, f23⟩ := hw
    have t24 : ¬ ((0 : Int) ≤ a0.toInt ∧ a0.toInt ≤ 15) := f23
    refine lv_if_eq (tgt := 21) hx hb dX12_ranked_7 (by decide) (fun c25 => ?_) (fun c25 => ?_)
    · --7 taken
      refine lv_iconst (v := -1) hx hb dX12_ranked_21 (by decide) ?_
      rw [hQ]
      exact W.iret (v := (-1)) hx hb hr (fun t ht hW => ⟨⟨(-1), E, rfl, ⟨hI, hKp, trivial⟩, by show va_P (dC, dI) vwCl (WL (LC cf) ad E) t.heap; rw [ht]; exact hP⟩, hS.F ht⟩) hS.2.2 dX12_ranked_22
    · --7 not
      exact absurd c25 (by decide)
def v_u_states : List Cond := .code yX12_states cX12_states 4 (some .int) :: vA
abbrev rm_u_states : Room := { frames := 4, cells := 0, slots := 0, locals := 160 }
def w_u_states : Nat → Nat → Bool := wl [38, 39, 40, 41, 42] []
set_option maxHeartbeats 4000000 in
set_option maxRecDepth 100000 in
theorem q_u_states (l : Launch) (dC : Nat → ClassId) (dI : Nat → Nat → Nat) (cT : Nat → ClassId) (cf : Nat → Nat) (hC : CF cf) (ad : Nat → Nat) (E : Nat → va_E) (sz : Nat) (a0 : Int32) (a1 : Int32) (a2 : Int32) (hI0 : IXL cT (shC cf) (spC cf) (LC cf) ad E)  : Met l yX12_states v_u_states rm_u_states (va_Pc [.ref (ad 0), .int a0, .int a1, .int a2] (HWL dC dI (TYC cT) cf ad E sz)) (va_Qi (S := Nat → va_E) (fun r u => IXL cT (shC cf) (spC cf) (LC cf) ad u ∧ Kp w_u_states E u ∧ (True)) (HBL dC dI (LC cf) ad) (va_A (WL (LC cf) ad E) sz)) 0 0 (va_A (WL (LC cf) ad E) sz) := by
  obtain ⟨⟨hc0, hc1, hc2, hc3, hc4, hc5⟩, hcr⟩ := id hC
  refine Met.ofW (cc := cX12_states) (maxL := 4) (ret := (some .int)) (by decide) rfl ?_
  intro p e s m args below meth c s₁ B hml hv
  obtain ⟨hargs, hsz, hP, hK, hD0, hEV⟩ := hv
  subst hsz
  have hx := B.exec
  have hb := B.bytes
  have hr := B.returns
  have hts := atoms_spec (ws := v_u_states) B.pre
  have hown : s.vm.findClass RX12 = some m.cls := findClass_of_methodNamed B.named
  have hlocks := B.notSynchronized
  have hinX0 : ∀ w ∈ u_ws RX0 TX0 11, w ∈ v_u_states := fun w h => vA_in _ w (in_X0 w h)
  have hinX12 : ∀ w ∈ u_ws RX12 TX12 6, w ∈ v_u_states := fun w h => vA_in _ w (in_X12 w h)
  generalize hAe : va_A (WL (LC cf) ad E) s.heap.size = A at hEV ⊢
  have hA : ∀ q : Nat, s.heap.size ≤ q → A q := fun q h => by rw [← hAe]; exact Or.inr h
  have hD : va_D A (WL (LC cf) ad E) := by rw [← hAe]; exact hD0.self
  have hS : va_S A s.heap s.heap [] := va_S.rf
  have hI := hI0
  have hKp : Kp w_u_states E E := Kp.rf
  have hl := lv_entry ([.ref (ad 0), .int a0, .int a1, .int a2]) (n := 4) (Nat.le_of_ble_eq_true rfl)
  obtain ⟨Q, hQ⟩ : ∃ Q, Q = MQ below (va_Qi (S := Nat → va_E) (fun r u => IXL cT (shC cf) (spC cf) (LC cf) ad u ∧ Kp w_u_states E u ∧ (True)) (HBL dC dI (LC cf) ad) (A)) args s 0 0 (A) := ⟨_, rfl⟩
  rw [← hQ, show entryFrame m args 4 = _ from (congrArg (fun z => entryFrame m z 4) hargs).trans (lg_entry_eq _ _ _)]
  generalize (lg_sl ([.ref (ad 0), .int a0, .int a1, .int a2]) ++ List.replicate (4 - (lg_sl ([.ref (ad 0), .int a0, .int a1, .int a2])).length) Slot.unset).toArray = ls at hl ⊢
  have hl : lv_has ls 4 [(0, .ref (ad 0)), (1, .int a0), (2, .int a1), (3, .int a2)] := hl
  refine lv_aload_n hx hb dX12_states_0 rfl (lv_at hl 0 rfl) ?_
  refine th_getL (ci := 13) (C := RX12) (T := TX12) (N := 6) (v := .ref (ad 1)) hx hb hts hinX12 hown hK hP hI 0 (mF 0 rfl) rfl rfl 0 (Nat.le_of_ble_eq_true rfl) (hts _ (vA_in _ _ (in_10 _ (zs16 (zs1 (zs0)))))) (fun _ h9 => h9) (hI.fr 0 (mF 0 rfl) rfl (Nat.le_of_ble_eq_true rfl) 1 rfl) dX12_states_1 ?_
  refine lv_iload_n hx hb dX12_states_4 rfl (lv_at hl 1 rfl) ?_
  refine lv_iload_n hx hb dX12_states_5 rfl (lv_at hl 3 rfl) ?_
  refine th_riL (va_runV (As := [.int a0, .int a2]) (rest := []) ⟨hx, hb, hml, hown, hts⟩ (q_isProtestedC l dC dI cT cf hC ad E s.heap.size a0 a2 hI) (cwV 2 hts (gi_V (in_14 _ (zs16 (zs4 (zs1 (zs0))))) (in_14 _ (zs16 (zs4 (zs1 (zs1 (zs0)))))) (in_14 _ (zs16 (zs4 (zs1 (zs1 (zs1 (zs0))))))) (in_5 _ (zs4 (zs1 (zs1 (zs0))))) (in_6 _ (zs16 (zs4 (zs0))))) rfl rfl rfl ⟨rfl, hz_yX0_isProtested_2⟩ ⟨Nat.le_of_ble_eq_true rfl, Nat.le_of_ble_eq_true rfl⟩) ⟨HWL_bl, va_recv hK hP (ci := 1) (q0 := posL 1 (LC cf)) rfl (hI.ob 1 (mF 1 rfl) rfl), (HWL_wi hP hK (WL_D hD) hS hA hEV)⟩ rfl rfl hl.1 rfl (lv_room (Nat.le_of_ble_eq_true rfl)) dX12_states_6 ⟨Nat.le_of_ble_eq_true rfl, Nat.le_of_ble_eq_true rfl⟩) hS hP (fun r1 H locs hw hP hS => ?_)
  rcases hw with hw | hw
  · -- isProtestedC, case 0
    obtain ⟨rfl, f2, f3, f4⟩ := hw
    have i5 : 0 ≤ (xi (E 1) 0).toInt ∧ (xi (E 1) 0).toInt ≤ 400 := hI0.iv 1 (mF 1 rfl) rfl (Nat.le_of_ble_eq_true rfl) rfl
    refine lv_if_eq (tgt := 21) hx hb dX12_states_9 (by decide) (fun c6 => ?_) (fun c6 => ?_)
    · --9 taken
      exact absurd c6 (by decide)
    · --9 not
      refine lv_iload_n hx hb dX12_states_12 rfl (lv_at hl 2 rfl) ?_
      refine lv_iconst (v := 0) hx hb dX12_states_13 (by decide) ?_
      refine lv_iconst (v := 1) hx hb dX12_states_14 (by decide) ?_
      refine th_pi (va_runS (As := [.int a1, .int 0, .int 1]) (rest := []) ⟨hx, hb, hml, hown, hts⟩ (q_cwithin l a1 (0 : Int32) (1 : Int32)) (va_cwS 3 hts (gi_S (in_10 _ (zs16 (zs4 (zs4 (zs4 (zs1 (zs1 (zs1 (zs0))))))))) (in_4 _ (zs16 (zs4 (zs1 (zs1 (zs0)))))) (in_4 _ (zs16 (zs4 (zs1 (zs1 (zs1 (zs0))))))) (in_4 _ (zs16 (zs4 (zs4 (zs0)))))) rfl rfl rfl hz_yX12_within_3 ⟨Nat.le_of_ble_eq_true rfl, Nat.le_of_ble_eq_true rfl⟩) ⟨fun _ _ _ _ q => q, fun _ _ _ => ⟨rfl, trivial⟩⟩ rfl rfl hl.1 rfl (lv_room (Nat.le_of_ble_eq_true rfl)) dX12_states_15 ⟨Nat.le_of_ble_eq_true rfl, Nat.le_of_ble_eq_true rfl⟩) hS (fun r7 H1 locs1 hw hk1 hS => ?_)
      have hP := ub_keep hP hk1
      generalize H1 = H at hP hS ⊢
      generalize locs1 = locs at hS ⊢
      rcases hw with hw | hw
      · -- cwithin, case 0
        obtain ⟨rfl, f8⟩ := hw
        have t9 : (0 : Int) ≤ a1.toInt := f8.1
        have t10 : a1.toInt ≤ 1 := f8.2
        have i11 : 0 ≤ a1.toInt ∧ a1.toInt ≤ 2147483647 := iv_le_r t9 (il_ 0) (iv_all _) (by decide)
        have i12 : 0 ≤ a1.toInt ∧ a1.toInt ≤ 1 := iv_le_l t10 i11 (il_ 1) (by decide)
        refine lv_if_ne (tgt := 23) hx hb dX12_states_18 (by decide) (fun c13 => ?_) (fun c13 => ?_)
        · --18 taken
          refine lv_aload_n hx hb dX12_states_23 rfl (lv_at hl 0 rfl) ?_
          refine th_getL (ci := 13) (C := RX12) (T := TX12) (N := 6) (v := .ref (ad 5)) hx hb hts hinX12 hown hK hP hI 0 (mF 0 rfl) rfl rfl 4 (Nat.le_of_ble_eq_true rfl) (hts _ (vA_in _ _ (in_14 _ (zs16 (zs4 (zs0)))))) (fun _ h9 => h9) (hI.fr 0 (mF 0 rfl) rfl (Nat.le_of_ble_eq_true rfl) 5 rfl) dX12_states_24 ?_
          refine lv_aload_n hx hb dX12_states_27 rfl (lv_at hl 0 rfl) ?_
          refine th_getL (ci := 13) (C := RX12) (T := TX12) (N := 6) (v := .ref (ad 1)) hx hb hts hinX12 hown hK hP hI 0 (mF 0 rfl) rfl rfl 0 (Nat.le_of_ble_eq_true rfl) (hts _ (vA_in _ _ (in_10 _ (zs16 (zs1 (zs0)))))) (fun _ h9 => h9) (hI.fr 0 (mF 0 rfl) rfl (Nat.le_of_ble_eq_true rfl) 1 rfl) dX12_states_28 ?_
          refine th_getL (ci := 1) (C := RX0) (T := TX0) (N := 11) (v := .ref (ad 12)) hx hb hts hinX0 hown hK hP hI 1 (mF 1 rfl) rfl rfl 8 (Nat.le_of_ble_eq_true rfl) (hts _ (vA_in _ _ (in_14 _ (zs4 (zs4 (zs1 (zs1 (zs0)))))))) (fun _ h9 => h9) (hI.fr 1 (mF 1 rfl) rfl (Nat.le_of_ble_eq_true rfl) 12 rfl) dX12_states_31 ?_
          refine lv_iload_n hx hb dX12_states_34 rfl (lv_at hl 1 rfl) ?_
          refine th_rrL (va_runV (As := [.int a0]) (rest := [.ref (ad 5)]) ⟨hx, hb, hml, hown, hts⟩ (q_get5 l dC dI cT cf hC ad E H.size a0 hI (by omega)) (cwV 1 hts (gi_V (in_14 _ (zs16 (zs4 (zs4 (zs0))))) (in_4 _ (zs16 (zs16 (zs4 (zs1 (zs1 (zs0))))))) (in_4 _ (zs16 (zs16 (zs4 (zs1 (zs1 (zs1 (zs0)))))))) (in_3 _ (zs16 (zs1 (zs1 (zs0))))) (in_3 _ (zs16 (zs16 (zs4 (zs1 (zs1 (zs1 (zs0))))))))) rfl rfl rfl ⟨rfl, hz_yJx4a65c_get_915e3_1⟩ ⟨Nat.le_of_ble_eq_true rfl, Nat.le_of_ble_eq_true rfl⟩) ⟨HWL_bl, va_recv hK hP (ci := 0) (q0 := posL 12 (LC cf)) rfl (hI.ob 12 (mF 12 rfl) rfl), (HWL_wi hP hK (WL_D hD) hS hA hEV)⟩ rfl rfl hl.1 rfl (lv_room (Nat.le_of_ble_eq_true rfl)) dX12_states_35 ⟨Nat.le_of_ble_eq_true rfl, Nat.le_of_ble_eq_true rfl⟩) hS hP (fun r14 H locs hw hP hS => ?_)
          obtain rfl := hw
          have lv15 : a0.toNatClampNeg < cf 5 := by rw [tn_]; omega
          refine va_castS (cC := dC 5) hx hb hown (hts _ (vA_in _ _ (in_14 _ (zs16 (zs1 (zs1 (zs1 (zs0)))))))) (hK.1 5 _ rfl).2 (va_recv hK hP (ci := 5) (q0 := posL (64 * (a0.toNatClampNeg + 1) + 14) (LC cf)) rfl (hI.ob (64 * (a0.toNatClampNeg + 1) + 14) (mP 14 a0.toNatClampNeg (by decide) lv15 (kl_le hC 5 (by decide))) (shC_p 14 a0.toNatClampNeg (by decide)))) dX12_states_38 ?_
          refine lv_iload_n hx hb dX12_states_41 rfl (lv_at hl 2 rfl) ?_
          refine lv_iload_n hx hb dX12_states_42 rfl (lv_at hl 3 rfl) ?_
          refine th_iL (va_runV (As := [.ref (ad (64 * (a0.toNatClampNeg + 1) + 14)), .int a1, .int a2]) (rest := []) ⟨hx, hb, hml, hown, hts⟩ (q_statesOf l dC dI cT cf hC ad E H.size a1 a2 a0.toNatClampNeg hI (by omega) i12 f4) (cwV 3 hts (gi_V (in_23 _ (zs1 (zs1 (zs1 (zs0))))) (in_15 _ (zs4 (zs1 (zs1 (zs1 (zs0)))))) (in_15 _ (zs4 (zs4 (zs0)))) (in_14 _ (zs16 (zs16 (zs0)))) (in_15 _ (zs4 (zs4 (zs1 (zs0)))))) rfl rfl rfl ⟨rfl, hz_yX2_statesOf_3⟩ ⟨Nat.le_of_ble_eq_true rfl, Nat.le_of_ble_eq_true rfl⟩) ⟨HWL_bl, va_recv hK hP (ci := 3) (q0 := posL 5 (LC cf)) rfl (hI.ob 5 (mF 5 rfl) rfl), (HWL_wi hP hK (WL_D hD) hS hA hEV)⟩ rfl rfl hl.1 rfl (lv_room (Nat.le_of_ble_eq_true rfl)) dX12_states_43 ⟨Nat.le_of_ble_eq_true rfl, Nat.le_of_ble_eq_true rfl⟩) (WL_D hD) hS hA (fun r16 E17 H locs hw hP hS => ?_)
          obtain ⟨hI, kq18, hw⟩ := hw
          have hKb := hKp
          have hKp := hKp.tr kq18 (wl_sub rfl rfl)
          rw [hQ]
          exact W.iret (v := r16) hx hb hr (fun t ht hW => ⟨⟨r16, E17, rfl, ⟨hI, hKp, trivial⟩, by show va_P (dC, dI) vwCl (WL (LC cf) ad E17) t.heap; rw [ht]; exact hP⟩, hS.F ht⟩) hS.2.2 dX12_states_46
        · --18 not
          exact absurd c13 (by decide)
      · -- cwithin, case 1
        obtain ⟨rfl, f19⟩ := hw
        have t20 : ¬ ((0 : Int) ≤ a1.toInt ∧ a1.toInt ≤ 1) := f19
        refine lv_if_ne (tgt := 23) hx hb dX12_states_18 (by decide) (fun c21 => ?_) (fun c21 => ?_)
        · --18 taken
          exact absurd c21 (by decide)
        · --18 not
          refine lv_iconst (v := -1) hx hb dX12_states_21 (by decide) ?_
          rw [hQ]
          exact W.iret (v := (-1)) hx hb hr (fun t ht hW => ⟨⟨(-1), E, rfl, ⟨hI, hKp, trivial⟩, by show va_P (dC, dI) vwCl (WL (LC cf) ad E) t.heap; rw [ht]; exact hP⟩, hS.F ht⟩) hS.2.2 dX12_states_22
  · -- isProtestedC, case 1
    obtain ⟨rfl, f22⟩ := hw
    have i23 : 0 ≤ (xi (E 1) 0).toInt ∧ (xi (E 1) 0).toInt ≤ 400 := hI0.iv 1 (mF 1 rfl) rfl (Nat.le_of_ble_eq_true rfl) rfl
    refine lv_if_eq (tgt := 21) hx hb dX12_states_9 (by decide) (fun c24 => ?_) (fun c24 => ?_)
    · --9 taken
      refine lv_iconst (v := -1) hx hb dX12_states_21 (by decide) ?_
      rw [hQ]
      exact W.iret (v := (-1)) hx hb hr (fun t ht hW => ⟨⟨(-1), E, rfl, ⟨hI, hKp, trivial⟩, by show va_P (dC, dI) vwCl (WL (LC cf) ad E) t.heap; rw [ht]; exact hP⟩, hS.F ht⟩) hS.2.2 dX12_states_22
    · --9 not
      exact absurd c24 (by decide)
def v_u_finding : List Cond := .code yX12_finding cX12_finding 4 (some .int) :: vA
abbrev rm_u_finding : Room := { frames := 7, cells := 0, slots := 0, locals := 280 }
def w_u_finding : Nat → Nat → Bool := wl [19, 20, 38, 39, 40, 41, 42] [(5, 6), (5, 7), (5, 8), (5, 9)]
set_option maxHeartbeats 4000000 in
set_option maxRecDepth 100000 in
theorem q_u_finding (l : Launch) (dC : Nat → ClassId) (dI : Nat → Nat → Nat) (cT : Nat → ClassId) (cf : Nat → Nat) (hC : CF cf) (ad : Nat → Nat) (E : Nat → va_E) (sz : Nat) (a0 : Int32) (a1 : Int32) (a2 : Int32) (hI0 : IXL cT (shC cf) (spC cf) (LC cf) ad E)  : Met l yX12_finding v_u_finding rm_u_finding (va_Pc [.ref (ad 0), .int a0, .int a1, .int a2] (HWL dC dI (TYC cT) cf ad E sz)) (va_Qi (S := Nat → va_E) (fun r u => IXL cT (shC cf) (spC cf) (LC cf) ad u ∧ Kp w_u_finding E u ∧ (True)) (HBL dC dI (LC cf) ad) (va_A (WL (LC cf) ad E) sz)) 0 0 (va_A (WL (LC cf) ad E) sz) := by
  obtain ⟨⟨hc0, hc1, hc2, hc3, hc4, hc5⟩, hcr⟩ := id hC
  refine Met.ofW (cc := cX12_finding) (maxL := 4) (ret := (some .int)) (by decide) rfl ?_
  intro p e s m args below meth c s₁ B hml hv
  obtain ⟨hargs, hsz, hP, hK, hD0, hEV⟩ := hv
  subst hsz
  have hx := B.exec
  have hb := B.bytes
  have hr := B.returns
  have hts := atoms_spec (ws := v_u_finding) B.pre
  have hown : s.vm.findClass RX12 = some m.cls := findClass_of_methodNamed B.named
  have hlocks := B.notSynchronized
  have hinX0 : ∀ w ∈ u_ws RX0 TX0 11, w ∈ v_u_finding := fun w h => vA_in _ w (in_X0 w h)
  have hinX12 : ∀ w ∈ u_ws RX12 TX12 6, w ∈ v_u_finding := fun w h => vA_in _ w (in_X12 w h)
  generalize hAe : va_A (WL (LC cf) ad E) s.heap.size = A at hEV ⊢
  have hA : ∀ q : Nat, s.heap.size ≤ q → A q := fun q h => by rw [← hAe]; exact Or.inr h
  have hD : va_D A (WL (LC cf) ad E) := by rw [← hAe]; exact hD0.self
  have hS : va_S A s.heap s.heap [] := va_S.rf
  have hI := hI0
  have hKp : Kp w_u_finding E E := Kp.rf
  have hl := lv_entry ([.ref (ad 0), .int a0, .int a1, .int a2]) (n := 4) (Nat.le_of_ble_eq_true rfl)
  obtain ⟨Q, hQ⟩ : ∃ Q, Q = MQ below (va_Qi (S := Nat → va_E) (fun r u => IXL cT (shC cf) (spC cf) (LC cf) ad u ∧ Kp w_u_finding E u ∧ (True)) (HBL dC dI (LC cf) ad) (A)) args s 0 0 (A) := ⟨_, rfl⟩
  rw [← hQ, show entryFrame m args 4 = _ from (congrArg (fun z => entryFrame m z 4) hargs).trans (lg_entry_eq _ _ _)]
  generalize (lg_sl ([.ref (ad 0), .int a0, .int a1, .int a2]) ++ List.replicate (4 - (lg_sl ([.ref (ad 0), .int a0, .int a1, .int a2])).length) Slot.unset).toArray = ls at hl ⊢
  have hl : lv_has ls 4 [(0, .ref (ad 0)), (1, .int a0), (2, .int a1), (3, .int a2)] := hl
  refine lv_aload_n hx hb dX12_finding_0 rfl (lv_at hl 0 rfl) ?_
  refine th_getL (ci := 13) (C := RX12) (T := TX12) (N := 6) (v := .ref (ad 1)) hx hb hts hinX12 hown hK hP hI 0 (mF 0 rfl) rfl rfl 0 (Nat.le_of_ble_eq_true rfl) (hts _ (vA_in _ _ (in_10 _ (zs16 (zs1 (zs0)))))) (fun _ h9 => h9) (hI.fr 0 (mF 0 rfl) rfl (Nat.le_of_ble_eq_true rfl) 1 rfl) dX12_finding_1 ?_
  refine lv_iload_n hx hb dX12_finding_4 rfl (lv_at hl 1 rfl) ?_
  refine lv_iload_n hx hb dX12_finding_5 rfl (lv_at hl 3 rfl) ?_
  refine th_riL (va_runV (As := [.int a0, .int a2]) (rest := []) ⟨hx, hb, hml, hown, hts⟩ (q_isProtestedC l dC dI cT cf hC ad E s.heap.size a0 a2 hI) (cwV 2 hts (gi_V (in_14 _ (zs16 (zs4 (zs1 (zs0))))) (in_14 _ (zs16 (zs4 (zs1 (zs1 (zs0)))))) (in_14 _ (zs16 (zs4 (zs1 (zs1 (zs1 (zs0))))))) (in_5 _ (zs4 (zs1 (zs1 (zs0))))) (in_6 _ (zs16 (zs4 (zs0))))) rfl rfl rfl ⟨rfl, hz_yX0_isProtested_2⟩ ⟨Nat.le_of_ble_eq_true rfl, Nat.le_of_ble_eq_true rfl⟩) ⟨HWL_bl, va_recv hK hP (ci := 1) (q0 := posL 1 (LC cf)) rfl (hI.ob 1 (mF 1 rfl) rfl), (HWL_wi hP hK (WL_D hD) hS hA hEV)⟩ rfl rfl hl.1 rfl (lv_room (Nat.le_of_ble_eq_true rfl)) dX12_finding_6 ⟨Nat.le_of_ble_eq_true rfl, Nat.le_of_ble_eq_true rfl⟩) hS hP (fun r1 H locs hw hP hS => ?_)
  rcases hw with hw | hw
  · -- isProtestedC, case 0
    obtain ⟨rfl, f2, f3, f4⟩ := hw
    have i5 : 0 ≤ (xi (E 1) 0).toInt ∧ (xi (E 1) 0).toInt ≤ 400 := hI0.iv 1 (mF 1 rfl) rfl (Nat.le_of_ble_eq_true rfl) rfl
    refine lv_if_eq (tgt := 21) hx hb dX12_finding_9 (by decide) (fun c6 => ?_) (fun c6 => ?_)
    · --9 taken
      exact absurd c6 (by decide)
    · --9 not
      refine lv_iload_n hx hb dX12_finding_12 rfl (lv_at hl 2 rfl) ?_
      refine lv_iconst (v := 0) hx hb dX12_finding_13 (by decide) ?_
      refine lv_iconst (v := 1) hx hb dX12_finding_14 (by decide) ?_
      refine th_pi (va_runS (As := [.int a1, .int 0, .int 1]) (rest := []) ⟨hx, hb, hml, hown, hts⟩ (q_cwithin l a1 (0 : Int32) (1 : Int32)) (va_cwS 3 hts (gi_S (in_10 _ (zs16 (zs4 (zs4 (zs4 (zs1 (zs1 (zs1 (zs0))))))))) (in_4 _ (zs16 (zs4 (zs1 (zs1 (zs0)))))) (in_4 _ (zs16 (zs4 (zs1 (zs1 (zs1 (zs0))))))) (in_4 _ (zs16 (zs4 (zs4 (zs0)))))) rfl rfl rfl hz_yX12_within_3 ⟨Nat.le_of_ble_eq_true rfl, Nat.le_of_ble_eq_true rfl⟩) ⟨fun _ _ _ _ q => q, fun _ _ _ => ⟨rfl, trivial⟩⟩ rfl rfl hl.1 rfl (lv_room (Nat.le_of_ble_eq_true rfl)) dX12_finding_15 ⟨Nat.le_of_ble_eq_true rfl, Nat.le_of_ble_eq_true rfl⟩) hS (fun r7 H1 locs1 hw hk1 hS => ?_)
      have hP := ub_keep hP hk1
      generalize H1 = H at hP hS ⊢
      generalize locs1 = locs at hS ⊢
      rcases hw with hw | hw
      · -- cwithin, case 0
        obtain ⟨rfl, f8⟩ := hw
        have t9 : (0 : Int) ≤ a1.toInt := f8.1
        have t10 : a1.toInt ≤ 1 := f8.2
        have i11 : 0 ≤ a1.toInt ∧ a1.toInt ≤ 2147483647 := iv_le_r t9 (il_ 0) (iv_all _) (by decide)
        have i12 : 0 ≤ a1.toInt ∧ a1.toInt ≤ 1 := iv_le_l t10 i11 (il_ 1) (by decide)
        refine lv_if_ne (tgt := 23) hx hb dX12_finding_18 (by decide) (fun c13 => ?_) (fun c13 => ?_)
        · --18 taken
          refine lv_aload_n hx hb dX12_finding_23 rfl (lv_at hl 0 rfl) ?_
          refine th_getL (ci := 13) (C := RX12) (T := TX12) (N := 6) (v := .ref (ad 5)) hx hb hts hinX12 hown hK hP hI 0 (mF 0 rfl) rfl rfl 4 (Nat.le_of_ble_eq_true rfl) (hts _ (vA_in _ _ (in_14 _ (zs16 (zs4 (zs0)))))) (fun _ h9 => h9) (hI.fr 0 (mF 0 rfl) rfl (Nat.le_of_ble_eq_true rfl) 5 rfl) dX12_finding_24 ?_
          refine lv_aload_n hx hb dX12_finding_27 rfl (lv_at hl 0 rfl) ?_
          refine th_getL (ci := 13) (C := RX12) (T := TX12) (N := 6) (v := .ref (ad 1)) hx hb hts hinX12 hown hK hP hI 0 (mF 0 rfl) rfl rfl 0 (Nat.le_of_ble_eq_true rfl) (hts _ (vA_in _ _ (in_10 _ (zs16 (zs1 (zs0)))))) (fun _ h9 => h9) (hI.fr 0 (mF 0 rfl) rfl (Nat.le_of_ble_eq_true rfl) 1 rfl) dX12_finding_28 ?_
          refine th_getL (ci := 1) (C := RX0) (T := TX0) (N := 11) (v := .ref (ad 12)) hx hb hts hinX0 hown hK hP hI 1 (mF 1 rfl) rfl rfl 8 (Nat.le_of_ble_eq_true rfl) (hts _ (vA_in _ _ (in_14 _ (zs4 (zs4 (zs1 (zs1 (zs0)))))))) (fun _ h9 => h9) (hI.fr 1 (mF 1 rfl) rfl (Nat.le_of_ble_eq_true rfl) 12 rfl) dX12_finding_31 ?_
          refine lv_iload_n hx hb dX12_finding_34 rfl (lv_at hl 1 rfl) ?_
          refine th_rrL (va_runV (As := [.int a0]) (rest := [.ref (ad 5)]) ⟨hx, hb, hml, hown, hts⟩ (q_get5 l dC dI cT cf hC ad E H.size a0 hI (by omega)) (cwV 1 hts (gi_V (in_14 _ (zs16 (zs4 (zs4 (zs0))))) (in_4 _ (zs16 (zs16 (zs4 (zs1 (zs1 (zs0))))))) (in_4 _ (zs16 (zs16 (zs4 (zs1 (zs1 (zs1 (zs0)))))))) (in_3 _ (zs16 (zs1 (zs1 (zs0))))) (in_3 _ (zs16 (zs16 (zs4 (zs1 (zs1 (zs1 (zs0))))))))) rfl rfl rfl ⟨rfl, hz_yJx4a65c_get_915e3_1⟩ ⟨Nat.le_of_ble_eq_true rfl, Nat.le_of_ble_eq_true rfl⟩) ⟨HWL_bl, va_recv hK hP (ci := 0) (q0 := posL 12 (LC cf)) rfl (hI.ob 12 (mF 12 rfl) rfl), (HWL_wi hP hK (WL_D hD) hS hA hEV)⟩ rfl rfl hl.1 rfl (lv_room (Nat.le_of_ble_eq_true rfl)) dX12_finding_35 ⟨Nat.le_of_ble_eq_true rfl, Nat.le_of_ble_eq_true rfl⟩) hS hP (fun r14 H locs hw hP hS => ?_)
          obtain rfl := hw
          have lv15 : a0.toNatClampNeg < cf 5 := by rw [tn_]; omega
          refine va_castS (cC := dC 5) hx hb hown (hts _ (vA_in _ _ (in_14 _ (zs16 (zs1 (zs1 (zs1 (zs0)))))))) (hK.1 5 _ rfl).2 (va_recv hK hP (ci := 5) (q0 := posL (64 * (a0.toNatClampNeg + 1) + 14) (LC cf)) rfl (hI.ob (64 * (a0.toNatClampNeg + 1) + 14) (mP 14 a0.toNatClampNeg (by decide) lv15 (kl_le hC 5 (by decide))) (shC_p 14 a0.toNatClampNeg (by decide)))) dX12_finding_38 ?_
          refine lv_iload_n hx hb dX12_finding_41 rfl (lv_at hl 2 rfl) ?_
          refine lv_iload_n hx hb dX12_finding_42 rfl (lv_at hl 3 rfl) ?_
          refine th_iL (va_runV (As := [.ref (ad (64 * (a0.toNatClampNeg + 1) + 14)), .int a1, .int a2]) (rest := []) ⟨hx, hb, hml, hown, hts⟩ (q_find l dC dI cT cf hC ad E H.size a1 a2 a0.toNatClampNeg hI (by omega) f4) (cwV 3 hts (gi_V (in_14 _ (zs16 (zs4 (zs4 (zs4 (zs1 (zs0))))))) (in_14 _ (zs16 (zs4 (zs4 (zs4 (zs1 (zs1 (zs0)))))))) (in_14 _ (zs16 (zs4 (zs4 (zs4 (zs1 (zs1 (zs1 (zs0))))))))) (in_14 _ (zs16 (zs16 (zs0)))) (in_14 _ (zs16 (zs16 (zs1 (zs0)))))) rfl rfl rfl ⟨rfl, hz_yX2_find_3⟩ ⟨Nat.le_of_ble_eq_true rfl, Nat.le_of_ble_eq_true rfl⟩) ⟨HWL_bl, va_recv hK hP (ci := 3) (q0 := posL 5 (LC cf)) rfl (hI.ob 5 (mF 5 rfl) rfl), (HWL_wi hP hK (WL_D hD) hS hA hEV)⟩ rfl rfl hl.1 rfl (lv_room (Nat.le_of_ble_eq_true rfl)) dX12_finding_43 ⟨Nat.le_of_ble_eq_true rfl, Nat.le_of_ble_eq_true rfl⟩) (WL_D hD) hS hA (fun r16 E17 H locs hw hP hS => ?_)
          obtain ⟨hI, kq18, hw⟩ := hw
          have hKb := hKp
          have hKp := hKp.tr kq18 (wl_sub rfl rfl)
          have f19 := hw
          rw [hQ]
          exact W.iret (v := r16) hx hb hr (fun t ht hW => ⟨⟨r16, E17, rfl, ⟨hI, hKp, trivial⟩, by show va_P (dC, dI) vwCl (WL (LC cf) ad E17) t.heap; rw [ht]; exact hP⟩, hS.F ht⟩) hS.2.2 dX12_finding_46
        · --18 not
          exact absurd c13 (by decide)
      · -- cwithin, case 1
        obtain ⟨rfl, f20⟩ := hw
        have t21 : ¬ ((0 : Int) ≤ a1.toInt ∧ a1.toInt ≤ 1) := f20
        refine lv_if_ne (tgt := 23) hx hb dX12_finding_18 (by decide) (fun c22 => ?_) (fun c22 => ?_)
        · --18 taken
          exact absurd c22 (by decide)
        · --18 not
          refine lv_iconst (v := -1) hx hb dX12_finding_21 (by decide) ?_
          rw [hQ]
          exact W.iret (v := (-1)) hx hb hr (fun t ht hW => ⟨⟨(-1), E, rfl, ⟨hI, hKp, trivial⟩, by show va_P (dC, dI) vwCl (WL (LC cf) ad E) t.heap; rw [ht]; exact hP⟩, hS.F ht⟩) hS.2.2 dX12_finding_22
  · -- isProtestedC, case 1
    obtain ⟨rfl, f23⟩ := hw
    have i24 : 0 ≤ (xi (E 1) 0).toInt ∧ (xi (E 1) 0).toInt ≤ 400 := hI0.iv 1 (mF 1 rfl) rfl (Nat.le_of_ble_eq_true rfl) rfl
    refine lv_if_eq (tgt := 21) hx hb dX12_finding_9 (by decide) (fun c25 => ?_) (fun c25 => ?_)
    · --9 taken
      refine lv_iconst (v := -1) hx hb dX12_finding_21 (by decide) ?_
      rw [hQ]
      exact W.iret (v := (-1)) hx hb hr (fun t ht hW => ⟨⟨(-1), E, rfl, ⟨hI, hKp, trivial⟩, by show va_P (dC, dI) vwCl (WL (LC cf) ad E) t.heap; rw [ht]; exact hP⟩, hS.F ht⟩) hS.2.2 dX12_finding_22
    · --9 not
      exact absurd c25 (by decide)
def v_u_even : List Cond := .code yX12_even cX12_even 2 (some .int) :: vA
abbrev rm_u_even : Room := { frames := 8, cells := 0, slots := 0, locals := 320 }
def w_u_even : Nat → Nat → Bool := wl [19, 20, 26, 27, 28, 29, 30, 43, 44, 45, 46, 52, 53, 54, 55] [(3, 6), (3, 7), (3, 8), (6, 15), (6, 16)]
set_option maxHeartbeats 4000000 in
set_option maxRecDepth 100000 in
theorem q_u_even (l : Launch) (dC : Nat → ClassId) (dI : Nat → Nat → Nat) (cT : Nat → ClassId) (cf : Nat → Nat) (hC : CF cf) (ad : Nat → Nat) (E : Nat → va_E) (sz : Nat) (a0 : Int32) (hI0 : IXL cT (shC cf) (spC cf) (LC cf) ad E)  : Met l yX12_even v_u_even rm_u_even (va_Pc [.ref (ad 0), .int a0] (HWL dC dI (TYC cT) cf ad E sz)) (va_Qi (S := Nat → va_E) (fun r u => IXL cT (shC cf) (spC cf) (LC cf) ad u ∧ Kp w_u_even E u ∧ (True)) (HBL dC dI (LC cf) ad) (va_A (WL (LC cf) ad E) sz)) 0 0 (va_A (WL (LC cf) ad E) sz) := by
  obtain ⟨⟨hc0, hc1, hc2, hc3, hc4, hc5⟩, hcr⟩ := id hC
  refine Met.ofW (cc := cX12_even) (maxL := 2) (ret := (some .int)) (by decide) rfl ?_
  intro p e s m args below meth c s₁ B hml hv
  obtain ⟨hargs, hsz, hP, hK, hD0, hEV⟩ := hv
  subst hsz
  have hx := B.exec
  have hb := B.bytes
  have hr := B.returns
  have hts := atoms_spec (ws := v_u_even) B.pre
  have hown : s.vm.findClass RX12 = some m.cls := findClass_of_methodNamed B.named
  have hlocks := B.notSynchronized
  have hinX12 : ∀ w ∈ u_ws RX12 TX12 6, w ∈ v_u_even := fun w h => vA_in _ w (in_X12 w h)
  have hinX3 : ∀ w ∈ u_ws RX3 TX3 18, w ∈ v_u_even := fun w h => vA_in _ w (in_X3 w h)
  generalize hAe : va_A (WL (LC cf) ad E) s.heap.size = A at hEV ⊢
  have hA : ∀ q : Nat, s.heap.size ≤ q → A q := fun q h => by rw [← hAe]; exact Or.inr h
  have hD : va_D A (WL (LC cf) ad E) := by rw [← hAe]; exact hD0.self
  have hS : va_S A s.heap s.heap [] := va_S.rf
  have hI := hI0
  have hKp : Kp w_u_even E E := Kp.rf
  have hl := lv_entry ([.ref (ad 0), .int a0]) (n := 2) (Nat.le_of_ble_eq_true rfl)
  obtain ⟨Q, hQ⟩ : ∃ Q, Q = MQ below (va_Qi (S := Nat → va_E) (fun r u => IXL cT (shC cf) (spC cf) (LC cf) ad u ∧ Kp w_u_even E u ∧ (True)) (HBL dC dI (LC cf) ad) (A)) args s 0 0 (A) := ⟨_, rfl⟩
  rw [← hQ, show entryFrame m args 2 = _ from (congrArg (fun z => entryFrame m z 2) hargs).trans (lg_entry_eq _ _ _)]
  generalize (lg_sl ([.ref (ad 0), .int a0]) ++ List.replicate (2 - (lg_sl ([.ref (ad 0), .int a0])).length) Slot.unset).toArray = ls at hl ⊢
  have hl : lv_has ls 2 [(0, .ref (ad 0)), (1, .int a0)] := hl
  refine lv_aload_n hx hb dX12_even_0 rfl (lv_at hl 0 rfl) ?_
  refine th_getL (ci := 13) (C := RX12) (T := TX12) (N := 6) (v := .ref (ad 1)) hx hb hts hinX12 hown hK hP hI 0 (mF 0 rfl) rfl rfl 0 (Nat.le_of_ble_eq_true rfl) (hts _ (vA_in _ _ (in_10 _ (zs16 (zs1 (zs0)))))) (fun _ h9 => h9) (hI.fr 0 (mF 0 rfl) rfl (Nat.le_of_ble_eq_true rfl) 1 rfl) dX12_even_1 ?_
  refine lv_iload_n hx hb dX12_even_4 rfl (lv_at hl 1 rfl) ?_
  refine th_riL (va_runV (As := [.int a0]) (rest := []) ⟨hx, hb, hml, hown, hts⟩ (q_areSome l dC dI cT cf hC ad E s.heap.size a0 hI) (cwV 1 hts (gi_V (in_11 _ (zs4 (zs4 (zs1 (zs0))))) (in_11 _ (zs4 (zs4 (zs1 (zs1 (zs0)))))) (in_11 _ (zs4 (zs4 (zs1 (zs1 (zs1 (zs0))))))) (in_5 _ (zs4 (zs1 (zs1 (zs0))))) (in_4 _ (zs16 (zs4 (zs0))))) rfl rfl rfl ⟨rfl, hz_yX0_areSome_1⟩ ⟨Nat.le_of_ble_eq_true rfl, Nat.le_of_ble_eq_true rfl⟩) ⟨HWL_bl, va_recv hK hP (ci := 1) (q0 := posL 1 (LC cf)) rfl (hI.ob 1 (mF 1 rfl) rfl), (HWL_wi hP hK (WL_D hD) hS hA hEV)⟩ rfl rfl hl.1 rfl (lv_room (Nat.le_of_ble_eq_true rfl)) dX12_even_5 ⟨Nat.le_of_ble_eq_true rfl, Nat.le_of_ble_eq_true rfl⟩) hS hP (fun r1 H locs hw hP hS => ?_)
  rcases hw with hw | hw
  · -- areSome, case 0
    obtain ⟨rfl, f2⟩ := hw
    refine lv_if_ne (tgt := 13) hx hb dX12_even_8 (by decide) (fun c3 => ?_) (fun c3 => ?_)
    · --8 taken
      refine lv_aload_n hx hb dX12_even_13 rfl (lv_at hl 0 rfl) ?_
      refine th_getL (ci := 13) (C := RX12) (T := TX12) (N := 6) (v := .ref (ad 6)) hx hb hts hinX12 hown hK hP hI 0 (mF 0 rfl) rfl rfl 5 (Nat.le_of_ble_eq_true rfl) (hts _ (vA_in _ _ (in_11 _ (zs4 (zs4 (zs0)))))) (fun _ h9 => h9) (hI.fr 0 (mF 0 rfl) rfl (Nat.le_of_ble_eq_true rfl) 6 rfl) dX12_even_14 ?_
      refine th_vL (va_runV (As := []) (rest := []) ⟨hx, hb, hml, hown, hts⟩ (q_loadAll l dC dI cT cf hC ad E H.size hI) (cwV 0 hts (gi_V (in_11 _ (zs4 (zs4 (zs4 (zs0))))) (in_11 _ (zs4 (zs4 (zs4 (zs1 (zs0)))))) (in_11 _ (zs4 (zs4 (zs4 (zs1 (zs1 (zs0))))))) (in_11 _ (zs4 (zs4 (zs4 (zs1 (zs1 (zs1 (zs0)))))))) (in_11 _ (zs16 (zs0)))) rfl rfl rfl ⟨rfl, hz_yX3_loadAll_0⟩ ⟨Nat.le_of_ble_eq_true rfl, Nat.le_of_ble_eq_true rfl⟩) ⟨HWL_bl, va_recv hK hP (ci := 4) (q0 := posL 6 (LC cf)) rfl (hI.ob 6 (mF 6 rfl) rfl), (HWL_wi hP hK (WL_D hD) hS hA hEV)⟩ rfl rfl hl.1 rfl (lv_room (Nat.le_of_ble_eq_true rfl)) dX12_even_17 ⟨Nat.le_of_ble_eq_true rfl, Nat.le_of_ble_eq_true rfl⟩) (WL_D hD) hS hA (fun E5 H locs hw hP hS => ?_)
      obtain ⟨hI, kq6, hw⟩ := hw
      have hKb := hKp
      have hKp := hKp.tr kq6 (wl_sub rfl rfl)
      refine lv_aload_n hx hb dX12_even_20 rfl (lv_at hl 0 rfl) ?_
      refine th_getL (ci := 13) (C := RX12) (T := TX12) (N := 6) (v := .ref (ad 6)) hx hb hts hinX12 hown hK hP hI 0 (mF 0 rfl) rfl rfl 5 (Nat.le_of_ble_eq_true rfl) (hts _ (vA_in _ _ (in_11 _ (zs4 (zs4 (zs0)))))) (fun _ h9 => h9) (hI.fr 0 (mF 0 rfl) rfl (Nat.le_of_ble_eq_true rfl) 6 rfl) dX12_even_21 ?_
      refine lv_iload_n hx hb dX12_even_24 rfl (lv_at hl 1 rfl) ?_
      refine th_vL (va_runV (As := [.int a0]) (rest := []) ⟨hx, hb, hml, hown, hts⟩ (q_evenOut l dC dI cT cf hC ad E5 H.size a0 hI) (cwV 1 hts (gi_V (in_13 _ (zs1 (zs1 (zs0)))) (in_13 _ (zs1 (zs1 (zs1 (zs0))))) (in_13 _ (zs4 (zs0))) (in_11 _ (zs4 (zs4 (zs4 (zs1 (zs1 (zs1 (zs0)))))))) (in_13 _ (zs4 (zs1 (zs0))))) rfl rfl rfl ⟨rfl, hz_yX3_evenOut_1⟩ ⟨Nat.le_of_ble_eq_true rfl, Nat.le_of_ble_eq_true rfl⟩) ⟨HWL_bl, va_recv hK hP (ci := 4) (q0 := posL 6 (LC cf)) rfl (hI.ob 6 (mF 6 rfl) rfl), (HWL_wi hP hK (WL_D hD) hS hA hEV)⟩ rfl rfl hl.1 rfl (lv_room (Nat.le_of_ble_eq_true rfl)) dX12_even_25 ⟨Nat.le_of_ble_eq_true rfl, Nat.le_of_ble_eq_true rfl⟩) (WL_D hD) hS hA (fun E8 H locs hw hP hS => ?_)
      obtain ⟨hI, kq9, hw⟩ := hw
      have hKb := hKp
      have hKp := hKp.tr kq9 (wl_sub rfl rfl)
      refine lv_aload_n hx hb dX12_even_28 rfl (lv_at hl 0 rfl) ?_
      refine th_getL (ci := 13) (C := RX12) (T := TX12) (N := 6) (v := .ref (ad 6)) hx hb hts hinX12 hown hK hP hI 0 (mF 0 rfl) rfl rfl 5 (Nat.le_of_ble_eq_true rfl) (hts _ (vA_in _ _ (in_11 _ (zs4 (zs4 (zs0)))))) (fun _ h9 => h9) (hI.fr 0 (mF 0 rfl) rfl (Nat.le_of_ble_eq_true rfl) 6 rfl) dX12_even_29 ?_
      obtain ⟨y10, ey10⟩ : ∃ y, xi (E8 6) 16 = y := ⟨_, rfl⟩
      have fy10 : xv (E8 6) 16 = .int y10 := (hI.fi 6 (mF 6 rfl) rfl (Nat.le_of_ble_eq_true rfl) rfl).trans (congrArg Value.int ey10)
      refine th_getL (ci := 4) (C := RX3) (T := TX3) (N := 18) (v := .int y10) hx hb hts hinX3 hown hK hP hI 6 (mF 6 rfl) rfl rfl 16 (Nat.le_of_ble_eq_true rfl) (hts _ (vA_in _ _ (in_18 _ (zs4 (zs1 (zs0)))))) (fun _ h9 => h9) fy10 dX12_even_32 ?_
      rw [hQ]
      exact W.iret (v := y10) hx hb hr (fun t ht hW => ⟨⟨y10, E8, rfl, ⟨hI, hKp, trivial⟩, by show va_P (dC, dI) vwCl (WL (LC cf) ad E8) t.heap; rw [ht]; exact hP⟩, hS.F ht⟩) hS.2.2 dX12_even_35
    · --8 not
      exact absurd c3 (by decide)
  · -- areSome, case 1
    obtain rfl := hw
    refine lv_if_ne (tgt := 13) hx hb dX12_even_8 (by decide) (fun c11 => ?_) (fun c11 => ?_)
    · --8 taken
      exact absurd c11 (by decide)
    · --8 not
      refine lv_iconst (v := -1) hx hb dX12_even_11 (by decide) ?_
      rw [hQ]
      exact W.iret (v := (-1)) hx hb hr (fun t ht hW => ⟨⟨(-1), E, rfl, ⟨hI, hKp, trivial⟩, by show va_P (dC, dI) vwCl (WL (LC cf) ad E) t.heap; rw [ht]; exact hP⟩, hS.F ht⟩) hS.2.2 dX12_even_12
def v_u_change : List Cond := .code yX12_change cX12_change 3 (some .int) :: vA
abbrev rm_u_change : Room := { frames := 8, cells := 0, slots := 0, locals := 320 }
def w_u_change : Nat → Nat → Bool := wl [19, 20, 26, 27, 28, 29, 30, 43, 44, 45, 46, 52, 53, 54, 55] [(3, 6), (3, 7), (3, 8), (6, 15), (6, 16)]
set_option maxHeartbeats 4000000 in
set_option maxRecDepth 100000 in
theorem q_u_change (l : Launch) (dC : Nat → ClassId) (dI : Nat → Nat → Nat) (cT : Nat → ClassId) (cf : Nat → Nat) (hC : CF cf) (ad : Nat → Nat) (E : Nat → va_E) (sz : Nat) (a0 : Int32) (a1 : Int32) (hI0 : IXL cT (shC cf) (spC cf) (LC cf) ad E)  : Met l yX12_change v_u_change rm_u_change (va_Pc [.ref (ad 0), .int a0, .int a1] (HWL dC dI (TYC cT) cf ad E sz)) (va_Qi (S := Nat → va_E) (fun r u => IXL cT (shC cf) (spC cf) (LC cf) ad u ∧ Kp w_u_change E u ∧ (True)) (HBL dC dI (LC cf) ad) (va_A (WL (LC cf) ad E) sz)) 0 0 (va_A (WL (LC cf) ad E) sz) := by
  obtain ⟨⟨hc0, hc1, hc2, hc3, hc4, hc5⟩, hcr⟩ := id hC
  refine Met.ofW (cc := cX12_change) (maxL := 3) (ret := (some .int)) (by decide) rfl ?_
  intro p e s m args below meth c s₁ B hml hv
  obtain ⟨hargs, hsz, hP, hK, hD0, hEV⟩ := hv
  subst hsz
  have hx := B.exec
  have hb := B.bytes
  have hr := B.returns
  have hts := atoms_spec (ws := v_u_change) B.pre
  have hown : s.vm.findClass RX12 = some m.cls := findClass_of_methodNamed B.named
  have hlocks := B.notSynchronized
  have hinX12 : ∀ w ∈ u_ws RX12 TX12 6, w ∈ v_u_change := fun w h => vA_in _ w (in_X12 w h)
  generalize hAe : va_A (WL (LC cf) ad E) s.heap.size = A at hEV ⊢
  have hA : ∀ q : Nat, s.heap.size ≤ q → A q := fun q h => by rw [← hAe]; exact Or.inr h
  have hD : va_D A (WL (LC cf) ad E) := by rw [← hAe]; exact hD0.self
  have hS : va_S A s.heap s.heap [] := va_S.rf
  have hI := hI0
  have hKp : Kp w_u_change E E := Kp.rf
  have hl := lv_entry ([.ref (ad 0), .int a0, .int a1]) (n := 3) (Nat.le_of_ble_eq_true rfl)
  obtain ⟨Q, hQ⟩ : ∃ Q, Q = MQ below (va_Qi (S := Nat → va_E) (fun r u => IXL cT (shC cf) (spC cf) (LC cf) ad u ∧ Kp w_u_change E u ∧ (True)) (HBL dC dI (LC cf) ad) (A)) args s 0 0 (A) := ⟨_, rfl⟩
  rw [← hQ, show entryFrame m args 3 = _ from (congrArg (fun z => entryFrame m z 3) hargs).trans (lg_entry_eq _ _ _)]
  generalize (lg_sl ([.ref (ad 0), .int a0, .int a1]) ++ List.replicate (3 - (lg_sl ([.ref (ad 0), .int a0, .int a1])).length) Slot.unset).toArray = ls at hl ⊢
  have hl : lv_has ls 3 [(0, .ref (ad 0)), (1, .int a0), (2, .int a1)] := hl
  refine lv_aload_n hx hb dX12_change_0 rfl (lv_at hl 0 rfl) ?_
  refine th_getL (ci := 13) (C := RX12) (T := TX12) (N := 6) (v := .ref (ad 1)) hx hb hts hinX12 hown hK hP hI 0 (mF 0 rfl) rfl rfl 0 (Nat.le_of_ble_eq_true rfl) (hts _ (vA_in _ _ (in_10 _ (zs16 (zs1 (zs0)))))) (fun _ h9 => h9) (hI.fr 0 (mF 0 rfl) rfl (Nat.le_of_ble_eq_true rfl) 1 rfl) dX12_change_1 ?_
  refine lv_iload_n hx hb dX12_change_4 rfl (lv_at hl 1 rfl) ?_
  refine th_riL (va_runV (As := [.int a0]) (rest := []) ⟨hx, hb, hml, hown, hts⟩ (q_areSome l dC dI cT cf hC ad E s.heap.size a0 hI) (cwV 1 hts (gi_V (in_11 _ (zs4 (zs4 (zs1 (zs0))))) (in_11 _ (zs4 (zs4 (zs1 (zs1 (zs0)))))) (in_11 _ (zs4 (zs4 (zs1 (zs1 (zs1 (zs0))))))) (in_5 _ (zs4 (zs1 (zs1 (zs0))))) (in_4 _ (zs16 (zs4 (zs0))))) rfl rfl rfl ⟨rfl, hz_yX0_areSome_1⟩ ⟨Nat.le_of_ble_eq_true rfl, Nat.le_of_ble_eq_true rfl⟩) ⟨HWL_bl, va_recv hK hP (ci := 1) (q0 := posL 1 (LC cf)) rfl (hI.ob 1 (mF 1 rfl) rfl), (HWL_wi hP hK (WL_D hD) hS hA hEV)⟩ rfl rfl hl.1 rfl (lv_room (Nat.le_of_ble_eq_true rfl)) dX12_change_5 ⟨Nat.le_of_ble_eq_true rfl, Nat.le_of_ble_eq_true rfl⟩) hS hP (fun r1 H locs hw hP hS => ?_)
  rcases hw with hw | hw
  · -- areSome, case 0
    obtain ⟨rfl, f2⟩ := hw
    refine lv_if_eq (tgt := 30) hx hb dX12_change_8 (by decide) (fun c3 => ?_) (fun c3 => ?_)
    · --8 taken
      exact absurd c3 (by decide)
    · --8 not
      refine lv_aload_n hx hb dX12_change_11 rfl (lv_at hl 0 rfl) ?_
      refine th_getL (ci := 13) (C := RX12) (T := TX12) (N := 6) (v := .ref (ad 1)) hx hb hts hinX12 hown hK hP hI 0 (mF 0 rfl) rfl rfl 0 (Nat.le_of_ble_eq_true rfl) (hts _ (vA_in _ _ (in_10 _ (zs16 (zs1 (zs0)))))) (fun _ h9 => h9) (hI.fr 0 (mF 0 rfl) rfl (Nat.le_of_ble_eq_true rfl) 1 rfl) dX12_change_12 ?_
      refine lv_iload_n hx hb dX12_change_15 rfl (lv_at hl 2 rfl) ?_
      refine th_riL (va_runV (As := [.int a1]) (rest := []) ⟨hx, hb, hml, hown, hts⟩ (q_isBoatC l dC dI cT cf hC ad E H.size a1 hI) (cwV 1 hts (gi_V (in_10 _ (zs16 (zs4 (zs4 (zs1 (zs1 (zs1 (zs0)))))))) (in_6 _ (zs4 (zs4 (zs4 (zs0))))) (in_6 _ (zs4 (zs4 (zs4 (zs1 (zs0)))))) (in_5 _ (zs4 (zs1 (zs1 (zs0))))) (in_5 _ (zs16 (zs16 (zs4 (zs1 (zs1 (zs0)))))))) rfl rfl rfl ⟨rfl, hz_yX0_isBoat_1⟩ ⟨Nat.le_of_ble_eq_true rfl, Nat.le_of_ble_eq_true rfl⟩) ⟨HWL_bl, va_recv hK hP (ci := 1) (q0 := posL 1 (LC cf)) rfl (hI.ob 1 (mF 1 rfl) rfl), (HWL_wi hP hK (WL_D hD) hS hA hEV)⟩ rfl rfl hl.1 rfl (lv_room (Nat.le_of_ble_eq_true rfl)) dX12_change_16 ⟨Nat.le_of_ble_eq_true rfl, Nat.le_of_ble_eq_true rfl⟩) hS hP (fun r4 H locs hw hP hS => ?_)
      rcases hw with hw | hw
      · -- isBoatC, case 0
        obtain ⟨rfl, f5, f6⟩ := hw
        have i7 : 0 ≤ (xi (E 1) 1).toInt ∧ (xi (E 1) 1).toInt ≤ 16 := hI0.iv 1 (mF 1 rfl) rfl (Nat.le_of_ble_eq_true rfl) rfl
        refine lv_if_eq (tgt := 30) hx hb dX12_change_19 (by decide) (fun c8 => ?_) (fun c8 => ?_)
        · --19 taken
          exact absurd c8 (by decide)
        · --19 not
          refine lv_iload_n hx hb dX12_change_22 rfl (lv_at hl 1 rfl) ?_
          refine lv_iload_n hx hb dX12_change_23 rfl (lv_at hl 2 rfl) ?_
          refine lv_ishr hx hb dX12_change_24 ?_
          refine lv_topi (fun y9 ey9 => ?_)
          refine lv_iconst (v := 1) hx hb dX12_change_25 (by decide) ?_
          refine lv_iand hx hb dX12_change_26 ?_
          refine lv_topi (fun y10 ey10 => ?_)
          have iy10 : 0 ≤ y10.toInt ∧ y10.toInt ≤ 1 := ti_and (by decide) ey10
          refine lv_if_ne (tgt := 33) hx hb dX12_change_27 (by decide) (fun c11 => ?_) (fun c11 => ?_)
          · --27 taken
            have t12 : ¬ y10.toInt = 0 := ti_ne c11
            have i13 : 1 ≤ y10.toInt ∧ y10.toInt ≤ 1 := iv_ne_l t12 iy10 (il_ 0)
            refine lv_aload_n hx hb dX12_change_33 rfl (lv_at hl 0 rfl) ?_
            refine th_getL (ci := 13) (C := RX12) (T := TX12) (N := 6) (v := .ref (ad 6)) hx hb hts hinX12 hown hK hP hI 0 (mF 0 rfl) rfl rfl 5 (Nat.le_of_ble_eq_true rfl) (hts _ (vA_in _ _ (in_11 _ (zs4 (zs4 (zs0)))))) (fun _ h9 => h9) (hI.fr 0 (mF 0 rfl) rfl (Nat.le_of_ble_eq_true rfl) 6 rfl) dX12_change_34 ?_
            refine th_vL (va_runV (As := []) (rest := []) ⟨hx, hb, hml, hown, hts⟩ (q_loadAll l dC dI cT cf hC ad E H.size hI) (cwV 0 hts (gi_V (in_11 _ (zs4 (zs4 (zs4 (zs0))))) (in_11 _ (zs4 (zs4 (zs4 (zs1 (zs0)))))) (in_11 _ (zs4 (zs4 (zs4 (zs1 (zs1 (zs0))))))) (in_11 _ (zs4 (zs4 (zs4 (zs1 (zs1 (zs1 (zs0)))))))) (in_11 _ (zs16 (zs0)))) rfl rfl rfl ⟨rfl, hz_yX3_loadAll_0⟩ ⟨Nat.le_of_ble_eq_true rfl, Nat.le_of_ble_eq_true rfl⟩) ⟨HWL_bl, va_recv hK hP (ci := 4) (q0 := posL 6 (LC cf)) rfl (hI.ob 6 (mF 6 rfl) rfl), (HWL_wi hP hK (WL_D hD) hS hA hEV)⟩ rfl rfl hl.1 rfl (lv_room (Nat.le_of_ble_eq_true rfl)) dX12_change_37 ⟨Nat.le_of_ble_eq_true rfl, Nat.le_of_ble_eq_true rfl⟩) (WL_D hD) hS hA (fun E15 H locs hw hP hS => ?_)
            obtain ⟨hI, kq16, hw⟩ := hw
            have hKb := hKp
            have hKp := hKp.tr kq16 (wl_sub rfl rfl)
            refine lv_aload_n hx hb dX12_change_40 rfl (lv_at hl 0 rfl) ?_
            refine th_getL (ci := 13) (C := RX12) (T := TX12) (N := 6) (v := .ref (ad 6)) hx hb hts hinX12 hown hK hP hI 0 (mF 0 rfl) rfl rfl 5 (Nat.le_of_ble_eq_true rfl) (hts _ (vA_in _ _ (in_11 _ (zs4 (zs4 (zs0)))))) (fun _ h9 => h9) (hI.fr 0 (mF 0 rfl) rfl (Nat.le_of_ble_eq_true rfl) 6 rfl) dX12_change_41 ?_
            refine lv_iload_n hx hb dX12_change_44 rfl (lv_at hl 1 rfl) ?_
            refine th_vL (va_runV (As := [.int a0]) (rest := []) ⟨hx, hb, hml, hown, hts⟩ (q_evenOut l dC dI cT cf hC ad E15 H.size a0 hI) (cwV 1 hts (gi_V (in_13 _ (zs1 (zs1 (zs0)))) (in_13 _ (zs1 (zs1 (zs1 (zs0))))) (in_13 _ (zs4 (zs0))) (in_11 _ (zs4 (zs4 (zs4 (zs1 (zs1 (zs1 (zs0)))))))) (in_13 _ (zs4 (zs1 (zs0))))) rfl rfl rfl ⟨rfl, hz_yX3_evenOut_1⟩ ⟨Nat.le_of_ble_eq_true rfl, Nat.le_of_ble_eq_true rfl⟩) ⟨HWL_bl, va_recv hK hP (ci := 4) (q0 := posL 6 (LC cf)) rfl (hI.ob 6 (mF 6 rfl) rfl), (HWL_wi hP hK (WL_D hD) hS hA hEV)⟩ rfl rfl hl.1 rfl (lv_room (Nat.le_of_ble_eq_true rfl)) dX12_change_45 ⟨Nat.le_of_ble_eq_true rfl, Nat.le_of_ble_eq_true rfl⟩) (WL_D hD) hS hA (fun E18 H locs hw hP hS => ?_)
            obtain ⟨hI, kq19, hw⟩ := hw
            have hKb := hKp
            have hKp := hKp.tr kq19 (wl_sub rfl rfl)
            refine lv_aload_n hx hb dX12_change_48 rfl (lv_at hl 0 rfl) ?_
            refine th_getL (ci := 13) (C := RX12) (T := TX12) (N := 6) (v := .ref (ad 6)) hx hb hts hinX12 hown hK hP hI 0 (mF 0 rfl) rfl rfl 5 (Nat.le_of_ble_eq_true rfl) (hts _ (vA_in _ _ (in_11 _ (zs4 (zs4 (zs0)))))) (fun _ h9 => h9) (hI.fr 0 (mF 0 rfl) rfl (Nat.le_of_ble_eq_true rfl) 6 rfl) dX12_change_49 ?_
            refine lv_iload_n hx hb dX12_change_52 rfl (lv_at hl 2 rfl) ?_
            refine th_riL (va_runV (As := [.int a1]) (rest := []) ⟨hx, hb, hml, hown, hts⟩ (q_bestChangeOf l dC dI cT cf hC ad E18 H.size a1 hI) (cwV 1 hts (gi_V (in_13 _ (zs16 (zs4 (zs4 (zs4 (zs1 (zs1 (zs0)))))))) (in_13 _ (zs16 (zs4 (zs4 (zs4 (zs1 (zs1 (zs1 (zs0))))))))) (in_13 _ (zs16 (zs16 (zs0)))) (in_11 _ (zs4 (zs4 (zs4 (zs1 (zs1 (zs1 (zs0)))))))) (in_13 _ (zs16 (zs16 (zs1 (zs0)))))) rfl rfl rfl ⟨rfl, hz_yX3_bestChangeOf_1⟩ ⟨Nat.le_of_ble_eq_true rfl, Nat.le_of_ble_eq_true rfl⟩) ⟨HWL_bl, va_recv hK hP (ci := 4) (q0 := posL 6 (LC cf)) rfl (hI.ob 6 (mF 6 rfl) rfl), (HWL_wi hP hK (WL_D hD) hS hA hEV)⟩ rfl rfl hl.1 rfl (lv_room (Nat.le_of_ble_eq_true rfl)) dX12_change_53 ⟨Nat.le_of_ble_eq_true rfl, Nat.le_of_ble_eq_true rfl⟩) hS hP (fun r20 H locs hw hP hS => ?_)
            rw [hQ]
            exact W.iret (v := r20) hx hb hr (fun t ht hW => ⟨⟨r20, E18, rfl, ⟨hI, hKp, trivial⟩, by show va_P (dC, dI) vwCl (WL (LC cf) ad E18) t.heap; rw [ht]; exact hP⟩, hS.F ht⟩) hS.2.2 dX12_change_56
          · --27 not
            have t21 : y10.toInt = 0 := ti_eq c11
            have i22 : 0 ≤ y10.toInt ∧ y10.toInt ≤ 0 := iv_eqi t21 iy10 (il_ 0) (by decide)
            refine lv_ldc hx hb hown (hts _ (vA_in _ _ (in_11 _ (zs4 (zs1 (zs1 (zs1 (zs0)))))))) dX12_change_30 ?_
            rw [hQ]
            exact W.iret (v := (-1000000000)) hx hb hr (fun t ht hW => ⟨⟨(-1000000000), E, rfl, ⟨hI, hKp, trivial⟩, by show va_P (dC, dI) vwCl (WL (LC cf) ad E) t.heap; rw [ht]; exact hP⟩, hS.F ht⟩) hS.2.2 dX12_change_32
      · -- isBoatC, case 1
        obtain ⟨rfl, f23⟩ := hw
        have i24 : 0 ≤ (xi (E 1) 1).toInt ∧ (xi (E 1) 1).toInt ≤ 16 := hI0.iv 1 (mF 1 rfl) rfl (Nat.le_of_ble_eq_true rfl) rfl
        refine lv_if_eq (tgt := 30) hx hb dX12_change_19 (by decide) (fun c25 => ?_) (fun c25 => ?_)
        · --19 taken
          refine lv_ldc hx hb hown (hts _ (vA_in _ _ (in_11 _ (zs4 (zs1 (zs1 (zs1 (zs0)))))))) dX12_change_30 ?_
          rw [hQ]
          exact W.iret (v := (-1000000000)) hx hb hr (fun t ht hW => ⟨⟨(-1000000000), E, rfl, ⟨hI, hKp, trivial⟩, by show va_P (dC, dI) vwCl (WL (LC cf) ad E) t.heap; rw [ht]; exact hP⟩, hS.F ht⟩) hS.2.2 dX12_change_32
        · --19 not
          exact absurd c25 (by decide)
  · -- areSome, case 1
    obtain rfl := hw
    refine lv_if_eq (tgt := 30) hx hb dX12_change_8 (by decide) (fun c26 => ?_) (fun c26 => ?_)
    · --8 taken
      refine lv_ldc hx hb hown (hts _ (vA_in _ _ (in_11 _ (zs4 (zs1 (zs1 (zs1 (zs0)))))))) dX12_change_30 ?_
      rw [hQ]
      exact W.iret (v := (-1000000000)) hx hb hr (fun t ht hW => ⟨⟨(-1000000000), E, rfl, ⟨hI, hKp, trivial⟩, by show va_P (dC, dI) vwCl (WL (LC cf) ad E) t.heap; rw [ht]; exact hP⟩, hS.F ht⟩) hS.2.2 dX12_change_32
    · --8 not
      exact absurd c26 (by decide)
