def tyX0 : Nat → FieldType := fun k => match k with
  | 0 => .int
  | 1 => .int
  | 2 => .int
  | 3 => .object "java/util/ArrayList"
  | 4 => .object "java/util/ArrayList"
  | 5 => .object "java/util/ArrayList"
  | 6 => .object "java/util/ArrayList"
  | 7 => .object "java/util/ArrayList"
  | 8 => .object "java/util/ArrayList"
  | 9 => .array .int
  | _ => .array .int
theorem nmX0 : ∀ a, a < 11 → ∀ b, b < 11 → a ≠ b → (TX0 a).2.1 ≠ (TX0 b).2.1 := by decide +kernel
theorem tyX0_ok : ∀ k, k < 11 → parseFieldDescriptor (TX0 k).2.2.1 = some (tyX0 k) := by decide +kernel
set_option maxRecDepth 100000 in
theorem zh_dX12_days_0_0 : zc cX12_days 0 [27, 3, 17, 1, 144, 42, 180, 0, 10, 180, 0, 55, 100, 184, 0, 59] = true := by decide +kernel
set_option maxRecDepth 100000 in
theorem zh_dX12_days_16_16 : zc cX12_days 16 [154, 0, 5, 2, 172, 42, 180, 0, 10, 89, 180, 0, 55, 27, 96, 181] = true := by decide +kernel
set_option maxRecDepth 100000 in
theorem zh_dX12_days_31_32 : zc cX12_days 32 [0, 55, 42, 180, 0, 10, 180, 0, 55, 172] = true := by decide +kernel
set_option maxRecDepth 100000 in
theorem zh_dX12_boat_0_0 : zc cX12_boat 0 [42, 180, 0, 10, 180, 0, 63, 16, 16, 161, 0, 5, 2, 172, 42, 180] = true := by decide +kernel
set_option maxRecDepth 100000 in
theorem zh_dX12_boat_15_16 : zc cX12_boat 16 [0, 10, 89, 180, 0, 63, 4, 96, 181, 0, 63, 42, 180, 0, 10, 180] = true := by decide +kernel
set_option maxRecDepth 100000 in
theorem zh_dX12_boat_31_32 : zc cX12_boat 32 [0, 63, 4, 100, 172] = true := by decide +kernel
set_option maxRecDepth 100000 in
theorem zh_dX12_states_0_0 : zc cX12_states 0 [42, 180, 0, 10, 27, 29, 182, 0, 226, 153, 0, 12, 28, 3, 4, 184] = true := by decide +kernel
set_option maxRecDepth 100000 in
theorem zh_dX12_states_15_16 : zc cX12_states 16 [0, 59, 154, 0, 5, 2, 172, 42, 180, 0, 44, 42, 180, 0, 10, 180] = true := by decide +kernel
set_option maxRecDepth 100000 in
theorem zh_dX12_states_31_32 : zc cX12_states 32 [0, 220, 27, 182, 0, 138, 192, 0, 223, 28, 29, 182, 0, 229, 172] = true := by decide +kernel
set_option maxRecDepth 100000 in
theorem zh_dX12_finding_0_0 : zc cX12_finding 0 [42, 180, 0, 10, 27, 29, 182, 0, 226, 153, 0, 12, 28, 3, 4, 184] = true := by decide +kernel
set_option maxRecDepth 100000 in
theorem zh_dX12_finding_15_16 : zc cX12_finding 16 [0, 59, 154, 0, 5, 2, 172, 42, 180, 0, 44, 42, 180, 0, 10, 180] = true := by decide +kernel
set_option maxRecDepth 100000 in
theorem zh_dX12_finding_31_32 : zc cX12_finding 32 [0, 220, 27, 182, 0, 138, 192, 0, 223, 28, 29, 182, 0, 233, 172] = true := by decide +kernel
theorem dX12_days_0 : decode cX12_days 0 = .ok (.iload_n 1, 1) := zo_27 (zi_at zh_dX12_days_0_0 0 rfl)
theorem dX12_days_1 : decode cX12_days 1 = .ok (.iconst 0, 1) := zo_3 (zi_at zh_dX12_days_0_0 1 rfl)
theorem dX12_days_2 : decode cX12_days 2 = .ok (.sipush 400, 3) := zo_17 (zi_at zh_dX12_days_0_0 2 rfl) (zi_at zh_dX12_days_0_0 3 rfl) (zi_at zh_dX12_days_0_0 4 rfl) rfl
theorem dX12_days_5 : decode cX12_days 5 = .ok (.aload_n 0, 1) := zo_42 (zi_at zh_dX12_days_0_0 5 rfl)
theorem dX12_days_6 : decode cX12_days 6 = .ok (.getfield 10, 3) := zo_180 (zi_at zh_dX12_days_0_0 6 rfl) (zi_at zh_dX12_days_0_0 7 rfl) (zi_at zh_dX12_days_0_0 8 rfl) rfl
theorem dX12_days_9 : decode cX12_days 9 = .ok (.getfield 55, 3) := zo_180 (zi_at zh_dX12_days_0_0 9 rfl) (zi_at zh_dX12_days_0_0 10 rfl) (zi_at zh_dX12_days_0_0 11 rfl) rfl
theorem dX12_days_12 : decode cX12_days 12 = .ok (.isub, 1) := zo_100 (zi_at zh_dX12_days_0_0 12 rfl)
theorem dX12_days_13 : decode cX12_days 13 = .ok (.invokestatic 59, 3) := zo_184 (zi_at zh_dX12_days_0_0 13 rfl) (zi_at zh_dX12_days_0_0 14 rfl) (zi_at zh_dX12_days_0_0 15 rfl) rfl
theorem dX12_days_16 : decode cX12_days 16 = .ok (.ifCond .ne 5, 3) := zo_154 (zi_at zh_dX12_days_16_16 0 rfl) (zi_at zh_dX12_days_16_16 1 rfl) (zi_at zh_dX12_days_16_16 2 rfl) rfl
theorem dX12_days_19 : decode cX12_days 19 = .ok (.iconst (-1), 1) := zo_2 (zi_at zh_dX12_days_16_16 3 rfl)
theorem dX12_days_20 : decode cX12_days 20 = .ok (.ireturn, 1) := zo_172 (zi_at zh_dX12_days_16_16 4 rfl)
theorem dX12_days_21 : decode cX12_days 21 = .ok (.aload_n 0, 1) := zo_42 (zi_at zh_dX12_days_16_16 5 rfl)
theorem dX12_days_22 : decode cX12_days 22 = .ok (.getfield 10, 3) := zo_180 (zi_at zh_dX12_days_16_16 6 rfl) (zi_at zh_dX12_days_16_16 7 rfl) (zi_at zh_dX12_days_16_16 8 rfl) rfl
theorem dX12_days_25 : decode cX12_days 25 = .ok (.dup, 1) := zo_89 (zi_at zh_dX12_days_16_16 9 rfl)
theorem dX12_days_26 : decode cX12_days 26 = .ok (.getfield 55, 3) := zo_180 (zi_at zh_dX12_days_16_16 10 rfl) (zi_at zh_dX12_days_16_16 11 rfl) (zi_at zh_dX12_days_16_16 12 rfl) rfl
theorem dX12_days_29 : decode cX12_days 29 = .ok (.iload_n 1, 1) := zo_27 (zi_at zh_dX12_days_16_16 13 rfl)
theorem dX12_days_30 : decode cX12_days 30 = .ok (.iadd, 1) := zo_96 (zi_at zh_dX12_days_16_16 14 rfl)
theorem dX12_days_31 : decode cX12_days 31 = .ok (.putfield 55, 3) := zo_181 (zi_at zh_dX12_days_16_16 15 rfl) (zi_at zh_dX12_days_31_32 0 rfl) (zi_at zh_dX12_days_31_32 1 rfl) rfl
theorem dX12_days_34 : decode cX12_days 34 = .ok (.aload_n 0, 1) := zo_42 (zi_at zh_dX12_days_31_32 2 rfl)
theorem dX12_days_35 : decode cX12_days 35 = .ok (.getfield 10, 3) := zo_180 (zi_at zh_dX12_days_31_32 3 rfl) (zi_at zh_dX12_days_31_32 4 rfl) (zi_at zh_dX12_days_31_32 5 rfl) rfl
theorem dX12_days_38 : decode cX12_days 38 = .ok (.getfield 55, 3) := zo_180 (zi_at zh_dX12_days_31_32 6 rfl) (zi_at zh_dX12_days_31_32 7 rfl) (zi_at zh_dX12_days_31_32 8 rfl) rfl
theorem dX12_days_41 : decode cX12_days 41 = .ok (.ireturn, 1) := zo_172 (zi_at zh_dX12_days_31_32 9 rfl)
theorem dX12_boat_0 : decode cX12_boat 0 = .ok (.aload_n 0, 1) := zo_42 (zi_at zh_dX12_boat_0_0 0 rfl)
theorem dX12_boat_1 : decode cX12_boat 1 = .ok (.getfield 10, 3) := zo_180 (zi_at zh_dX12_boat_0_0 1 rfl) (zi_at zh_dX12_boat_0_0 2 rfl) (zi_at zh_dX12_boat_0_0 3 rfl) rfl
theorem dX12_boat_4 : decode cX12_boat 4 = .ok (.getfield 63, 3) := zo_180 (zi_at zh_dX12_boat_0_0 4 rfl) (zi_at zh_dX12_boat_0_0 5 rfl) (zi_at zh_dX12_boat_0_0 6 rfl) rfl
theorem dX12_boat_7 : decode cX12_boat 7 = .ok (.bipush 16, 2) := zo_16 (zi_at zh_dX12_boat_0_0 7 rfl) (zi_at zh_dX12_boat_0_0 8 rfl) rfl
theorem dX12_boat_9 : decode cX12_boat 9 = .ok (.if_icmp .lt 5, 3) := zo_161 (zi_at zh_dX12_boat_0_0 9 rfl) (zi_at zh_dX12_boat_0_0 10 rfl) (zi_at zh_dX12_boat_0_0 11 rfl) rfl
theorem dX12_boat_12 : decode cX12_boat 12 = .ok (.iconst (-1), 1) := zo_2 (zi_at zh_dX12_boat_0_0 12 rfl)
theorem dX12_boat_13 : decode cX12_boat 13 = .ok (.ireturn, 1) := zo_172 (zi_at zh_dX12_boat_0_0 13 rfl)
theorem dX12_boat_14 : decode cX12_boat 14 = .ok (.aload_n 0, 1) := zo_42 (zi_at zh_dX12_boat_0_0 14 rfl)
theorem dX12_boat_15 : decode cX12_boat 15 = .ok (.getfield 10, 3) := zo_180 (zi_at zh_dX12_boat_0_0 15 rfl) (zi_at zh_dX12_boat_15_16 0 rfl) (zi_at zh_dX12_boat_15_16 1 rfl) rfl
theorem dX12_boat_18 : decode cX12_boat 18 = .ok (.dup, 1) := zo_89 (zi_at zh_dX12_boat_15_16 2 rfl)
theorem dX12_boat_19 : decode cX12_boat 19 = .ok (.getfield 63, 3) := zo_180 (zi_at zh_dX12_boat_15_16 3 rfl) (zi_at zh_dX12_boat_15_16 4 rfl) (zi_at zh_dX12_boat_15_16 5 rfl) rfl
theorem dX12_boat_22 : decode cX12_boat 22 = .ok (.iconst 1, 1) := zo_4 (zi_at zh_dX12_boat_15_16 6 rfl)
theorem dX12_boat_23 : decode cX12_boat 23 = .ok (.iadd, 1) := zo_96 (zi_at zh_dX12_boat_15_16 7 rfl)
theorem dX12_boat_24 : decode cX12_boat 24 = .ok (.putfield 63, 3) := zo_181 (zi_at zh_dX12_boat_15_16 8 rfl) (zi_at zh_dX12_boat_15_16 9 rfl) (zi_at zh_dX12_boat_15_16 10 rfl) rfl
theorem dX12_boat_27 : decode cX12_boat 27 = .ok (.aload_n 0, 1) := zo_42 (zi_at zh_dX12_boat_15_16 11 rfl)
theorem dX12_boat_28 : decode cX12_boat 28 = .ok (.getfield 10, 3) := zo_180 (zi_at zh_dX12_boat_15_16 12 rfl) (zi_at zh_dX12_boat_15_16 13 rfl) (zi_at zh_dX12_boat_15_16 14 rfl) rfl
theorem dX12_boat_31 : decode cX12_boat 31 = .ok (.getfield 63, 3) := zo_180 (zi_at zh_dX12_boat_15_16 15 rfl) (zi_at zh_dX12_boat_31_32 0 rfl) (zi_at zh_dX12_boat_31_32 1 rfl) rfl
theorem dX12_boat_34 : decode cX12_boat 34 = .ok (.iconst 1, 1) := zo_4 (zi_at zh_dX12_boat_31_32 2 rfl)
theorem dX12_boat_35 : decode cX12_boat 35 = .ok (.isub, 1) := zo_100 (zi_at zh_dX12_boat_31_32 3 rfl)
theorem dX12_boat_36 : decode cX12_boat 36 = .ok (.ireturn, 1) := zo_172 (zi_at zh_dX12_boat_31_32 4 rfl)
theorem dX12_states_0 : decode cX12_states 0 = .ok (.aload_n 0, 1) := zo_42 (zi_at zh_dX12_states_0_0 0 rfl)
theorem dX12_states_1 : decode cX12_states 1 = .ok (.getfield 10, 3) := zo_180 (zi_at zh_dX12_states_0_0 1 rfl) (zi_at zh_dX12_states_0_0 2 rfl) (zi_at zh_dX12_states_0_0 3 rfl) rfl
theorem dX12_states_4 : decode cX12_states 4 = .ok (.iload_n 1, 1) := zo_27 (zi_at zh_dX12_states_0_0 4 rfl)
theorem dX12_states_5 : decode cX12_states 5 = .ok (.iload_n 3, 1) := zo_29 (zi_at zh_dX12_states_0_0 5 rfl)
theorem dX12_states_6 : decode cX12_states 6 = .ok (.invokevirtual 226, 3) := zo_182 (zi_at zh_dX12_states_0_0 6 rfl) (zi_at zh_dX12_states_0_0 7 rfl) (zi_at zh_dX12_states_0_0 8 rfl) rfl
theorem dX12_states_9 : decode cX12_states 9 = .ok (.ifCond .eq 12, 3) := zo_153 (zi_at zh_dX12_states_0_0 9 rfl) (zi_at zh_dX12_states_0_0 10 rfl) (zi_at zh_dX12_states_0_0 11 rfl) rfl
theorem dX12_states_12 : decode cX12_states 12 = .ok (.iload_n 2, 1) := zo_28 (zi_at zh_dX12_states_0_0 12 rfl)
theorem dX12_states_13 : decode cX12_states 13 = .ok (.iconst 0, 1) := zo_3 (zi_at zh_dX12_states_0_0 13 rfl)
theorem dX12_states_14 : decode cX12_states 14 = .ok (.iconst 1, 1) := zo_4 (zi_at zh_dX12_states_0_0 14 rfl)
theorem dX12_states_15 : decode cX12_states 15 = .ok (.invokestatic 59, 3) := zo_184 (zi_at zh_dX12_states_0_0 15 rfl) (zi_at zh_dX12_states_15_16 0 rfl) (zi_at zh_dX12_states_15_16 1 rfl) rfl
theorem dX12_states_18 : decode cX12_states 18 = .ok (.ifCond .ne 5, 3) := zo_154 (zi_at zh_dX12_states_15_16 2 rfl) (zi_at zh_dX12_states_15_16 3 rfl) (zi_at zh_dX12_states_15_16 4 rfl) rfl
theorem dX12_states_21 : decode cX12_states 21 = .ok (.iconst (-1), 1) := zo_2 (zi_at zh_dX12_states_15_16 5 rfl)
theorem dX12_states_22 : decode cX12_states 22 = .ok (.ireturn, 1) := zo_172 (zi_at zh_dX12_states_15_16 6 rfl)
theorem dX12_states_23 : decode cX12_states 23 = .ok (.aload_n 0, 1) := zo_42 (zi_at zh_dX12_states_15_16 7 rfl)
theorem dX12_states_24 : decode cX12_states 24 = .ok (.getfield 44, 3) := zo_180 (zi_at zh_dX12_states_15_16 8 rfl) (zi_at zh_dX12_states_15_16 9 rfl) (zi_at zh_dX12_states_15_16 10 rfl) rfl
theorem dX12_states_27 : decode cX12_states 27 = .ok (.aload_n 0, 1) := zo_42 (zi_at zh_dX12_states_15_16 11 rfl)
theorem dX12_states_28 : decode cX12_states 28 = .ok (.getfield 10, 3) := zo_180 (zi_at zh_dX12_states_15_16 12 rfl) (zi_at zh_dX12_states_15_16 13 rfl) (zi_at zh_dX12_states_15_16 14 rfl) rfl
theorem dX12_states_31 : decode cX12_states 31 = .ok (.getfield 220, 3) := zo_180 (zi_at zh_dX12_states_15_16 15 rfl) (zi_at zh_dX12_states_31_32 0 rfl) (zi_at zh_dX12_states_31_32 1 rfl) rfl
theorem dX12_states_34 : decode cX12_states 34 = .ok (.iload_n 1, 1) := zo_27 (zi_at zh_dX12_states_31_32 2 rfl)
theorem dX12_states_35 : decode cX12_states 35 = .ok (.invokevirtual 138, 3) := zo_182 (zi_at zh_dX12_states_31_32 3 rfl) (zi_at zh_dX12_states_31_32 4 rfl) (zi_at zh_dX12_states_31_32 5 rfl) rfl
theorem dX12_states_38 : decode cX12_states 38 = .ok (.checkcast 223, 3) := zo_192 (zi_at zh_dX12_states_31_32 6 rfl) (zi_at zh_dX12_states_31_32 7 rfl) (zi_at zh_dX12_states_31_32 8 rfl) rfl
theorem dX12_states_41 : decode cX12_states 41 = .ok (.iload_n 2, 1) := zo_28 (zi_at zh_dX12_states_31_32 9 rfl)
theorem dX12_states_42 : decode cX12_states 42 = .ok (.iload_n 3, 1) := zo_29 (zi_at zh_dX12_states_31_32 10 rfl)
theorem dX12_states_43 : decode cX12_states 43 = .ok (.invokevirtual 229, 3) := zo_182 (zi_at zh_dX12_states_31_32 11 rfl) (zi_at zh_dX12_states_31_32 12 rfl) (zi_at zh_dX12_states_31_32 13 rfl) rfl
theorem dX12_states_46 : decode cX12_states 46 = .ok (.ireturn, 1) := zo_172 (zi_at zh_dX12_states_31_32 14 rfl)
theorem dX12_finding_0 : decode cX12_finding 0 = .ok (.aload_n 0, 1) := zo_42 (zi_at zh_dX12_finding_0_0 0 rfl)
theorem dX12_finding_1 : decode cX12_finding 1 = .ok (.getfield 10, 3) := zo_180 (zi_at zh_dX12_finding_0_0 1 rfl) (zi_at zh_dX12_finding_0_0 2 rfl) (zi_at zh_dX12_finding_0_0 3 rfl) rfl
theorem dX12_finding_4 : decode cX12_finding 4 = .ok (.iload_n 1, 1) := zo_27 (zi_at zh_dX12_finding_0_0 4 rfl)
theorem dX12_finding_5 : decode cX12_finding 5 = .ok (.iload_n 3, 1) := zo_29 (zi_at zh_dX12_finding_0_0 5 rfl)
theorem dX12_finding_6 : decode cX12_finding 6 = .ok (.invokevirtual 226, 3) := zo_182 (zi_at zh_dX12_finding_0_0 6 rfl) (zi_at zh_dX12_finding_0_0 7 rfl) (zi_at zh_dX12_finding_0_0 8 rfl) rfl
theorem dX12_finding_9 : decode cX12_finding 9 = .ok (.ifCond .eq 12, 3) := zo_153 (zi_at zh_dX12_finding_0_0 9 rfl) (zi_at zh_dX12_finding_0_0 10 rfl) (zi_at zh_dX12_finding_0_0 11 rfl) rfl
theorem dX12_finding_12 : decode cX12_finding 12 = .ok (.iload_n 2, 1) := zo_28 (zi_at zh_dX12_finding_0_0 12 rfl)
theorem dX12_finding_13 : decode cX12_finding 13 = .ok (.iconst 0, 1) := zo_3 (zi_at zh_dX12_finding_0_0 13 rfl)
theorem dX12_finding_14 : decode cX12_finding 14 = .ok (.iconst 1, 1) := zo_4 (zi_at zh_dX12_finding_0_0 14 rfl)
theorem dX12_finding_15 : decode cX12_finding 15 = .ok (.invokestatic 59, 3) := zo_184 (zi_at zh_dX12_finding_0_0 15 rfl) (zi_at zh_dX12_finding_15_16 0 rfl) (zi_at zh_dX12_finding_15_16 1 rfl) rfl
theorem dX12_finding_18 : decode cX12_finding 18 = .ok (.ifCond .ne 5, 3) := zo_154 (zi_at zh_dX12_finding_15_16 2 rfl) (zi_at zh_dX12_finding_15_16 3 rfl) (zi_at zh_dX12_finding_15_16 4 rfl) rfl
theorem dX12_finding_21 : decode cX12_finding 21 = .ok (.iconst (-1), 1) := zo_2 (zi_at zh_dX12_finding_15_16 5 rfl)
theorem dX12_finding_22 : decode cX12_finding 22 = .ok (.ireturn, 1) := zo_172 (zi_at zh_dX12_finding_15_16 6 rfl)
theorem dX12_finding_23 : decode cX12_finding 23 = .ok (.aload_n 0, 1) := zo_42 (zi_at zh_dX12_finding_15_16 7 rfl)
theorem dX12_finding_24 : decode cX12_finding 24 = .ok (.getfield 44, 3) := zo_180 (zi_at zh_dX12_finding_15_16 8 rfl) (zi_at zh_dX12_finding_15_16 9 rfl) (zi_at zh_dX12_finding_15_16 10 rfl) rfl
theorem dX12_finding_27 : decode cX12_finding 27 = .ok (.aload_n 0, 1) := zo_42 (zi_at zh_dX12_finding_15_16 11 rfl)
theorem dX12_finding_28 : decode cX12_finding 28 = .ok (.getfield 10, 3) := zo_180 (zi_at zh_dX12_finding_15_16 12 rfl) (zi_at zh_dX12_finding_15_16 13 rfl) (zi_at zh_dX12_finding_15_16 14 rfl) rfl
theorem dX12_finding_31 : decode cX12_finding 31 = .ok (.getfield 220, 3) := zo_180 (zi_at zh_dX12_finding_15_16 15 rfl) (zi_at zh_dX12_finding_31_32 0 rfl) (zi_at zh_dX12_finding_31_32 1 rfl) rfl
theorem dX12_finding_34 : decode cX12_finding 34 = .ok (.iload_n 1, 1) := zo_27 (zi_at zh_dX12_finding_31_32 2 rfl)
theorem dX12_finding_35 : decode cX12_finding 35 = .ok (.invokevirtual 138, 3) := zo_182 (zi_at zh_dX12_finding_31_32 3 rfl) (zi_at zh_dX12_finding_31_32 4 rfl) (zi_at zh_dX12_finding_31_32 5 rfl) rfl
theorem dX12_finding_38 : decode cX12_finding 38 = .ok (.checkcast 223, 3) := zo_192 (zi_at zh_dX12_finding_31_32 6 rfl) (zi_at zh_dX12_finding_31_32 7 rfl) (zi_at zh_dX12_finding_31_32 8 rfl) rfl
theorem dX12_finding_41 : decode cX12_finding 41 = .ok (.iload_n 2, 1) := zo_28 (zi_at zh_dX12_finding_31_32 9 rfl)
theorem dX12_finding_42 : decode cX12_finding 42 = .ok (.iload_n 3, 1) := zo_29 (zi_at zh_dX12_finding_31_32 10 rfl)
theorem dX12_finding_43 : decode cX12_finding 43 = .ok (.invokevirtual 233, 3) := zo_182 (zi_at zh_dX12_finding_31_32 11 rfl) (zi_at zh_dX12_finding_31_32 12 rfl) (zi_at zh_dX12_finding_31_32 13 rfl) rfl
theorem dX12_finding_46 : decode cX12_finding 46 = .ok (.ireturn, 1) := zo_172 (zi_at zh_dX12_finding_31_32 14 rfl)
theorem hz_yX0_isProtested_2 : yX0_isProtested.cls ≠ "java/lang/invoke/MethodHandle" ∧ yX0_isProtested.cls ≠ "java/lang/invoke/VarHandle" ∧ (parseMethodDescriptor yX0_isProtested.desc).map (fun d => d.parameters.length) = some 2 := by decide +kernel
theorem hz_yX2_find_3 : yX2_find.cls ≠ "java/lang/invoke/MethodHandle" ∧ yX2_find.cls ≠ "java/lang/invoke/VarHandle" ∧ (parseMethodDescriptor yX2_find.desc).map (fun d => d.parameters.length) = some 3 := by decide +kernel

section THY
variable {p : Program} {l : Launch} {e : Env} {R : Room} {s : State} {m : MethodId} {args : Array Value} {below : List Frame} {meth : Method} {c : Code} {H : Heap} {locs : List Loc} {cells slots : Nat} {Q : State → Prop}
variable {pc : Nat} {ls : Array Slot} {rest : List Value} {cc : ByteArray} {dC : Nat → ClassId} {dI : Nat → Nat → Nat} {cT : Nat → ClassId} {sh : Nat → Nat × Nat × Nat} {sp : Nat → Nat → Nat × Int × Int} {L : List Nat} {ad : Nat → Nat} {E : Nat → va_E} {tys : List (ClassId × FieldType)} {A : Nat → Prop} {H0 : Heap}
/-- the first n of a row of ints to another -/
theorem th_cpyL (hx : p.tables.exec = Jvm.exec) (hb : c.code = cc) (hml : c.maxLocals = ls.size) {own : String} {index : Nat} (hown : s.vm.findClass own = some m.cls) (hlink : (Cond.methodLink own index arraycopyName).before args s = true) (hnat : (Cond.native arraycopyName).before args s = true) (hstat : (Cond.static arraycopyName).before args s = true) (hini : (Cond.initialized "java/lang/System").before args s = true)
    (hK : va_K (dC, dI) vwCl tys s) (hP : va_P (dC, dI) vwCl (WL L ad E) H) (hD : va_D A (WL L ad E)) (hS : va_S A H0 H locs) (hI : IXL cT sh sp L ad E) (o0 : Nat) (ho0 : o0 ∈ L) {n0 : Nat} (hs0 : sh o0 = (1, 0, n0)) (o1 : Nat) (ho1 : o1 ∈ L) {n1 : Nat} (hs1 : sh o1 = (1, 0, n1)) (ht : tys[0]? = some (cT 0, .int)) {lo hi : Int} (hp0 : ∀ j, sp o0 j = (0, lo, hi)) (hp1 : ∀ j, sp o1 j = (0, lo, hi)) {n : Int32} (h3 : ¬ n < 0) (h4 : n.toNatClampNeg ≤ n0) (h5 : n.toNatClampNeg ≤ n1)
    (hframes : 1 ≤ R.frames) (hlocals : (rest.map fun v => v.category).sum + (nativeFrameWords "java/lang/System" "arraycopy" 5 + 11) ≤ R.locals) (hdg : decode cc pc = .ok (.invokestatic index, 3))
    (kk : ∀ (H1 : Heap) (locs1 : List Loc) (E1 : Nat → va_E), Kp (wl [o1] []) E E1 → xi (E1 o1) = va_cpy (xi (E o0)) (xi (E o1)) 0 0 n.toNatClampNeg → IXL cT sh sp L ad E1 → va_P (dC, dI) vwCl (WL L ad E1) H1 → va_S A H0 H1 locs1 → W p l e R s m args below meth c H1 locs1 cells slots Q (F0 m (pc + 3) ls rest)) : W p l e R s m args below meth c H locs cells slots Q (F0 m pc ls (.int n :: .int 0 :: .ref (ad o1) :: .int 0 :: .ref (ad o0) :: rest)) := by
  refine va_copyi hx hb hml hown hlink hnat hstat hini hK hP hD hS (posL o0 L) (posL o1 L) 0 0 (hI.ar o0 ho0 hs0) (hI.ar o1 ho1 hs1) ht ht rfl (sp := 0) (dp := 0) (by decide) (by decide) h3 (by show 0 + _ ≤ _; omega) (by show 0 + _ ≤ _; omega) (fun _ _ => rfl) hframes hlocals hdg (fun H1 locs1 q1 _ q3 => ?_)
  rw [WL_set hI.1 ho1, show (0 : Int32).toNatClampNeg = 0 from rfl] at q1
  have e1 : ∀ j, xv (va_up E o1 (.inl (cT 0, n1, .inl (va_cpy (xi (E o0)) (xi (E o1)) 0 0 n.toNatClampNeg))) o1) j = .int (va_cpy (xi (E o0)) (xi (E o1)) 0 0 n.toNatClampNeg j) := by
    intro j
    rw [va_up_self]
    rfl
  refine kk H1 locs1 _ (fun o j hw => ?_) (funext fun j => ?_) ⟨hI.1, fun o ho => ?_⟩ q1 q3
  · have hne : o ≠ o1 := by
      intro e
      rw [e] at hw
      simp [wl] at hw
    rw [va_up_ne _ _ hne]
  · show vi (xv _ j) = _
    rw [e1]
    rfl
  · by_cases hne : o = o1
    · subst hne
      rw [hs1]
      refine ⟨?_, fun j hj => ?_⟩
      · rw [va_up_self]
        rfl
      · rw [e1, hp1]
        have hj : j < n1 := hj
        have b1 := hI.iv o ho hs1 hj (hp1 j)
        refine ⟨rfl, ?_⟩
        show lo ≤ (va_cpy (xi (E o0)) (xi (E o)) 0 0 n.toNatClampNeg j).toInt ∧ _
        unfold va_cpy
        split
        · rename_i h
          have b0 := hI.iv o0 ho0 hs0 (j := 0 + (j - 0)) (by omega) (hp0 _)
          exact b0
        · exact b1
    · rw [va_up_ne _ _ hne]
      exact hI.2 o ho
end THY
section
/-- where CLAUSES begin and their SUMS lie within the steps -/
def TPok (gb gs : Nat → Int32) (c s : Int32) : Prop := ∀ k : Nat, (k : Int) < c.toInt → (gb k).toInt ≤ s.toInt ∧ (gs k).toInt ≤ s.toInt
theorem TPok_m {gb gs : Nat → Int32} {c s s2 : Int32} (h : TPok gb gs c s) (h2 : s.toInt ≤ s2.toInt) : TPok gb gs c s2 := fun k hk => ⟨Int.le_trans (h k hk).1 h2, Int.le_trans (h k hk).2 h2⟩
theorem TPok_0 {gb gs : Nat → Int32} {s : Int32} : TPok gb gs 0 s := fun k hk => absurd hk (by have : (0 : Int32).toInt = 0 := rfl; omega)
theorem TPok_push {gb gs gb2 gs2 : Nat → Int32} {c c2 s s2 : Int32} (h : TPok gb gs c s) (h2 : s.toInt ≤ s2.toInt) (hc : 0 ≤ c.toInt) (tc : c2.toInt = c.toInt + 1) (hb : ∀ k, k ≠ c.toNatClampNeg → gb2 k = gb k) (hs : ∀ k, k ≠ c.toNatClampNeg → gs2 k = gs k) (hb2 : (gb2 c.toNatClampNeg).toInt ≤ s2.toInt) (hs2 : (gs2 c.toNatClampNeg).toInt ≤ s2.toInt) : TPok gb2 gs2 c2 s2 := by
  intro k hk
  by_cases e : k = c.toNatClampNeg
  · subst e
    exact ⟨hb2, hs2⟩
  · rw [hb k e, hs k e]
    have := h k (by rw [tn_] at e; omega)
    omega
end
section
def v_u_days : List Cond := .code yX12_days cX12_days 2 (some .int) :: vA
abbrev rm_u_days : Room := { frames := 1, cells := 0, slots := 0, locals := 40 }
def w_u_days : Nat → Nat → Bool := wl [] [(1, 0)]
set_option maxHeartbeats 4000000 in
set_option maxRecDepth 100000 in
theorem q_u_days (l : Launch) (dC : Nat → ClassId) (dI : Nat → Nat → Nat) (cT : Nat → ClassId) (cf : Nat → Nat) (hC : CF cf) (ad : Nat → Nat) (E : Nat → va_E) (sz : Nat) (a0 : Int32) (hI0 : IXL cT (shC cf) (spC cf) (LC cf) ad E)  : Met l yX12_days v_u_days rm_u_days (va_Pc [.ref (ad 0), .int a0] (HWL dC dI (TYC cT) cf ad E sz)) (va_Qi (S := Nat → va_E) (fun r u => IXL cT (shC cf) (spC cf) (LC cf) ad u ∧ Kp w_u_days E u ∧ (((((0 ≤ a0.toInt ∧ a0.toInt ≤ 400 - (xi (E 1) 0).toInt) → (r.toInt = (xi (E 1) 0).toInt + a0.toInt ∧ (xi (u 1) 0).toInt = (xi (E 1) 0).toInt + a0.toInt)) ∧ (¬ (0 ≤ a0.toInt ∧ a0.toInt ≤ 400 - (xi (E 1) 0).toInt) → (r.toInt = -1 ∧ (xi (u 1) 0).toInt = (xi (E 1) 0).toInt)))))) (HBL dC dI (LC cf) ad) (va_A (WL (LC cf) ad E) sz)) 0 0 (va_A (WL (LC cf) ad E) sz) := by
  obtain ⟨⟨hc0, hc1, hc2, hc3, hc4, hc5⟩, hcr⟩ := id hC
  refine Met.ofW (cc := cX12_days) (maxL := 2) (ret := (some .int)) (by decide) rfl ?_
  intro p e s m args below meth c s₁ B hml hv
  obtain ⟨hargs, hsz, hP, hK, hD0, hEV⟩ := hv
  subst hsz
  have hx := B.exec
  have hb := B.bytes
  have hr := B.returns
  have hts := atoms_spec (ws := v_u_days) B.pre
  have hown : s.vm.findClass RX12 = some m.cls := findClass_of_methodNamed B.named
  have hlocks := B.notSynchronized
  have hinX0 : ∀ w ∈ u_ws RX0 TX0 11, w ∈ v_u_days := fun w h => vA_in _ w (in_X0 w h)
  have hinX12 : ∀ w ∈ u_ws RX12 TX12 6, w ∈ v_u_days := fun w h => vA_in _ w (in_X12 w h)
  generalize hAe : va_A (WL (LC cf) ad E) s.heap.size = A at hEV ⊢
  have hA : ∀ q : Nat, s.heap.size ≤ q → A q := fun q h => by rw [← hAe]; exact Or.inr h
  have hD : va_D A (WL (LC cf) ad E) := by rw [← hAe]; exact hD0.self
  have hS : va_S A s.heap s.heap [] := va_S.rf
  have hI := hI0
  have hKp : Kp w_u_days E E := Kp.rf
  have hl := lv_entry ([.ref (ad 0), .int a0]) (n := 2) (Nat.le_of_ble_eq_true rfl)
  obtain ⟨Q, hQ⟩ : ∃ Q, Q = MQ below (va_Qi (S := Nat → va_E) (fun r u => IXL cT (shC cf) (spC cf) (LC cf) ad u ∧ Kp w_u_days E u ∧ (((((0 ≤ a0.toInt ∧ a0.toInt ≤ 400 - (xi (E 1) 0).toInt) → (r.toInt = (xi (E 1) 0).toInt + a0.toInt ∧ (xi (u 1) 0).toInt = (xi (E 1) 0).toInt + a0.toInt)) ∧ (¬ (0 ≤ a0.toInt ∧ a0.toInt ≤ 400 - (xi (E 1) 0).toInt) → (r.toInt = -1 ∧ (xi (u 1) 0).toInt = (xi (E 1) 0).toInt)))))) (HBL dC dI (LC cf) ad) (A)) args s 0 0 (A) := ⟨_, rfl⟩
  rw [← hQ, show entryFrame m args 2 = _ from (congrArg (fun z => entryFrame m z 2) hargs).trans (lg_entry_eq _ _ _)]
  generalize (lg_sl ([.ref (ad 0), .int a0]) ++ List.replicate (2 - (lg_sl ([.ref (ad 0), .int a0])).length) Slot.unset).toArray = ls at hl ⊢
  have hl : lv_has ls 2 [(0, .ref (ad 0)), (1, .int a0)] := hl
  obtain ⟨y1, ey1⟩ : ∃ y, xi (E 1) 0 = y := ⟨_, rfl⟩
  have fy1 : xv (E 1) 0 = .int y1 := (hI.fi 1 (mF 1 rfl) rfl (Nat.le_of_ble_eq_true rfl) rfl).trans (congrArg Value.int ey1)
  have i2 : 0 ≤ y1.toInt ∧ y1.toInt ≤ 400 := by rw [← ey1]; exact hI.iv 1 (mF 1 rfl) rfl (Nat.le_of_ble_eq_true rfl) rfl
  refine lv_iload_n hx hb dX12_days_0 rfl (lv_at hl 1 rfl) ?_
  refine lv_iconst (v := 0) hx hb dX12_days_1 (by decide) ?_
  refine lv_sipush (v := 400) hx hb dX12_days_2 (by decide) ?_
  refine lv_aload_n hx hb dX12_days_5 rfl (lv_at hl 0 rfl) ?_
  refine th_getL (ci := 13) (C := RX12) (T := TX12) (N := 6) (v := .ref (ad 1)) hx hb hts hinX12 hown hK hP hI 0 (mF 0 rfl) rfl rfl 0 (Nat.le_of_ble_eq_true rfl) (hts _ (vA_in _ _ (in_10 _ (zs16 (zs1 (zs0)))))) (fun _ h9 => h9) (hI.fr 0 (mF 0 rfl) rfl (Nat.le_of_ble_eq_true rfl) 1 rfl) dX12_days_6 ?_
  refine th_getL (ci := 1) (C := RX0) (T := TX0) (N := 11) (v := .int y1) hx hb hts hinX0 hown hK hP hI 1 (mF 1 rfl) rfl rfl 0 (Nat.le_of_ble_eq_true rfl) (hts _ (vA_in _ _ (in_10 _ (zs16 (zs4 (zs4 (zs1 (zs1 (zs0))))))))) (fun _ h9 => h9) fy1 dX12_days_9 ?_
  refine lv_isub hx hb dX12_days_12 ?_
  refine lv_topi (fun y3 ey3 => ?_)
  obtain ⟨ty3, iy3⟩ := ti_sub (e := 0) (f := 400) ln_400 i2 ey3 (by decide)
  have ty3 : y3.toInt = 400 - y1.toInt := ty3
  have iy3 : 0 ≤ y3.toInt ∧ y3.toInt ≤ 400 := iy3
  refine th_pi (va_runS (As := [.int a0, .int 0, .int y3]) (rest := []) ⟨hx, hb, hml, hown, hts⟩ (q_cwithin l a0 (0 : Int32) y3) (va_cwS 3 hts (gi_S (in_10 _ (zs16 (zs4 (zs4 (zs4 (zs1 (zs1 (zs1 (zs0))))))))) (in_4 _ (zs16 (zs4 (zs1 (zs1 (zs0)))))) (in_4 _ (zs16 (zs4 (zs1 (zs1 (zs1 (zs0))))))) (in_4 _ (zs16 (zs4 (zs4 (zs0)))))) rfl rfl rfl hz_yX12_within_3 ⟨Nat.le_of_ble_eq_true rfl, Nat.le_of_ble_eq_true rfl⟩) ⟨fun _ _ _ _ q => q, fun _ _ _ => ⟨rfl, trivial⟩⟩ rfl rfl hl.1 rfl (lv_room (Nat.le_of_ble_eq_true rfl)) dX12_days_13 ⟨Nat.le_of_ble_eq_true rfl, Nat.le_of_ble_eq_true rfl⟩) hS (fun r4 H1 locs1 hw hk1 hS => ?_)
  have hP := ub_keep hP hk1
  generalize H1 = H at hP hS ⊢
  generalize locs1 = locs at hS ⊢
  rcases hw with hw | hw
  · -- cwithin, case 0
    obtain ⟨rfl, f5⟩ := hw
    have t6 : (0 : Int) ≤ a0.toInt := f5.1
    have t7 : a0.toInt ≤ y3.toInt := f5.2
    have i8 : 0 ≤ a0.toInt ∧ a0.toInt ≤ 2147483647 := iv_le_r t6 (il_ 0) (iv_all _) (by decide)
    have i9 : 0 ≤ a0.toInt ∧ a0.toInt ≤ 400 := iv_le_l t7 i8 iy3 (by decide)
    refine lv_if_ne (tgt := 21) hx hb dX12_days_16 (by decide) (fun c10 => ?_) (fun c10 => ?_)
    · --16 taken
      refine lv_aload_n hx hb dX12_days_21 rfl (lv_at hl 0 rfl) ?_
      refine th_getL (ci := 13) (C := RX12) (T := TX12) (N := 6) (v := .ref (ad 1)) hx hb hts hinX12 hown hK hP hI 0 (mF 0 rfl) rfl rfl 0 (Nat.le_of_ble_eq_true rfl) (hts _ (vA_in _ _ (in_10 _ (zs16 (zs1 (zs0)))))) (fun _ h9 => h9) (hI.fr 0 (mF 0 rfl) rfl (Nat.le_of_ble_eq_true rfl) 1 rfl) dX12_days_22 ?_
      refine lv_dup hx hb dX12_days_25 rfl ?_
      refine th_getL (ci := 1) (C := RX0) (T := TX0) (N := 11) (v := .int y1) hx hb hts hinX0 hown hK hP hI 1 (mF 1 rfl) rfl rfl 0 (Nat.le_of_ble_eq_true rfl) (hts _ (vA_in _ _ (in_10 _ (zs16 (zs4 (zs4 (zs1 (zs1 (zs0))))))))) (fun _ h9 => h9) fy1 dX12_days_26 ?_
      refine lv_iload_n hx hb dX12_days_29 rfl (lv_at hl 1 rfl) ?_
      refine lv_iadd hx hb dX12_days_30 ?_
      refine lv_topi (fun y11 ey11 => ?_)
      obtain ⟨ty11, iy11⟩ := ti_add (e := 0) (f := 800) i2 i9 ey11 (by decide)
      have ty11 : y11.toInt = y1.toInt + a0.toInt := ty11
      have iy11 : 0 ≤ y11.toInt ∧ y11.toInt ≤ 800 := iy11
      have i12 : 0 ≤ y11.toInt ∧ y11.toInt ≤ 400 := by omega
      refine th_putL (ci := 1) (C := RX0) (T := TX0) (N := 11) (v := .int y11) (ty := .int) hx hb hts hinX0 tyX0 tyX0_ok nmX0 hown hK hP (WL_D hD) hS hI 1 (mF 1 rfl) rfl rfl 0 (Nat.le_of_ble_eq_true rfl) (hts _ (vA_in _ _ (in_10 _ (zs16 (zs4 (zs4 (zs1 (zs1 (zs0))))))))) (fun _ h9 => h9) rfl (by decide +kernel) rfl rfl (okI rfl i12) dX12_days_31 (fun H locs E13 pw14 hI hP hS => ?_)
      have hKp := hKp.pw pw14 rfl
      refine lv_aload_n hx hb dX12_days_34 rfl (lv_at hl 0 rfl) ?_
      refine th_getL (ci := 13) (C := RX12) (T := TX12) (N := 6) (v := .ref (ad 1)) hx hb hts hinX12 hown hK hP hI 0 (mF 0 rfl) rfl rfl 0 (Nat.le_of_ble_eq_true rfl) (hts _ (vA_in _ _ (in_10 _ (zs16 (zs1 (zs0)))))) (fun _ h9 => h9) (hI.fr 0 (mF 0 rfl) rfl (Nat.le_of_ble_eq_true rfl) 1 rfl) dX12_days_35 ?_
      refine th_getL (ci := 1) (C := RX0) (T := TX0) (N := 11) (v := .int y11) hx hb hts hinX0 hown hK hP hI 1 (mF 1 rfl) rfl rfl 0 (Nat.le_of_ble_eq_true rfl) (hts _ (vA_in _ _ (in_10 _ (zs16 (zs4 (zs4 (zs1 (zs1 (zs0))))))))) (fun _ h9 => h9) pw14.1 dX12_days_38 ?_
      rw [hQ]
      exact W.iret (v := y11) hx hb hr (fun t ht hW => ⟨⟨y11, E13, rfl, ⟨hI, hKp, (by (try rw [(show xi (E13 1) 0 = y11 from vi_e pw14.1)]); (try rw [ey1]); all_goals omega)⟩, by show va_P (dC, dI) vwCl (WL (LC cf) ad E13) t.heap; rw [ht]; exact hP⟩, hS.F ht⟩) hS.2.2 dX12_days_41
    · --16 not
      exact absurd c10 (by decide)
  · -- cwithin, case 1
    obtain ⟨rfl, f15⟩ := hw
    have t16 : ¬ ((0 : Int) ≤ a0.toInt ∧ a0.toInt ≤ y3.toInt) := f15
    refine lv_if_ne (tgt := 21) hx hb dX12_days_16 (by decide) (fun c17 => ?_) (fun c17 => ?_)
    · --16 taken
      exact absurd c17 (by decide)
    · --16 not
      refine lv_iconst (v := -1) hx hb dX12_days_19 (by decide) ?_
      rw [hQ]
      exact W.iret (v := (-1)) hx hb hr (fun t ht hW => ⟨⟨(-1), E, rfl, ⟨hI, hKp, (by have h8 := ln_m1; (try rw [(show xi (E 1) 0 = y1 from vi_e fy1)]); (try rw [ey1]); all_goals omega)⟩, by show va_P (dC, dI) vwCl (WL (LC cf) ad E) t.heap; rw [ht]; exact hP⟩, hS.F ht⟩) hS.2.2 dX12_days_20
def v_u_boat : List Cond := .code yX12_boat cX12_boat 1 (some .int) :: vA
abbrev rm_u_boat : Room := { frames := 0, cells := 0, slots := 0, locals := 0 }
def w_u_boat : Nat → Nat → Bool := wl [] [(1, 1)]
set_option maxHeartbeats 4000000 in
set_option maxRecDepth 100000 in
theorem q_u_boat (l : Launch) (dC : Nat → ClassId) (dI : Nat → Nat → Nat) (cT : Nat → ClassId) (cf : Nat → Nat) (hC : CF cf) (ad : Nat → Nat) (E : Nat → va_E) (sz : Nat)  (hI0 : IXL cT (shC cf) (spC cf) (LC cf) ad E)  : Met l yX12_boat v_u_boat rm_u_boat (va_Pc [.ref (ad 0)] (HWL dC dI (TYC cT) cf ad E sz)) (va_Qi (S := Nat → va_E) (fun r u => IXL cT (shC cf) (spC cf) (LC cf) ad u ∧ Kp w_u_boat E u ∧ ((((((xi (E 1) 1).toInt < 16) → (r.toInt = (xi (E 1) 1).toInt ∧ (xi (u 1) 1).toInt = (xi (E 1) 1).toInt + 1)) ∧ (¬ ((xi (E 1) 1).toInt < 16) → (r.toInt = -1 ∧ (xi (u 1) 1).toInt = (xi (E 1) 1).toInt)))))) (HBL dC dI (LC cf) ad) (va_A (WL (LC cf) ad E) sz)) 0 0 (va_A (WL (LC cf) ad E) sz) := by
  obtain ⟨⟨hc0, hc1, hc2, hc3, hc4, hc5⟩, hcr⟩ := id hC
  refine Met.ofW (cc := cX12_boat) (maxL := 1) (ret := (some .int)) (by decide) rfl ?_
  intro p e s m args below meth c s₁ B hml hv
  obtain ⟨hargs, hsz, hP, hK, hD0, hEV⟩ := hv
  subst hsz
  have hx := B.exec
  have hb := B.bytes
  have hr := B.returns
  have hts := atoms_spec (ws := v_u_boat) B.pre
  have hown : s.vm.findClass RX12 = some m.cls := findClass_of_methodNamed B.named
  have hlocks := B.notSynchronized
  have hinX0 : ∀ w ∈ u_ws RX0 TX0 11, w ∈ v_u_boat := fun w h => vA_in _ w (in_X0 w h)
  have hinX12 : ∀ w ∈ u_ws RX12 TX12 6, w ∈ v_u_boat := fun w h => vA_in _ w (in_X12 w h)
  generalize hAe : va_A (WL (LC cf) ad E) s.heap.size = A at hEV ⊢
  have hA : ∀ q : Nat, s.heap.size ≤ q → A q := fun q h => by rw [← hAe]; exact Or.inr h
  have hD : va_D A (WL (LC cf) ad E) := by rw [← hAe]; exact hD0.self
  have hS : va_S A s.heap s.heap [] := va_S.rf
  have hI := hI0
  have hKp : Kp w_u_boat E E := Kp.rf
  have hl := lv_entry ([.ref (ad 0)]) (n := 1) (Nat.le_of_ble_eq_true rfl)
  obtain ⟨Q, hQ⟩ : ∃ Q, Q = MQ below (va_Qi (S := Nat → va_E) (fun r u => IXL cT (shC cf) (spC cf) (LC cf) ad u ∧ Kp w_u_boat E u ∧ ((((((xi (E 1) 1).toInt < 16) → (r.toInt = (xi (E 1) 1).toInt ∧ (xi (u 1) 1).toInt = (xi (E 1) 1).toInt + 1)) ∧ (¬ ((xi (E 1) 1).toInt < 16) → (r.toInt = -1 ∧ (xi (u 1) 1).toInt = (xi (E 1) 1).toInt)))))) (HBL dC dI (LC cf) ad) (A)) args s 0 0 (A) := ⟨_, rfl⟩
  rw [← hQ, show entryFrame m args 1 = _ from (congrArg (fun z => entryFrame m z 1) hargs).trans (lg_entry_eq _ _ _)]
  generalize (lg_sl ([.ref (ad 0)]) ++ List.replicate (1 - (lg_sl ([.ref (ad 0)])).length) Slot.unset).toArray = ls at hl ⊢
  have hl : lv_has ls 1 [(0, .ref (ad 0))] := hl
  obtain ⟨y1, ey1⟩ : ∃ y, xi (E 1) 1 = y := ⟨_, rfl⟩
  have fy1 : xv (E 1) 1 = .int y1 := (hI.fi 1 (mF 1 rfl) rfl (Nat.le_of_ble_eq_true rfl) rfl).trans (congrArg Value.int ey1)
  have i2 : 0 ≤ y1.toInt ∧ y1.toInt ≤ 16 := by rw [← ey1]; exact hI.iv 1 (mF 1 rfl) rfl (Nat.le_of_ble_eq_true rfl) rfl
  refine lv_aload_n hx hb dX12_boat_0 rfl (lv_at hl 0 rfl) ?_
  refine th_getL (ci := 13) (C := RX12) (T := TX12) (N := 6) (v := .ref (ad 1)) hx hb hts hinX12 hown hK hP hI 0 (mF 0 rfl) rfl rfl 0 (Nat.le_of_ble_eq_true rfl) (hts _ (vA_in _ _ (in_10 _ (zs16 (zs1 (zs0)))))) (fun _ h9 => h9) (hI.fr 0 (mF 0 rfl) rfl (Nat.le_of_ble_eq_true rfl) 1 rfl) dX12_boat_1 ?_
  refine th_getL (ci := 1) (C := RX0) (T := TX0) (N := 11) (v := .int y1) hx hb hts hinX0 hown hK hP hI 1 (mF 1 rfl) rfl rfl 1 (Nat.le_of_ble_eq_true rfl) (hts _ (vA_in _ _ (in_10 _ (zs16 (zs1 (zs1 (zs0))))))) (fun _ h9 => h9) fy1 dX12_boat_4 ?_
  refine lv_bipush (v := 16) hx hb dX12_boat_7 (by decide) ?_
  refine lv_icmp_lt (tgt := 14) hx hb dX12_boat_9 (by decide) (fun c3 => ?_) (fun c3 => ?_)
  · --9 taken
    have t4 : y1.toInt < 16 := ti_lt c3
    have i5 : 0 ≤ y1.toInt ∧ y1.toInt ≤ 15 := iv_lt_l t4 i2 (il_ 16) (by decide)
    refine lv_aload_n hx hb dX12_boat_14 rfl (lv_at hl 0 rfl) ?_
    refine th_getL (ci := 13) (C := RX12) (T := TX12) (N := 6) (v := .ref (ad 1)) hx hb hts hinX12 hown hK hP hI 0 (mF 0 rfl) rfl rfl 0 (Nat.le_of_ble_eq_true rfl) (hts _ (vA_in _ _ (in_10 _ (zs16 (zs1 (zs0)))))) (fun _ h9 => h9) (hI.fr 0 (mF 0 rfl) rfl (Nat.le_of_ble_eq_true rfl) 1 rfl) dX12_boat_15 ?_
    refine lv_dup hx hb dX12_boat_18 rfl ?_
    refine th_getL (ci := 1) (C := RX0) (T := TX0) (N := 11) (v := .int y1) hx hb hts hinX0 hown hK hP hI 1 (mF 1 rfl) rfl rfl 1 (Nat.le_of_ble_eq_true rfl) (hts _ (vA_in _ _ (in_10 _ (zs16 (zs1 (zs1 (zs0))))))) (fun _ h9 => h9) fy1 dX12_boat_19 ?_
    refine lv_iconst (v := 1) hx hb dX12_boat_22 (by decide) ?_
    refine lv_iadd hx hb dX12_boat_23 ?_
    refine lv_topi (fun y6 ey6 => ?_)
    obtain ⟨ty6, iy6⟩ := ti_add (e := 1) (f := 16) i5 ln_1 ey6 (by decide)
    have ty6 : y6.toInt = y1.toInt + 1 := ty6
    have iy6 : 1 ≤ y6.toInt ∧ y6.toInt ≤ 16 := iy6
    refine th_putL (ci := 1) (C := RX0) (T := TX0) (N := 11) (v := .int y6) (ty := .int) hx hb hts hinX0 tyX0 tyX0_ok nmX0 hown hK hP (WL_D hD) hS hI 1 (mF 1 rfl) rfl rfl 1 (Nat.le_of_ble_eq_true rfl) (hts _ (vA_in _ _ (in_10 _ (zs16 (zs1 (zs1 (zs0))))))) (fun _ h9 => h9) rfl (by decide +kernel) rfl rfl (okI rfl (iv_w iy6 (by decide))) dX12_boat_24 (fun H locs E7 pw8 hI hP hS => ?_)
    have hKp := hKp.pw pw8 rfl
    refine lv_aload_n hx hb dX12_boat_27 rfl (lv_at hl 0 rfl) ?_
    refine th_getL (ci := 13) (C := RX12) (T := TX12) (N := 6) (v := .ref (ad 1)) hx hb hts hinX12 hown hK hP hI 0 (mF 0 rfl) rfl rfl 0 (Nat.le_of_ble_eq_true rfl) (hts _ (vA_in _ _ (in_10 _ (zs16 (zs1 (zs0)))))) (fun _ h9 => h9) (hI.fr 0 (mF 0 rfl) rfl (Nat.le_of_ble_eq_true rfl) 1 rfl) dX12_boat_28 ?_
    refine th_getL (ci := 1) (C := RX0) (T := TX0) (N := 11) (v := .int y6) hx hb hts hinX0 hown hK hP hI 1 (mF 1 rfl) rfl rfl 1 (Nat.le_of_ble_eq_true rfl) (hts _ (vA_in _ _ (in_10 _ (zs16 (zs1 (zs1 (zs0))))))) (fun _ h9 => h9) pw8.1 dX12_boat_31 ?_
    refine lv_iconst (v := 1) hx hb dX12_boat_34 (by decide) ?_
    refine lv_isub hx hb dX12_boat_35 ?_
    refine lv_topi (fun y9 ey9 => ?_)
    obtain ⟨ty9, iy9⟩ := ti_sub (e := 0) (f := 15) iy6 ln_1 ey9 (by decide)
    have ty9 : y9.toInt = y6.toInt - 1 := ty9
    have iy9 : 0 ≤ y9.toInt ∧ y9.toInt ≤ 15 := iy9
    rw [hQ]
    exact W.iret (v := y9) hx hb hr (fun t ht hW => ⟨⟨y9, E7, rfl, ⟨hI, hKp, (by (try rw [(show xi (E7 1) 1 = y6 from vi_e pw8.1)]); (try rw [ey1]); all_goals omega)⟩, by show va_P (dC, dI) vwCl (WL (LC cf) ad E7) t.heap; rw [ht]; exact hP⟩, hS.F ht⟩) hS.2.2 dX12_boat_36
  · --9 not
    have t10 : (16 : Int) ≤ y1.toInt := ti_nlt c3
    have i11 : 16 ≤ y1.toInt ∧ y1.toInt ≤ 16 := iv_le_r t10 (il_ 16) i2 (by decide)
    refine lv_iconst (v := -1) hx hb dX12_boat_12 (by decide) ?_
    rw [hQ]
    exact W.iret (v := (-1)) hx hb hr (fun t ht hW => ⟨⟨(-1), E, rfl, ⟨hI, hKp, (by have h8 := ln_m1; (try rw [(show xi (E 1) 1 = y1 from vi_e fy1)]); (try rw [ey1]); all_goals omega)⟩, by show va_P (dC, dI) vwCl (WL (LC cf) ad E) t.heap; rw [ht]; exact hP⟩, hS.F ht⟩) hS.2.2 dX12_boat_13
def v_u_states : List Cond := .code yX12_states cX12_states 4 (some .int) :: vA
abbrev rm_u_states : Room := { frames := 4, cells := 0, slots := 0, locals := 160 }
def w_u_states : Nat → Nat → Bool := wl [38, 39, 40, 41, 42] []
set_option maxHeartbeats 4000000 in
set_option maxRecDepth 100000 in
theorem q_u_states (l : Launch) (dC : Nat → ClassId) (dI : Nat → Nat → Nat) (cT : Nat → ClassId) (cf : Nat → Nat) (hC : CF cf) (ad : Nat → Nat) (E : Nat → va_E) (sz : Nat) (a0 : Int32) (a1 : Int32) (a2 : Int32) (hI0 : IXL cT (shC cf) (spC cf) (LC cf) ad E)  : Met l yX12_states v_u_states rm_u_states (va_Pc [.ref (ad 0), .int a0, .int a1, .int a2] (HWL dC dI (TYC cT) cf ad E sz)) (va_Qi (S := Nat → va_E) (fun r u => IXL cT (shC cf) (spC cf) (LC cf) ad u ∧ Kp w_u_states E u ∧ (True)) (HBL dC dI (LC cf) ad) (va_A (WL (LC cf) ad E) sz)) 0 0 (va_A (WL (LC cf) ad E) sz) := by
  obtain ⟨⟨hc0, hc1, hc2, hc3, hc4, hc5⟩, hcr⟩ := id hC
  refine Met.ofW (cc := cX12_states) (maxL := 4) (ret := (some .int)) (by decide) rfl ?_
  intro p e s m args below meth c s₁ B hml hv
  obtain ⟨hargs, hsz, hP, hK, hD0, hEV⟩ := hv
  subst hsz
  have hx := B.exec
  have hb := B.bytes
  have hr := B.returns
  have hts := atoms_spec (ws := v_u_states) B.pre
  have hown : s.vm.findClass RX12 = some m.cls := findClass_of_methodNamed B.named
  have hlocks := B.notSynchronized
  have hinX0 : ∀ w ∈ u_ws RX0 TX0 11, w ∈ v_u_states := fun w h => vA_in _ w (in_X0 w h)
  have hinX12 : ∀ w ∈ u_ws RX12 TX12 6, w ∈ v_u_states := fun w h => vA_in _ w (in_X12 w h)
  generalize hAe : va_A (WL (LC cf) ad E) s.heap.size = A at hEV ⊢
  have hA : ∀ q : Nat, s.heap.size ≤ q → A q := fun q h => by rw [← hAe]; exact Or.inr h
  have hD : va_D A (WL (LC cf) ad E) := by rw [← hAe]; exact hD0.self
  have hS : va_S A s.heap s.heap [] := va_S.rf
  have hI := hI0
  have hKp : Kp w_u_states E E := Kp.rf
  have hl := lv_entry ([.ref (ad 0), .int a0, .int a1, .int a2]) (n := 4) (Nat.le_of_ble_eq_true rfl)
  obtain ⟨Q, hQ⟩ : ∃ Q, Q = MQ below (va_Qi (S := Nat → va_E) (fun r u => IXL cT (shC cf) (spC cf) (LC cf) ad u ∧ Kp w_u_states E u ∧ (True)) (HBL dC dI (LC cf) ad) (A)) args s 0 0 (A) := ⟨_, rfl⟩
  rw [← hQ, show entryFrame m args 4 = _ from (congrArg (fun z => entryFrame m z 4) hargs).trans (lg_entry_eq _ _ _)]
  generalize (lg_sl ([.ref (ad 0), .int a0, .int a1, .int a2]) ++ List.replicate (4 - (lg_sl ([.ref (ad 0), .int a0, .int a1, .int a2])).length) Slot.unset).toArray = ls at hl ⊢
  have hl : lv_has ls 4 [(0, .ref (ad 0)), (1, .int a0), (2, .int a1), (3, .int a2)] := hl
  refine lv_aload_n hx hb dX12_states_0 rfl (lv_at hl 0 rfl) ?_
  refine th_getL (ci := 13) (C := RX12) (T := TX12) (N := 6) (v := .ref (ad 1)) hx hb hts hinX12 hown hK hP hI 0 (mF 0 rfl) rfl rfl 0 (Nat.le_of_ble_eq_true rfl) (hts _ (vA_in _ _ (in_10 _ (zs16 (zs1 (zs0)))))) (fun _ h9 => h9) (hI.fr 0 (mF 0 rfl) rfl (Nat.le_of_ble_eq_true rfl) 1 rfl) dX12_states_1 ?_
  refine lv_iload_n hx hb dX12_states_4 rfl (lv_at hl 1 rfl) ?_
  refine lv_iload_n hx hb dX12_states_5 rfl (lv_at hl 3 rfl) ?_
  refine th_riL (va_runV (As := [.int a0, .int a2]) (rest := []) ⟨hx, hb, hml, hown, hts⟩ (q_isProtestedC l dC dI cT cf hC ad E s.heap.size a0 a2 hI) (cwV 2 hts (gi_V (in_14 _ (zs16 (zs4 (zs1 (zs0))))) (in_14 _ (zs16 (zs4 (zs1 (zs1 (zs0)))))) (in_14 _ (zs16 (zs4 (zs1 (zs1 (zs1 (zs0))))))) (in_5 _ (zs4 (zs1 (zs1 (zs0))))) (in_6 _ (zs16 (zs4 (zs0))))) rfl rfl rfl ⟨rfl, hz_yX0_isProtested_2⟩ ⟨Nat.le_of_ble_eq_true rfl, Nat.le_of_ble_eq_true rfl⟩) ⟨HWL_bl, va_recv hK hP (ci := 1) (q0 := posL 1 (LC cf)) rfl (hI.ob 1 (mF 1 rfl) rfl), (HWL_wi hP hK (WL_D hD) hS hA hEV)⟩ rfl rfl hl.1 rfl (lv_room (Nat.le_of_ble_eq_true rfl)) dX12_states_6 ⟨Nat.le_of_ble_eq_true rfl, Nat.le_of_ble_eq_true rfl⟩) hS hP (fun r1 H locs hw hP hS => ?_)
  rcases hw with hw | hw
  · -- isProtestedC, case 0
    obtain ⟨rfl, f2, f3, f4⟩ := hw
    have i5 : 0 ≤ (xi (E 1) 0).toInt ∧ (xi (E 1) 0).toInt ≤ 400 := hI0.iv 1 (mF 1 rfl) rfl (Nat.le_of_ble_eq_true rfl) rfl
    refine lv_if_eq (tgt := 21) hx hb dX12_states_9 (by decide) (fun c6 => ?_) (fun c6 => ?_)
    · --9 taken
      exact absurd c6 (by decide)
    · --9 not
      refine lv_iload_n hx hb dX12_states_12 rfl (lv_at hl 2 rfl) ?_
      refine lv_iconst (v := 0) hx hb dX12_states_13 (by decide) ?_
      refine lv_iconst (v := 1) hx hb dX12_states_14 (by decide) ?_
      refine th_pi (va_runS (As := [.int a1, .int 0, .int 1]) (rest := []) ⟨hx, hb, hml, hown, hts⟩ (q_cwithin l a1 (0 : Int32) (1 : Int32)) (va_cwS 3 hts (gi_S (in_10 _ (zs16 (zs4 (zs4 (zs4 (zs1 (zs1 (zs1 (zs0))))))))) (in_4 _ (zs16 (zs4 (zs1 (zs1 (zs0)))))) (in_4 _ (zs16 (zs4 (zs1 (zs1 (zs1 (zs0))))))) (in_4 _ (zs16 (zs4 (zs4 (zs0)))))) rfl rfl rfl hz_yX12_within_3 ⟨Nat.le_of_ble_eq_true rfl, Nat.le_of_ble_eq_true rfl⟩) ⟨fun _ _ _ _ q => q, fun _ _ _ => ⟨rfl, trivial⟩⟩ rfl rfl hl.1 rfl (lv_room (Nat.le_of_ble_eq_true rfl)) dX12_states_15 ⟨Nat.le_of_ble_eq_true rfl, Nat.le_of_ble_eq_true rfl⟩) hS (fun r7 H1 locs1 hw hk1 hS => ?_)
      have hP := ub_keep hP hk1
      generalize H1 = H at hP hS ⊢
      generalize locs1 = locs at hS ⊢
      rcases hw with hw | hw
      · -- cwithin, case 0
        obtain ⟨rfl, f8⟩ := hw
        have t9 : (0 : Int) ≤ a1.toInt := f8.1
        have t10 : a1.toInt ≤ 1 := f8.2
        have i11 : 0 ≤ a1.toInt ∧ a1.toInt ≤ 2147483647 := iv_le_r t9 (il_ 0) (iv_all _) (by decide)
        have i12 : 0 ≤ a1.toInt ∧ a1.toInt ≤ 1 := iv_le_l t10 i11 (il_ 1) (by decide)
        refine lv_if_ne (tgt := 23) hx hb dX12_states_18 (by decide) (fun c13 => ?_) (fun c13 => ?_)
        · --18 taken
          refine lv_aload_n hx hb dX12_states_23 rfl (lv_at hl 0 rfl) ?_
          refine th_getL (ci := 13) (C := RX12) (T := TX12) (N := 6) (v := .ref (ad 5)) hx hb hts hinX12 hown hK hP hI 0 (mF 0 rfl) rfl rfl 4 (Nat.le_of_ble_eq_true rfl) (hts _ (vA_in _ _ (in_14 _ (zs16 (zs4 (zs0)))))) (fun _ h9 => h9) (hI.fr 0 (mF 0 rfl) rfl (Nat.le_of_ble_eq_true rfl) 5 rfl) dX12_states_24 ?_
          refine lv_aload_n hx hb dX12_states_27 rfl (lv_at hl 0 rfl) ?_
          refine th_getL (ci := 13) (C := RX12) (T := TX12) (N := 6) (v := .ref (ad 1)) hx hb hts hinX12 hown hK hP hI 0 (mF 0 rfl) rfl rfl 0 (Nat.le_of_ble_eq_true rfl) (hts _ (vA_in _ _ (in_10 _ (zs16 (zs1 (zs0)))))) (fun _ h9 => h9) (hI.fr 0 (mF 0 rfl) rfl (Nat.le_of_ble_eq_true rfl) 1 rfl) dX12_states_28 ?_
          refine th_getL (ci := 1) (C := RX0) (T := TX0) (N := 11) (v := .ref (ad 12)) hx hb hts hinX0 hown hK hP hI 1 (mF 1 rfl) rfl rfl 8 (Nat.le_of_ble_eq_true rfl) (hts _ (vA_in _ _ (in_14 _ (zs4 (zs4 (zs1 (zs1 (zs0)))))))) (fun _ h9 => h9) (hI.fr 1 (mF 1 rfl) rfl (Nat.le_of_ble_eq_true rfl) 12 rfl) dX12_states_31 ?_
          refine lv_iload_n hx hb dX12_states_34 rfl (lv_at hl 1 rfl) ?_
          refine th_rrL (va_runV (As := [.int a0]) (rest := [.ref (ad 5)]) ⟨hx, hb, hml, hown, hts⟩ (q_get5 l dC dI cT cf hC ad E H.size a0 hI (by omega)) (cwV 1 hts (gi_V (in_14 _ (zs16 (zs4 (zs4 (zs0))))) (in_4 _ (zs16 (zs16 (zs4 (zs1 (zs1 (zs0))))))) (in_4 _ (zs16 (zs16 (zs4 (zs1 (zs1 (zs1 (zs0)))))))) (in_3 _ (zs16 (zs1 (zs1 (zs0))))) (in_3 _ (zs16 (zs16 (zs4 (zs1 (zs1 (zs1 (zs0))))))))) rfl rfl rfl ⟨rfl, hz_yJx4a65c_get_915e3_1⟩ ⟨Nat.le_of_ble_eq_true rfl, Nat.le_of_ble_eq_true rfl⟩) ⟨HWL_bl, va_recv hK hP (ci := 0) (q0 := posL 12 (LC cf)) rfl (hI.ob 12 (mF 12 rfl) rfl), (HWL_wi hP hK (WL_D hD) hS hA hEV)⟩ rfl rfl hl.1 rfl (lv_room (Nat.le_of_ble_eq_true rfl)) dX12_states_35 ⟨Nat.le_of_ble_eq_true rfl, Nat.le_of_ble_eq_true rfl⟩) hS hP (fun r14 H locs hw hP hS => ?_)
          obtain rfl := hw
          have lv15 : a0.toNatClampNeg < cf 5 := by rw [tn_]; omega
          refine va_castS (cC := dC 5) hx hb hown (hts _ (vA_in _ _ (in_14 _ (zs16 (zs1 (zs1 (zs1 (zs0)))))))) (hK.1 5 _ rfl).2 (va_recv hK hP (ci := 5) (q0 := posL (64 * (a0.toNatClampNeg + 1) + 14) (LC cf)) rfl (hI.ob (64 * (a0.toNatClampNeg + 1) + 14) (mP 14 a0.toNatClampNeg (by decide) lv15 (kl_le hC 5 (by decide))) (shC_p 14 a0.toNatClampNeg (by decide)))) dX12_states_38 ?_
          refine lv_iload_n hx hb dX12_states_41 rfl (lv_at hl 2 rfl) ?_
          refine lv_iload_n hx hb dX12_states_42 rfl (lv_at hl 3 rfl) ?_
          refine th_iL (va_runV (As := [.ref (ad (64 * (a0.toNatClampNeg + 1) + 14)), .int a1, .int a2]) (rest := []) ⟨hx, hb, hml, hown, hts⟩ (q_statesOf l dC dI cT cf hC ad E H.size a1 a2 a0.toNatClampNeg hI (by omega) i12 f4) (cwV 3 hts (gi_V (in_23 _ (zs1 (zs1 (zs1 (zs0))))) (in_15 _ (zs4 (zs1 (zs1 (zs1 (zs0)))))) (in_15 _ (zs4 (zs4 (zs0)))) (in_14 _ (zs16 (zs16 (zs0)))) (in_15 _ (zs4 (zs4 (zs1 (zs0)))))) rfl rfl rfl ⟨rfl, hz_yX2_statesOf_3⟩ ⟨Nat.le_of_ble_eq_true rfl, Nat.le_of_ble_eq_true rfl⟩) ⟨HWL_bl, va_recv hK hP (ci := 3) (q0 := posL 5 (LC cf)) rfl (hI.ob 5 (mF 5 rfl) rfl), (HWL_wi hP hK (WL_D hD) hS hA hEV)⟩ rfl rfl hl.1 rfl (lv_room (Nat.le_of_ble_eq_true rfl)) dX12_states_43 ⟨Nat.le_of_ble_eq_true rfl, Nat.le_of_ble_eq_true rfl⟩) (WL_D hD) hS hA (fun r16 E17 H locs hw hP hS => ?_)
          obtain ⟨hI, kq18, hw⟩ := hw
          have hKb := hKp
          have hKp := hKp.tr kq18 (wl_sub rfl rfl)
          rw [hQ]
          exact W.iret (v := r16) hx hb hr (fun t ht hW => ⟨⟨r16, E17, rfl, ⟨hI, hKp, trivial⟩, by show va_P (dC, dI) vwCl (WL (LC cf) ad E17) t.heap; rw [ht]; exact hP⟩, hS.F ht⟩) hS.2.2 dX12_states_46
        · --18 not
          exact absurd c13 (by decide)
      · -- cwithin, case 1
        obtain ⟨rfl, f19⟩ := hw
        have t20 : ¬ ((0 : Int) ≤ a1.toInt ∧ a1.toInt ≤ 1) := f19
        refine lv_if_ne (tgt := 23) hx hb dX12_states_18 (by decide) (fun c21 => ?_) (fun c21 => ?_)
        · --18 taken
          exact absurd c21 (by decide)
        · --18 not
          refine lv_iconst (v := -1) hx hb dX12_states_21 (by decide) ?_
          rw [hQ]
          exact W.iret (v := (-1)) hx hb hr (fun t ht hW => ⟨⟨(-1), E, rfl, ⟨hI, hKp, trivial⟩, by show va_P (dC, dI) vwCl (WL (LC cf) ad E) t.heap; rw [ht]; exact hP⟩, hS.F ht⟩) hS.2.2 dX12_states_22
  · -- isProtestedC, case 1
    obtain ⟨rfl, f22⟩ := hw
    have i23 : 0 ≤ (xi (E 1) 0).toInt ∧ (xi (E 1) 0).toInt ≤ 400 := hI0.iv 1 (mF 1 rfl) rfl (Nat.le_of_ble_eq_true rfl) rfl
    refine lv_if_eq (tgt := 21) hx hb dX12_states_9 (by decide) (fun c24 => ?_) (fun c24 => ?_)
    · --9 taken
      refine lv_iconst (v := -1) hx hb dX12_states_21 (by decide) ?_
      rw [hQ]
      exact W.iret (v := (-1)) hx hb hr (fun t ht hW => ⟨⟨(-1), E, rfl, ⟨hI, hKp, trivial⟩, by show va_P (dC, dI) vwCl (WL (LC cf) ad E) t.heap; rw [ht]; exact hP⟩, hS.F ht⟩) hS.2.2 dX12_states_22
    · --9 not
      exact absurd c24 (by decide)
def v_u_finding : List Cond := .code yX12_finding cX12_finding 4 (some .int) :: vA
abbrev rm_u_finding : Room := { frames := 7, cells := 0, slots := 0, locals := 280 }
def w_u_finding : Nat → Nat → Bool := wl [19, 20, 38, 39, 40, 41, 42] [(5, 6), (5, 7), (5, 8), (5, 9)]
set_option maxHeartbeats 4000000 in
set_option maxRecDepth 100000 in
theorem q_u_finding (l : Launch) (dC : Nat → ClassId) (dI : Nat → Nat → Nat) (cT : Nat → ClassId) (cf : Nat → Nat) (hC : CF cf) (ad : Nat → Nat) (E : Nat → va_E) (sz : Nat) (a0 : Int32) (a1 : Int32) (a2 : Int32) (hI0 : IXL cT (shC cf) (spC cf) (LC cf) ad E)  : Met l yX12_finding v_u_finding rm_u_finding (va_Pc [.ref (ad 0), .int a0, .int a1, .int a2] (HWL dC dI (TYC cT) cf ad E sz)) (va_Qi (S := Nat → va_E) (fun r u => IXL cT (shC cf) (spC cf) (LC cf) ad u ∧ Kp w_u_finding E u ∧ (True)) (HBL dC dI (LC cf) ad) (va_A (WL (LC cf) ad E) sz)) 0 0 (va_A (WL (LC cf) ad E) sz) := by
  obtain ⟨⟨hc0, hc1, hc2, hc3, hc4, hc5⟩, hcr⟩ := id hC
  refine Met.ofW (cc := cX12_finding) (maxL := 4) (ret := (some .int)) (by decide) rfl ?_
  intro p e s m args below meth c s₁ B hml hv
  obtain ⟨hargs, hsz, hP, hK, hD0, hEV⟩ := hv
  subst hsz
  have hx := B.exec
  have hb := B.bytes
  have hr := B.returns
  have hts := atoms_spec (ws := v_u_finding) B.pre
  have hown : s.vm.findClass RX12 = some m.cls := findClass_of_methodNamed B.named
  have hlocks := B.notSynchronized
  have hinX0 : ∀ w ∈ u_ws RX0 TX0 11, w ∈ v_u_finding := fun w h => vA_in _ w (in_X0 w h)
  have hinX12 : ∀ w ∈ u_ws RX12 TX12 6, w ∈ v_u_finding := fun w h => vA_in _ w (in_X12 w h)
  generalize hAe : va_A (WL (LC cf) ad E) s.heap.size = A at hEV ⊢
  have hA : ∀ q : Nat, s.heap.size ≤ q → A q := fun q h => by rw [← hAe]; exact Or.inr h
  have hD : va_D A (WL (LC cf) ad E) := by rw [← hAe]; exact hD0.self
  have hS : va_S A s.heap s.heap [] := va_S.rf
  have hI := hI0
  have hKp : Kp w_u_finding E E := Kp.rf
  have hl := lv_entry ([.ref (ad 0), .int a0, .int a1, .int a2]) (n := 4) (Nat.le_of_ble_eq_true rfl)
  obtain ⟨Q, hQ⟩ : ∃ Q, Q = MQ below (va_Qi (S := Nat → va_E) (fun r u => IXL cT (shC cf) (spC cf) (LC cf) ad u ∧ Kp w_u_finding E u ∧ (True)) (HBL dC dI (LC cf) ad) (A)) args s 0 0 (A) := ⟨_, rfl⟩
  rw [← hQ, show entryFrame m args 4 = _ from (congrArg (fun z => entryFrame m z 4) hargs).trans (lg_entry_eq _ _ _)]
  generalize (lg_sl ([.ref (ad 0), .int a0, .int a1, .int a2]) ++ List.replicate (4 - (lg_sl ([.ref (ad 0), .int a0, .int a1, .int a2])).length) Slot.unset).toArray = ls at hl ⊢
  have hl : lv_has ls 4 [(0, .ref (ad 0)), (1, .int a0), (2, .int a1), (3, .int a2)] := hl
  refine lv_aload_n hx hb dX12_finding_0 rfl (lv_at hl 0 rfl) ?_
  refine th_getL (ci := 13) (C := RX12) (T := TX12) (N := 6) (v := .ref (ad 1)) hx hb hts hinX12 hown hK hP hI 0 (mF 0 rfl) rfl rfl 0 (Nat.le_of_ble_eq_true rfl) (hts _ (vA_in _ _ (in_10 _ (zs16 (zs1 (zs0)))))) (fun _ h9 => h9) (hI.fr 0 (mF 0 rfl) rfl (Nat.le_of_ble_eq_true rfl) 1 rfl) dX12_finding_1 ?_
  refine lv_iload_n hx hb dX12_finding_4 rfl (lv_at hl 1 rfl) ?_
  refine lv_iload_n hx hb dX12_finding_5 rfl (lv_at hl 3 rfl) ?_
  refine th_riL (va_runV (As := [.int a0, .int a2]) (rest := []) ⟨hx, hb, hml, hown, hts⟩ (q_isProtestedC l dC dI cT cf hC ad E s.heap.size a0 a2 hI) (cwV 2 hts (gi_V (in_14 _ (zs16 (zs4 (zs1 (zs0))))) (in_14 _ (zs16 (zs4 (zs1 (zs1 (zs0)))))) (in_14 _ (zs16 (zs4 (zs1 (zs1 (zs1 (zs0))))))) (in_5 _ (zs4 (zs1 (zs1 (zs0))))) (in_6 _ (zs16 (zs4 (zs0))))) rfl rfl rfl ⟨rfl, hz_yX0_isProtested_2⟩ ⟨Nat.le_of_ble_eq_true rfl, Nat.le_of_ble_eq_true rfl⟩) ⟨HWL_bl, va_recv hK hP (ci := 1) (q0 := posL 1 (LC cf)) rfl (hI.ob 1 (mF 1 rfl) rfl), (HWL_wi hP hK (WL_D hD) hS hA hEV)⟩ rfl rfl hl.1 rfl (lv_room (Nat.le_of_ble_eq_true rfl)) dX12_finding_6 ⟨Nat.le_of_ble_eq_true rfl, Nat.le_of_ble_eq_true rfl⟩) hS hP (fun r1 H locs hw hP hS => ?_)
  rcases hw with hw | hw
  · -- isProtestedC, case 0
    obtain ⟨rfl, f2, f3, f4⟩ := hw
    have i5 : 0 ≤ (xi (E 1) 0).toInt ∧ (xi (E 1) 0).toInt ≤ 400 := hI0.iv 1 (mF 1 rfl) rfl (Nat.le_of_ble_eq_true rfl) rfl
    refine lv_if_eq (tgt := 21) hx hb dX12_finding_9 (by decide) (fun c6 => ?_) (fun c6 => ?_)
    · --9 taken
      exact absurd c6 (by decide)
    · --9 not
      refine lv_iload_n hx hb dX12_finding_12 rfl (lv_at hl 2 rfl) ?_
      refine lv_iconst (v := 0) hx hb dX12_finding_13 (by decide) ?_
      refine lv_iconst (v := 1) hx hb dX12_finding_14 (by decide) ?_
      refine th_pi (va_runS (As := [.int a1, .int 0, .int 1]) (rest := []) ⟨hx, hb, hml, hown, hts⟩ (q_cwithin l a1 (0 : Int32) (1 : Int32)) (va_cwS 3 hts (gi_S (in_10 _ (zs16 (zs4 (zs4 (zs4 (zs1 (zs1 (zs1 (zs0))))))))) (in_4 _ (zs16 (zs4 (zs1 (zs1 (zs0)))))) (in_4 _ (zs16 (zs4 (zs1 (zs1 (zs1 (zs0))))))) (in_4 _ (zs16 (zs4 (zs4 (zs0)))))) rfl rfl rfl hz_yX12_within_3 ⟨Nat.le_of_ble_eq_true rfl, Nat.le_of_ble_eq_true rfl⟩) ⟨fun _ _ _ _ q => q, fun _ _ _ => ⟨rfl, trivial⟩⟩ rfl rfl hl.1 rfl (lv_room (Nat.le_of_ble_eq_true rfl)) dX12_finding_15 ⟨Nat.le_of_ble_eq_true rfl, Nat.le_of_ble_eq_true rfl⟩) hS (fun r7 H1 locs1 hw hk1 hS => ?_)
      have hP := ub_keep hP hk1
      generalize H1 = H at hP hS ⊢
      generalize locs1 = locs at hS ⊢
      rcases hw with hw | hw
      · -- cwithin, case 0
        obtain ⟨rfl, f8⟩ := hw
        have t9 : (0 : Int) ≤ a1.toInt := f8.1
        have t10 : a1.toInt ≤ 1 := f8.2
        have i11 : 0 ≤ a1.toInt ∧ a1.toInt ≤ 2147483647 := iv_le_r t9 (il_ 0) (iv_all _) (by decide)
        have i12 : 0 ≤ a1.toInt ∧ a1.toInt ≤ 1 := iv_le_l t10 i11 (il_ 1) (by decide)
        refine lv_if_ne (tgt := 23) hx hb dX12_finding_18 (by decide) (fun c13 => ?_) (fun c13 => ?_)
        · --18 taken
          refine lv_aload_n hx hb dX12_finding_23 rfl (lv_at hl 0 rfl) ?_
          refine th_getL (ci := 13) (C := RX12) (T := TX12) (N := 6) (v := .ref (ad 5)) hx hb hts hinX12 hown hK hP hI 0 (mF 0 rfl) rfl rfl 4 (Nat.le_of_ble_eq_true rfl) (hts _ (vA_in _ _ (in_14 _ (zs16 (zs4 (zs0)))))) (fun _ h9 => h9) (hI.fr 0 (mF 0 rfl) rfl (Nat.le_of_ble_eq_true rfl) 5 rfl) dX12_finding_24 ?_
          refine lv_aload_n hx hb dX12_finding_27 rfl (lv_at hl 0 rfl) ?_
          refine th_getL (ci := 13) (C := RX12) (T := TX12) (N := 6) (v := .ref (ad 1)) hx hb hts hinX12 hown hK hP hI 0 (mF 0 rfl) rfl rfl 0 (Nat.le_of_ble_eq_true rfl) (hts _ (vA_in _ _ (in_10 _ (zs16 (zs1 (zs0)))))) (fun _ h9 => h9) (hI.fr 0 (mF 0 rfl) rfl (Nat.le_of_ble_eq_true rfl) 1 rfl) dX12_finding_28 ?_
          refine th_getL (ci := 1) (C := RX0) (T := TX0) (N := 11) (v := .ref (ad 12)) hx hb hts hinX0 hown hK hP hI 1 (mF 1 rfl) rfl rfl 8 (Nat.le_of_ble_eq_true rfl) (hts _ (vA_in _ _ (in_14 _ (zs4 (zs4 (zs1 (zs1 (zs0)))))))) (fun _ h9 => h9) (hI.fr 1 (mF 1 rfl) rfl (Nat.le_of_ble_eq_true rfl) 12 rfl) dX12_finding_31 ?_
          refine lv_iload_n hx hb dX12_finding_34 rfl (lv_at hl 1 rfl) ?_
          refine th_rrL (va_runV (As := [.int a0]) (rest := [.ref (ad 5)]) ⟨hx, hb, hml, hown, hts⟩ (q_get5 l dC dI cT cf hC ad E H.size a0 hI (by omega)) (cwV 1 hts (gi_V (in_14 _ (zs16 (zs4 (zs4 (zs0))))) (in_4 _ (zs16 (zs16 (zs4 (zs1 (zs1 (zs0))))))) (in_4 _ (zs16 (zs16 (zs4 (zs1 (zs1 (zs1 (zs0)))))))) (in_3 _ (zs16 (zs1 (zs1 (zs0))))) (in_3 _ (zs16 (zs16 (zs4 (zs1 (zs1 (zs1 (zs0))))))))) rfl rfl rfl ⟨rfl, hz_yJx4a65c_get_915e3_1⟩ ⟨Nat.le_of_ble_eq_true rfl, Nat.le_of_ble_eq_true rfl⟩) ⟨HWL_bl, va_recv hK hP (ci := 0) (q0 := posL 12 (LC cf)) rfl (hI.ob 12 (mF 12 rfl) rfl), (HWL_wi hP hK (WL_D hD) hS hA hEV)⟩ rfl rfl hl.1 rfl (lv_room (Nat.le_of_ble_eq_true rfl)) dX12_finding_35 ⟨Nat.le_of_ble_eq_true rfl, Nat.le_of_ble_eq_true rfl⟩) hS hP (fun r14 H locs hw hP hS => ?_)
          obtain rfl := hw
          have lv15 : a0.toNatClampNeg < cf 5 := by rw [tn_]; omega
          refine va_castS (cC := dC 5) hx hb hown (hts _ (vA_in _ _ (in_14 _ (zs16 (zs1 (zs1 (zs1 (zs0)))))))) (hK.1 5 _ rfl).2 (va_recv hK hP (ci := 5) (q0 := posL (64 * (a0.toNatClampNeg + 1) + 14) (LC cf)) rfl (hI.ob (64 * (a0.toNatClampNeg + 1) + 14) (mP 14 a0.toNatClampNeg (by decide) lv15 (kl_le hC 5 (by decide))) (shC_p 14 a0.toNatClampNeg (by decide)))) dX12_finding_38 ?_
          refine lv_iload_n hx hb dX12_finding_41 rfl (lv_at hl 2 rfl) ?_
          refine lv_iload_n hx hb dX12_finding_42 rfl (lv_at hl 3 rfl) ?_
          refine th_iL (va_runV (As := [.ref (ad (64 * (a0.toNatClampNeg + 1) + 14)), .int a1, .int a2]) (rest := []) ⟨hx, hb, hml, hown, hts⟩ (q_find l dC dI cT cf hC ad E H.size a1 a2 a0.toNatClampNeg hI (by omega) f4) (cwV 3 hts (gi_V (in_14 _ (zs16 (zs4 (zs4 (zs4 (zs1 (zs0))))))) (in_14 _ (zs16 (zs4 (zs4 (zs4 (zs1 (zs1 (zs0)))))))) (in_14 _ (zs16 (zs4 (zs4 (zs4 (zs1 (zs1 (zs1 (zs0))))))))) (in_14 _ (zs16 (zs16 (zs0)))) (in_14 _ (zs16 (zs16 (zs1 (zs0)))))) rfl rfl rfl ⟨rfl, hz_yX2_find_3⟩ ⟨Nat.le_of_ble_eq_true rfl, Nat.le_of_ble_eq_true rfl⟩) ⟨HWL_bl, va_recv hK hP (ci := 3) (q0 := posL 5 (LC cf)) rfl (hI.ob 5 (mF 5 rfl) rfl), (HWL_wi hP hK (WL_D hD) hS hA hEV)⟩ rfl rfl hl.1 rfl (lv_room (Nat.le_of_ble_eq_true rfl)) dX12_finding_43 ⟨Nat.le_of_ble_eq_true rfl, Nat.le_of_ble_eq_true rfl⟩) (WL_D hD) hS hA (fun r16 E17 H locs hw hP hS => ?_)
          obtain ⟨hI, kq18, hw⟩ := hw
          have hKb := hKp
          have hKp := hKp.tr kq18 (wl_sub rfl rfl)
          have f19 := hw
          rw [hQ]
          exact W.iret (v := r16) hx hb hr (fun t ht hW => ⟨⟨r16, E17, rfl, ⟨hI, hKp, trivial⟩, by show va_P (dC, dI) vwCl (WL (LC cf) ad E17) t.heap; rw [ht]; exact hP⟩, hS.F ht⟩) hS.2.2 dX12_finding_46
        · --18 not
          exact absurd c13 (by decide)
      · -- cwithin, case 1
        obtain ⟨rfl, f20⟩ := hw
        have t21 : ¬ ((0 : Int) ≤ a1.toInt ∧ a1.toInt ≤ 1) := f20
        refine lv_if_ne (tgt := 23) hx hb dX12_finding_18 (by decide) (fun c22 => ?_) (fun c22 => ?_)
        · --18 taken
          exact absurd c22 (by decide)
        · --18 not
          refine lv_iconst (v := -1) hx hb dX12_finding_21 (by decide) ?_
          rw [hQ]
          exact W.iret (v := (-1)) hx hb hr (fun t ht hW => ⟨⟨(-1), E, rfl, ⟨hI, hKp, trivial⟩, by show va_P (dC, dI) vwCl (WL (LC cf) ad E) t.heap; rw [ht]; exact hP⟩, hS.F ht⟩) hS.2.2 dX12_finding_22
  · -- isProtestedC, case 1
    obtain ⟨rfl, f23⟩ := hw
    have i24 : 0 ≤ (xi (E 1) 0).toInt ∧ (xi (E 1) 0).toInt ≤ 400 := hI0.iv 1 (mF 1 rfl) rfl (Nat.le_of_ble_eq_true rfl) rfl
    refine lv_if_eq (tgt := 21) hx hb dX12_finding_9 (by decide) (fun c25 => ?_) (fun c25 => ?_)
    · --9 taken
      refine lv_iconst (v := -1) hx hb dX12_finding_21 (by decide) ?_
      rw [hQ]
      exact W.iret (v := (-1)) hx hb hr (fun t ht hW => ⟨⟨(-1), E, rfl, ⟨hI, hKp, trivial⟩, by show va_P (dC, dI) vwCl (WL (LC cf) ad E) t.heap; rw [ht]; exact hP⟩, hS.F ht⟩) hS.2.2 dX12_finding_22
    · --9 not
      exact absurd c25 (by decide)
end
section
/-! ===== worlds by their members; worlds that grow ===== -/
theorem va_P_mem {D : va_G} {cl : List vw_C} {ws : va_W} {H : Heap} : va_P D cl ws H ↔ ∀ x ∈ ws, va_at D cl x H := by
  constructor
  · intro h x hx
    obtain ⟨k, hk⟩ := List.mem_iff_getElem?.mp hx
    exact h k x hk
  · intro h k q hk
    exact h q (List.mem_of_getElem? hk)
theorem va_P_sub {D : va_G} {cl : List vw_C} {ws ws' : va_W} {H : Heap} (h : va_P D cl ws H) (hs : ∀ x ∈ ws', x ∈ ws) : va_P D cl ws' H := va_P_mem.mpr fun x hx => va_P_mem.mp h x (hs x hx)
theorem va_D_iff {A : Nat → Prop} {ws : va_W} : va_D A ws ↔ (ws.map (fun q => q.1)).Nodup ∧ ∀ q ∈ ws, A q.1 := by
  constructor
  · intro h
    refine ⟨List.pairwise_iff_getElem.mpr fun i j hi hj hij e => ?_, fun q hq => ?_⟩
    · rw [List.length_map] at hi hj
      rw [List.getElem_map, List.getElem_map] at e
      have := h.1 i j _ _ (List.getElem?_eq_getElem hi) (List.getElem?_eq_getElem hj) e
      omega
    · obtain ⟨k, hk⟩ := List.mem_iff_getElem?.mp hq
      exact h.2 k q hk
  · intro h
    refine ⟨fun i j p q hi hj e => ?_, fun k q hk => h.2 q (List.mem_of_getElem? hk)⟩
    have hi2 : i < ws.length := (List.getElem?_eq_some_iff.mp hi).1
    have hj2 : j < ws.length := (List.getElem?_eq_some_iff.mp hj).1
    have hi3 : ws[i] = p := (List.getElem?_eq_some_iff.mp hi).2
    have hj3 : ws[j] = q := (List.getElem?_eq_some_iff.mp hj).2
    have key : ∀ a b : Nat, (ha : a < ws.length) → (hb : b < ws.length) → a < b → ws[a].1 ≠ ws[b].1 := fun a b ha hb hab => by
      have := List.pairwise_iff_getElem.mp h.1 a b (by rw [List.length_map]; exact ha) (by rw [List.length_map]; exact hb) hab
      rw [List.getElem_map, List.getElem_map] at this
      exact this
    rcases Nat.lt_trichotomy i j with q1 | q1 | q1
    · exact absurd (by rw [hi3, hj3]; exact e) (key i j hi2 hj2 q1)
    · exact q1
    · exact absurd (by rw [hi3, hj3]; exact e.symm) (key j i hj2 hi2 q1)
theorem va_D_perm {A : Nat → Prop} {ws ws' : va_W} (h : va_D A ws) (hp : ws'.Perm ws) : va_D A ws' := by
  rw [va_D_iff] at h ⊢
  exact ⟨(hp.map _).nodup_iff.mpr h.1, fun q hq => h.2 q (hp.mem_iff.mp hq)⟩
theorem va_P_perm {D : va_G} {cl : List vw_C} {ws ws' : va_W} {H : Heap} (h : va_P D cl ws H) (hp : ws'.Perm ws) : va_P D cl ws' H := va_P_sub h fun x hx => hp.mem_iff.mp hx
theorem WL_perm {L L' : List Nat} {ad : Nat → Nat} {E : Nat → va_E} (h : L.Perm L') : (WL L ad E).Perm (WL L' ad E) := h.map _
theorem WL_congr {L : List Nat} {ad ad' : Nat → Nat} {E E' : Nat → va_E} (h : ∀ k ∈ L, ad k = ad' k ∧ E k = E' k) : WL L ad E = WL L ad' E' := by
  apply List.map_congr_left
  intro k hk
  rw [(h k hk).1, (h k hk).2]
theorem WL_append {L L' : List Nat} {ad : Nat → Nat} {E : Nat → va_E} : WL (L ++ L') ad E = WL L ad E ++ WL L' ad E := List.map_append
theorem perm_mem {L L' : List Nat} (h1 : L.Nodup) (h2 : L'.Nodup) (h : ∀ x, x ∈ L ↔ x ∈ L') : L.Perm L' := (List.perm_ext_iff_of_nodup h1 h2).mpr h
theorem LC_cases {cf : Nat → Nat} {o : Nat} (h : o ∈ LC cf) : (fixB o = true ∧ o < 57) ∨ (13 ≤ o ∧ o < 19 ∧ 0 < cf (o - 13)) ∨ ∃ t i : Nat, t < 15 ∧ i < cf (kl t) ∧ o = 64 * (i + 1) + t := by
  have h2 := (List.mem_filter.mp h).2
  unfold lvC at h2
  by_cases q : o < 64
  · rw [blt_t q] at h2
    have h3 : (fixB o || (Nat.ble 13 o && Nat.blt o 19 && Nat.blt 0 (cf (o - 13)))) = true := h2
    rw [Bool.or_eq_true, Bool.and_eq_true, Bool.and_eq_true] at h3
    rcases h3 with h3 | ⟨⟨h4, h5⟩, h6⟩
    · left
      refine ⟨h3, ?_⟩
      unfold fixB at h3
      rw [Bool.or_eq_true, Bool.and_eq_true] at h3
      rcases h3 with h3 | h3
      · have := Nat.le_of_ble_eq_true h3; omega
      · have := Nat.le_of_ble_eq_true h3.2; omega
    · right; left
      exact ⟨Nat.le_of_ble_eq_true h4, Nat.le_of_ble_eq_true h5, Nat.le_of_ble_eq_true h6⟩
  · rw [blt_f (show 64 ≤ o by omega)] at h2
    have h3 : (Nat.blt (o % 64) 15 && Nat.blt (o / 64 - 1) (cf (kl (o % 64)))) = true := h2
    rw [Bool.and_eq_true] at h3
    right; right
    exact ⟨o % 64, o / 64 - 1, Nat.le_of_ble_eq_true h3.1, Nat.le_of_ble_eq_true h3.2, by omega⟩
theorem LC_mem {cf : Nat → Nat} (hC : ∀ j, j < 6 → cf j ≤ 300) {o : Nat} : o ∈ LC cf ↔ (fixB o = true ∧ o < 57) ∨ (13 ≤ o ∧ o < 19 ∧ 0 < cf (o - 13)) ∨ ∃ t i : Nat, t < 15 ∧ i < cf (kl t) ∧ o = 64 * (i + 1) + t := by
  constructor
  · exact LC_cases
  · rintro (h | h | ⟨t, i, h1, h2, rfl⟩)
    · exact mF o h.1
    · exact mD o h.1 h.2.1 h.2.2
    · refine mP t i h1 h2 (hC _ ?_)
      have : ∀ t : Nat, t < 15 → kl t < 6 := by decide
      exact this t h1
/-- a wider slot -/
def spLe (s s' : Nat × Int × Int) : Prop := s = s' ∨ (s.1 = 0 ∧ s'.1 = 0 ∧ s'.2.1 ≤ s.2.1 ∧ s.2.2 ≤ s'.2.2)
theorem okV_le {ad : Nat → Nat} {s s' : Nat × Int × Int} {v : Value} (h : spLe s s') (hv : okV ad s v) : okV ad s' v := by
  rcases h with rfl | ⟨h1, h2, h3, h4⟩
  · exact hv
  · obtain ⟨a, b, c⟩ := s
    obtain ⟨a', b', c'⟩ := s'
    dsimp only at h1 h2 h3 h4
    subst h1 h2
    exact ⟨hv.1, Int.le_trans h3 hv.2.1, Int.le_trans hv.2.2 h4⟩
/-- where a slot refers to -/
def refP (Q : Nat → Prop) (s : Nat × Int × Int) : Prop := match s with
  | (1, k, _) => Q k.toNat
  | (2, k, j) => Q k.toNat ∧ Q j.toNat
  | _ => True
theorem okV_ad {ad ad' : Nat → Nat} {s : Nat × Int × Int} {v : Value} (h : refP (fun k => ad' k = ad k) s) (hv : okV ad s v) : okV ad' s v := by
  obtain ⟨a, b, c⟩ := s
  match a with
  | 0 => exact hv
  | 1 =>
    have h : ad' b.toNat = ad b.toNat := h
    show v = .ref (ad' b.toNat)
    rw [h]
    exact hv
  | 2 =>
    have h : ad' b.toNat = ad b.toNat ∧ ad' c.toNat = ad c.toNat := h
    show v = .ref (ad' b.toNat) ∨ v = .ref (ad' c.toNat)
    rw [h.1, h.2]
    exact hv
  | 3 => trivial
  | 4 => exact hv
  | (n + 5) => trivial
theorem refP_m {Q Q' : Nat → Prop} {s : Nat × Int × Int} (h : refP Q s) (hq : ∀ k, Q k → Q' k) : refP Q' s := by
  obtain ⟨a, b, c⟩ := s
  match a with
  | 0 => trivial
  | 1 => exact hq _ h
  | 2 => exact ⟨hq _ h.1, hq _ h.2⟩
  | (n + 3) => trivial
def all2 : List (Nat × Int × Int) → List (Nat × Int × Int) → Prop
  | [], [] => True
  | a :: l, b :: l' => spLe a b ∧ all2 l l'
  | _, _ => False
theorem all2_getD : ∀ {l l' : List (Nat × Int × Int)}, all2 l l' → ∀ j, spLe (l.getD j (9, 0, 0)) (l'.getD j (9, 0, 0))
  | [], [], _, j => Or.inl rfl
  | _ :: _, _ :: _, h, 0 => h.1
  | _ :: _, _ :: _, h, j + 1 => by
    have := all2_getD h.2 j
    simpa using this
  | [], _ :: _, h, _ => h.elim
  | _ :: _, [], h, _ => h.elim
def allR (Q : Nat → Prop) : List (Nat × Int × Int) → Prop
  | [] => True
  | a :: l => refP Q a ∧ allR Q l
theorem allR_getD {Q : Nat → Prop} : ∀ {l : List (Nat × Int × Int)}, allR Q l → ∀ j, refP Q (l.getD j (9, 0, 0))
  | [], _, _ => trivial
  | _ :: _, h, 0 => h.1
  | _ :: l, h, j + 1 => by
    have := allR_getD h.2 j
    simpa using this
end
section
section GROW
variable {cf cf' : Nat → Nat}
theorem spO_le (h1 : cf 1 ≤ cf' 1) (h2 : cf 2 ≤ cf' 2) : ∀ o, o < 7 → ∀ j, spLe ((spO cf o).getD j (9, 0, 0)) ((spO cf' o).getD j (9, 0, 0)) := by
  intro o ho
  rcases (show o = 0 ∨ o = 1 ∨ o = 2 ∨ o = 3 ∨ o = 4 ∨ o = 5 ∨ o = 6 by omega) with rfl | rfl | rfl | rfl | rfl | rfl | rfl
  · exact all2_getD (by simp [all2, spLe, spO, spO0])
  · exact all2_getD (by simp [all2, spLe, spO, spO1])
  · exact all2_getD (by simp [all2, spLe, spO, spO2])
  · exact all2_getD (by simp [all2, spLe, spO, spO3])
  · exact all2_getD (by simp [all2, spLe, spO, spO4]; omega)
  · exact all2_getD (by simp [all2, spLe, spO, spO5])
  · exact all2_getD (by simp [all2, spLe, spO, spO6])
theorem spR_le (h2 : cf 2 ≤ cf' 2) : ∀ j, spLe ((spR cf).getD j (9, 0, 0)) ((spR cf').getD j (9, 0, 0)) := all2_getD (by simp [all2, spLe, spR]; omega)
theorem spO_ref {Q : Nat → Prop} (hQ : ∀ k, fixB k = true → Q k) : ∀ o, o < 7 → ∀ j, refP Q ((spO cf o).getD j (9, 0, 0)) := by
  intro o ho
  rcases (show o = 0 ∨ o = 1 ∨ o = 2 ∨ o = 3 ∨ o = 4 ∨ o = 5 ∨ o = 6 by omega) with rfl | rfl | rfl | rfl | rfl | rfl | rfl
  · exact allR_getD ⟨hQ _ rfl, hQ _ rfl, hQ _ rfl, hQ _ rfl, hQ _ rfl, hQ _ rfl, trivial⟩
  · exact allR_getD ⟨trivial, trivial, trivial, hQ _ rfl, hQ _ rfl, hQ _ rfl, hQ _ rfl, hQ _ rfl, hQ _ rfl, hQ _ rfl, hQ _ rfl, trivial⟩
  · exact allR_getD ⟨hQ _ rfl, trivial, trivial, trivial, hQ _ rfl, trivial, hQ _ rfl, hQ _ rfl, hQ _ rfl, trivial, trivial⟩
  · exact allR_getD ⟨hQ _ rfl, hQ _ rfl, hQ _ rfl, hQ _ rfl, hQ _ rfl, hQ _ rfl, trivial, trivial, trivial, trivial⟩
  · exact allR_getD ⟨hQ _ rfl, hQ _ rfl, trivial, hQ _ rfl, hQ _ rfl, hQ _ rfl, hQ _ rfl, hQ _ rfl, hQ _ rfl, hQ _ rfl, trivial⟩
  · exact allR_getD ⟨hQ _ rfl, hQ _ rfl, hQ _ rfl, hQ _ rfl, hQ _ rfl, hQ _ rfl, trivial, trivial, trivial, trivial, trivial⟩
  · exact allR_getD ⟨hQ _ rfl, hQ _ rfl, hQ _ rfl, hQ _ rfl, hQ _ rfl, hQ _ rfl, hQ _ rfl, hQ _ rfl, hQ _ rfl, hQ _ rfl, hQ _ rfl, hQ _ rfl, hQ _ rfl, hQ _ rfl, hQ _ rfl, trivial, trivial, hQ _ rfl, trivial⟩
theorem spR_ref {Q : Nat → Prop} : ∀ j, refP Q ((spR cf).getD j (9, 0, 0)) := allR_getD (by simp [allR, refP, spR])
end GROW
end
section
theorem shC_f {cf : Nat → Nat} {o : Nat} (h : fixB o = true) (h2 : o < 57) : shC cf o = shF.getD o (9, 0, 0) := by
  have h3 : ¬ (13 ≤ o ∧ o < 19) := by
    unfold fixB at h
    rw [Bool.or_eq_true, Bool.and_eq_true] at h
    rcases h with h | h
    · have := Nat.le_of_ble_eq_true h; omega
    · have := Nat.le_of_ble_eq_true h.1; omega
  unfold shC
  rw [blt_t (show o < 64 by omega)]
  show (bif (Nat.ble 13 o && Nat.blt o 19) then _ else _) = _
  have h4 : (Nat.ble 13 o && Nat.blt o 19) = false := by
    cases q : (Nat.ble 13 o && Nat.blt o 19) with
    | false => rfl
    | true =>
      rw [Bool.and_eq_true] at q
      exact absurd ⟨Nat.le_of_ble_eq_true q.1, Nat.le_of_ble_eq_true q.2⟩ h3
  rw [h4]
  rfl
theorem shC_d {cf : Nat → Nat} (j : Nat) (h : j < 6) : shC cf (13 + j) = (2, 3, cf j) := by
  unfold shC
  rw [blt_t (show 13 + j < 64 by omega), Nat.ble_eq_true_of_le (show 13 ≤ 13 + j by omega), blt_t (show 13 + j < 19 by omega), show 13 + j - 13 = j by omega]
  rfl
theorem spC_o {cf : Nat → Nat} {o : Nat} (h : o < 7) (j : Nat) : spC cf o j = (spO cf o).getD j (9, 0, 0) := by
  unfold spC
  rw [blt_t (show o < 64 by omega), blt_t h]
  rfl
theorem spC_a {cf : Nat → Nat} (k : Nat) (h : k < 6) (j : Nat) : spC cf (7 + k) j = (spA cf k).getD j (9, 0, 0) := by
  unfold spC
  rw [blt_t (show 7 + k < 64 by omega), blt_f (show 7 ≤ 7 + k by omega), blt_t (show 7 + k < 13 by omega), show 7 + k - 7 = k by omega]
  rfl
theorem spC_d {cf : Nat → Nat} (k : Nat) (h : k < 6) (j : Nat) : spC cf (13 + k) j = (1, ((64 * (j + 1) + lkd k : Nat) : Int), 0) := by
  unfold spC
  rw [blt_t (show 13 + k < 64 by omega), blt_f (show 7 ≤ 13 + k by omega), blt_f (show 13 ≤ 13 + k by omega), blt_t (show 13 + k < 19 by omega), show 13 + k - 13 = k by omega]
  rfl
theorem spC_r {cf : Nat → Nat} {o : Nat} (h1 : 19 ≤ o) (h2 : o < 57) (j : Nat) : spC cf o j = (spR cf).getD o (9, 0, 0) := by
  unfold spC
  rw [blt_t (show o < 64 by omega), blt_f (show 7 ≤ o by omega), blt_f (show 13 ≤ o by omega), blt_f h1]
  rfl
end
section
theorem kl_lkd : ∀ j : Nat, j < 6 → kl (lkd j) = j ∧ lkd j < 15 := by decide
theorem kl_lt : ∀ t : Nat, t < 15 → kl t < 6 := by decide
/-- how the numbers grow when one more comes to list J -/
def Grown (J : Nat) (cf cf' : Nat → Nat) : Prop := cf' J = cf J + 1 ∧ (∀ j, j < 6 → j ≠ J → cf' j = cf j) ∧ cf' 6 = cf 6 ∧ ∀ i : Nat, (J = 1 → i ≠ cf 1) → cf' (8 + 2 * i) = cf (8 + 2 * i) ∧ cf' (9 + 2 * i) = cf (9 + 2 * i)
section GROW2
variable {cT : Nat → ClassId} {cf cf' : Nat → Nat} {J : Nat} {ad ad' : Nat → Nat} {E E' : Nat → va_E}
theorem Grown.le (hG : Grown J cf cf') (j : Nat) (hj : j < 6) : cf j ≤ cf' j := by
  by_cases e : j = J
  · subst e
    have := hG.1
    omega
  · rw [hG.2.1 j hj e]
    exact Nat.le_refl _
theorem shP_eq (hG : Grown J cf cf') (hJ : J < 6) {t i : Nat} (ht : t < 15) (hi : i < cf (kl t)) : shP cf' t i = shP cf t i := by
  rcases (show t = 0 ∨ t = 1 ∨ t = 2 ∨ t = 3 ∨ t = 4 ∨ t = 5 ∨ t = 6 ∨ t = 7 ∨ t = 8 ∨ t = 9 ∨ t = 10 ∨ t = 11 ∨ t = 12 ∨ t = 13 ∨ t = 14 by omega) with rfl | rfl | rfl | rfl | rfl | rfl | rfl | rfl | rfl | rfl | rfl | rfl | rfl | rfl | rfl
  all_goals first
    | rfl
    | (have h1 : i < cf 1 := hi
       have h2 := hG.2.2.2 i (fun e h => by omega)
       simp [shP, h2.1, h2.2])
theorem spP_le (hG : Grown J cf cf') (hJ : J < 6) {t i : Nat} (ht : t < 15) (hi : i < cf (kl t)) (j : Nat) : spLe (spP cf t i j) (spP cf' t i j) := by
  have h2 := hG.le 2 (by omega)
  rcases (show t = 0 ∨ t = 1 ∨ t = 2 ∨ t = 3 ∨ t = 4 ∨ t = 5 ∨ t = 6 ∨ t = 7 ∨ t = 8 ∨ t = 9 ∨ t = 10 ∨ t = 11 ∨ t = 12 ∨ t = 13 ∨ t = 14 by omega) with rfl | rfl | rfl | rfl | rfl | rfl | rfl | rfl | rfl | rfl | rfl | rfl | rfl | rfl | rfl
  all_goals first
    | exact Or.inl rfl
    | (have h1 : i < cf 1 := hi
       have h3 := hG.2.2.2 i (fun e h => by omega)
       left
       simp [spP, h3.1, h3.2])
    | exact all2_getD (by simp [all2, spLe]; omega) j
theorem spP_ref {Q : Nat → Prop} {t i : Nat} (ht : t < 15) (hQ : ∀ t', t' < 15 → kl t' = kl t → Q (64 * (i + 1) + t')) (j : Nat) : refP Q (spP cf t i j) := by
  rcases (show t = 0 ∨ t = 1 ∨ t = 2 ∨ t = 3 ∨ t = 4 ∨ t = 5 ∨ t = 6 ∨ t = 7 ∨ t = 8 ∨ t = 9 ∨ t = 10 ∨ t = 11 ∨ t = 12 ∨ t = 13 ∨ t = 14 by omega) with rfl | rfl | rfl | rfl | rfl | rfl | rfl | rfl | rfl | rfl | rfl | rfl | rfl | rfl | rfl
  · exact allR_getD (by simp [allR, refP]) j
  · exact allR_getD (by exact ⟨trivial, trivial, hQ 2 (by omega) rfl, hQ 3 (by omega) rfl, hQ 4 (by omega) rfl, hQ 5 (by omega) rfl, trivial⟩) j
  · trivial
  · trivial
  · trivial
  · trivial
  · exact allR_getD (by exact ⟨trivial, trivial, trivial, trivial, trivial, trivial, trivial, hQ 7 (by omega) rfl, hQ 8 (by omega) rfl, hQ 9 (by omega) rfl, hQ 10 (by omega) rfl, hQ 11 (by omega) rfl, trivial⟩) j
  · trivial
  · trivial
  · trivial
  · trivial
  · trivial
  · exact allR_getD (by simp [allR, refP]) j
  · exact allR_getD (by simp [allR, refP]) j
  · exact allR_getD (by simp [allR, refP]) j
/-- one more comes to list J -/
theorem IX_grow (hI : IXL cT (shC cf) (spC cf) (LC cf) ad E) (hC : CF cf) (hJ : J < 6) (hG : Grown J cf cf') (had : ∀ o, o ∈ LC cf → o ≠ 13 + J → ad' o = ad o) (hE : ∀ o, o ∈ LC cf → o ≠ 7 + J → o ≠ 13 + J → E' o = E o)
    (hl : ∃ m : Int32, E' (7 + J) = .inr (0, [.int m, .ref (ad' (13 + J)), .int (nI (cf J + 1))])) (hd : ∃ (cap : Nat) (f : Nat → Option Nat), cf J + 1 ≤ cap ∧ cap ≤ 2 * (cf J + 1) + 10 ∧ E' (13 + J) = .inl (cT 3, cap, .inr (.inr (.inr (.inr f)))) ∧ ∀ j, j < cf J + 1 → va_rf (f j) = .ref (ad' (64 * (j + 1) + lkd J)))
    (hn : ∀ t, t < 15 → kl t = J → okS cT (shP cf' t (cf J)) (E' (64 * (cf J + 1) + t)) ∧ ∀ j, j < (shP cf' t (cf J)).2.2 → okV ad' (spP cf' t (cf J) j) (xv (E' (64 * (cf J + 1) + t)) j)) : IXL cT (shC cf') (spC cf') (LC cf') ad' E' := by
  have hb : ∀ j, j < 6 → cf j ≤ 300 := fun j hj => kl_le hC j hj
  have hJb := hb J hJ
  refine ⟨LC_nd cf', fun o ho => ?_⟩
  rcases LC_cases ho with ⟨h1, h2⟩ | ⟨h1, h2, h3⟩ | ⟨t, i, h1, h2, rfl⟩
  · have hm : o ∈ LC cf := mF o h1
    have h13 : o ≠ 13 + J := by
      unfold fixB at h1
      rw [Bool.or_eq_true, Bool.and_eq_true] at h1
      rcases h1 with h1 | h1
      · have := Nat.le_of_ble_eq_true h1; omega
      · have := Nat.le_of_ble_eq_true h1.1; omega
    by_cases e7 : o = 7 + J
    · subst e7
      obtain ⟨m, hl⟩ := hl
      have hs : shC cf' (7 + J) = (0, 0, 3) := by
        rw [shC_f h1 h2]
        rcases (show J = 0 ∨ J = 1 ∨ J = 2 ∨ J = 3 ∨ J = 4 ∨ J = 5 by omega) with rfl | rfl | rfl | rfl | rfl | rfl <;> rfl
      rw [hs, hl]
      refine ⟨rfl, fun j hj => ?_⟩
      have hj : j < 3 := hj
      rw [spC_a J hJ]
      rcases (show j = 0 ∨ j = 1 ∨ j = 2 by omega) with rfl | rfl | rfl
      · exact ⟨rfl, iv_all m⟩
      · show okV ad' (bif Nat.blt 0 (cf' J) then (1, ((13 + J : Nat) : Int), 0) else _) _
        rw [blt_t (show 0 < cf' J by rw [hG.1]; omega)]
        rfl
      · show okV ad' (0, ((cf' J : Nat) : Int), ((cf' J : Nat) : Int)) (.int (nI (cf J + 1)))
        refine ⟨rfl, ?_⟩
        show ((cf' J : Nat) : Int) ≤ (nI (cf J + 1)).toInt ∧ _
        have : (vi (.int (nI (cf J + 1)))).toInt = ((cf J + 1 : Nat) : Int) := nI_toInt (by omega)
        rw [hG.1]
        show _ ∧ (nI (cf J + 1)).toInt ≤ _
        rw [show (nI (cf J + 1)).toInt = ((cf J + 1 : Nat) : Int) from nI_toInt (by omega)]
        exact ⟨Int.le_refl _, Int.le_refl _⟩
    · have h0 := hI.2 o hm
      rw [hE o hm e7 h13]
      rw [shC_f h1 h2] at h0 ⊢
      refine ⟨h0.1, fun j hj => ?_⟩
      have h5 := h0.2 j hj
      rcases (show o < 7 ∨ (7 ≤ o ∧ o < 13) ∨ (13 ≤ o ∧ o < 19) ∨ 19 ≤ o by omega) with q | q | q | q
      · rw [spC_o q] at h5 ⊢
        exact okV_le (spO_le (hG.le 1 (by omega)) (hG.le 2 (by omega)) o q j) (okV_ad (spO_ref (fun k hk => had k (mF k hk) (by
          unfold fixB at hk
          rw [Bool.or_eq_true, Bool.and_eq_true] at hk
          rcases hk with hk | hk
          · have := Nat.le_of_ble_eq_true hk; omega
          · have := Nat.le_of_ble_eq_true hk.1; omega)) o q j) h5)
      · obtain ⟨k, rfl⟩ : ∃ k, o = 7 + k := ⟨o - 7, by omega⟩
        have hk : k < 6 := by omega
        have ek := hG.2.1 k hk (by omega)
        rw [spC_a k hk] at h5 ⊢
        have es : spA cf' k = spA cf k := by simp [spA, ek, hG.2.2.1]
        rw [es]
        refine okV_ad ?_ h5
        by_cases z : 0 < cf k
        · exact allR_getD (l := spA cf k) (by
            unfold spA
            rw [blt_t z]
            exact ⟨trivial, had (13 + k) (mD (13 + k) (by omega) (by omega) (by rw [show 13 + k - 13 = k by omega]; exact z)) (by omega), trivial, trivial⟩) j
        · exact allR_getD (l := spA cf k) (by
            unfold spA
            rw [blt_f (show cf k ≤ 0 by omega)]
            exact ⟨trivial, trivial, trivial, trivial⟩) j
      · exfalso
        unfold fixB at h1
        rw [Bool.or_eq_true, Bool.and_eq_true] at h1
        rcases h1 with h1 | h1
        · have := Nat.le_of_ble_eq_true h1; omega
        · have := Nat.le_of_ble_eq_true h1.1; omega
      · rw [spC_r q h2] at h5 ⊢
        exact okV_le (spR_le (hG.le 2 (by omega)) o) (okV_ad (spR_ref o) h5)
  · obtain ⟨k, rfl⟩ : ∃ k, o = 13 + k := ⟨o - 13, by omega⟩
    have hk : k < 6 := by omega
    by_cases e : k = J
    · subst e
      obtain ⟨cap, f, q1, q2, q3, q4⟩ := hd
      rw [shC_d k hk, q3]
      refine ⟨⟨cap, f, by rw [hG.1]; exact q1, by rw [hG.1]; exact q2, rfl⟩, fun j hj => ?_⟩
      have hj : j < cf' k := hj
      rw [spC_d k hk]
      exact q4 j (by rw [hG.1] at hj; exact hj)
    · have ek := hG.2.1 k hk e
      have h3 : 0 < cf' k := by rw [show 13 + k - 13 = k by omega] at h3; exact h3
      have hm : 13 + k ∈ LC cf := mD (13 + k) (by omega) (by omega) (by rw [show 13 + k - 13 = k by omega, ← ek]; exact h3)
      have h0 := hI.2 _ hm
      rw [hE _ hm (by omega) (by omega), shC_d k hk, ek]
      rw [shC_d k hk] at h0
      refine ⟨h0.1, fun j hj => ?_⟩
      have h5 := h0.2 j hj
      have hj : j < cf k := hj
      rw [spC_d k hk] at h5 ⊢
      have hkl := kl_lkd k hk
      exact okV_ad (had (64 * (j + 1) + lkd k) (mP (lkd k) j hkl.2 (by rw [hkl.1]; exact hj) (by rw [hkl.1]; exact hb k hk)) (by omega)) h5
  · by_cases e : kl t = J ∧ i = cf J
    · obtain ⟨e1, rfl⟩ := e
      have h0 := hn t h1 e1
      rw [shC_p t _ (by omega)]
      exact ⟨h0.1, fun j hj => by rw [spC_p t _ (by omega)]; exact h0.2 j hj⟩
    · have hkt := kl_lt t h1
      have hi : i < cf (kl t) := by
        by_cases e2 : kl t = J
        · rw [e2, hG.1] at h2
          rw [e2]
          have : ¬ i = cf J := fun h => e ⟨e2, h⟩
          omega
        · rw [hG.2.1 _ hkt e2] at h2
          exact h2
      have hm : 64 * (i + 1) + t ∈ LC cf := mP t i h1 hi (hb _ hkt)
      have h0 := hI.2 _ hm
      rw [hE _ hm (by omega) (by omega), shC_p t i (by omega), shP_eq hG hJ h1 hi]
      rw [shC_p t i (by omega)] at h0
      refine ⟨h0.1, fun j hj => ?_⟩
      have h5 := h0.2 j hj
      rw [spC_p t i (by omega)] at h5 ⊢
      exact okV_le (spP_le hG hJ h1 hi j) (okV_ad (spP_ref h1 (fun t' ht' e' => had _ (mP t' i ht' (by rw [e']; exact hi) (by rw [e']; exact hb _ hkt)) (by omega)) j) h5)
/-- the members when one more comes -/
theorem LC_grow (hC : CF cf) (hJ : J < 6) (hG : Grown J cf cf') {L : List Nat} (hL : L.Nodup) (hm : ∀ x, x ∈ L ↔ x ∈ LC cf ∨ x = 13 + J ∨ ∃ t, t < 15 ∧ kl t = J ∧ x = 64 * (cf J + 1) + t) (hJ2 : cf J < 300) : L.Perm (LC cf') := by
  have hb : ∀ j, j < 6 → cf j ≤ 300 := fun j hj => kl_le hC j hj
  have hb' : ∀ j, j < 6 → cf' j ≤ 300 := by
    intro j hj
    by_cases e : j = J
    · subst e
      have := hG.1
      omega
    · rw [hG.2.1 j hj e]
      exact hb j hj
  refine perm_mem hL (LC_nd cf') fun x => ?_
  rw [hm, LC_mem hb, LC_mem hb']
  constructor
  · rintro ((h | ⟨h1, h2, h3⟩ | ⟨t, i, h1, h2, h3⟩) | h | ⟨t, h1, h2, h3⟩)
    · exact Or.inl h
    · exact Or.inr (Or.inl ⟨h1, h2, Nat.lt_of_lt_of_le h3 (hG.le _ (by omega))⟩)
    · exact Or.inr (Or.inr ⟨t, i, h1, Nat.lt_of_lt_of_le h2 (hG.le _ (kl_lt t h1)), h3⟩)
    · exact Or.inr (Or.inl ⟨by omega, by omega, by rw [show x - 13 = J by omega, hG.1]; omega⟩)
    · exact Or.inr (Or.inr ⟨t, cf J, h1, by rw [h2, hG.1]; omega, h3⟩)
  · rintro (h | ⟨h1, h2, h3⟩ | ⟨t, i, h1, h2, h3⟩)
    · exact Or.inl (Or.inl h)
    · by_cases e : x = 13 + J
      · exact Or.inr (Or.inl e)
      · refine Or.inl (Or.inr (Or.inl ⟨h1, h2, ?_⟩))
        rw [hG.2.1 (x - 13) (by omega) (by omega)] at h3
        exact h3
    · by_cases e : kl t = J ∧ i = cf J
      · exact Or.inr (Or.inr ⟨t, h1, e.1, by rw [h3, e.2]⟩)
      · refine Or.inl (Or.inr (Or.inr ⟨t, i, h1, ?_, h3⟩))
        by_cases e2 : kl t = J
        · rw [e2, hG.1] at h2
          rw [e2]
          have : ¬ i = cf J := fun h => e ⟨e2, h⟩
          omega
        · rw [hG.2.1 _ (kl_lt t h1) e2] at h2
          exact h2
end GROW2
end

