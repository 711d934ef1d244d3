def tyX7 : Nat → FieldType := fun k => match k with
  | 0 => .int
  | 1 => .int
  | 2 => .array .int
  | 3 => .array .int
  | 4 => .array .int
  | _ => .array .int
theorem nmX7 : ∀ a, a < 6 → ∀ b, b < 6 → a ≠ b → (TX7 a).2.1 ≠ (TX7 b).2.1 := by decide +kernel
theorem tyX7_ok : ∀ k, k < 6 → parseFieldDescriptor (TX7 k).2.2.1 = some (tyX7 k) := by decide +kernel
set_option maxRecDepth 100000 in
theorem zh_dX7_init_0_0 : zc cX7_init 0 [42, 183, 0, 3, 42, 27, 181, 0, 9, 42, 28, 181, 0, 15, 42, 45] = true := by decide +kernel
set_option maxRecDepth 100000 in
theorem zh_dX7_init_16_16 : zc cX7_init 16 [181, 0, 18, 42, 25, 4, 181, 0, 22, 42, 25, 5, 181, 0, 25, 42] = true := by decide +kernel
set_option maxRecDepth 100000 in
theorem zh_dX7_init_32_32 : zc cX7_init 32 [25, 6, 181, 0, 28, 177] = true := by decide +kernel
set_option maxRecDepth 100000 in
theorem zh_dX10_asRules_0_0 : zc cX10_asRules 0 [187, 0, 53, 89, 27, 28, 42, 180, 0, 15, 42, 180, 0, 37, 184, 0] = true := by decide +kernel
set_option maxRecDepth 100000 in
theorem zh_dX10_asRules_14_16 : zc cX10_asRules 16 [55, 42, 180, 0, 18, 42, 180, 0, 40, 184, 0, 55, 42, 180, 0, 21] = true := by decide +kernel
set_option maxRecDepth 100000 in
theorem zh_dX10_asRules_32_32 : zc cX10_asRules 32 [42, 180, 0, 40, 4, 96, 184, 0, 55, 42, 180, 0, 24, 42, 180, 0] = true := by decide +kernel
set_option maxRecDepth 100000 in
theorem zh_dX10_asRules_46_48 : zc cX10_asRules 48 [40, 184, 0, 55, 183, 0, 61, 176] = true := by decide +kernel
set_option maxRecDepth 100000 in
theorem zh_dX12_race_0_0 : zc cX12_race 0 [27, 3, 42, 180, 0, 10, 180, 0, 55, 184, 0, 59, 153, 0, 14, 28] = true := by decide +kernel
set_option maxRecDepth 100000 in
theorem zh_dX12_race_16_16 : zc cX12_race 16 [4, 17, 3, 232, 184, 0, 59, 154, 0, 5, 2, 172, 29, 3, 4, 184] = true := by decide +kernel
set_option maxRecDepth 100000 in
theorem zh_dX12_race_31_32 : zc cX12_race 32 [0, 59, 153, 0, 14, 21, 4, 3, 16, 7, 184, 0, 59, 154, 0, 5] = true := by decide +kernel
set_option maxRecDepth 100000 in
theorem zh_dX12_race_48_48 : zc cX12_race 48 [2, 172, 21, 5, 3, 16, 99, 184, 0, 59, 153, 0, 14, 21, 6, 3] = true := by decide +kernel
set_option maxRecDepth 100000 in
theorem zh_dX12_race_64_64 : zc cX12_race 64 [16, 99, 184, 0, 59, 154, 0, 5, 2, 172, 42, 180, 0, 10, 180, 0] = true := by decide +kernel
set_option maxRecDepth 100000 in
theorem zh_dX12_race_78_80 : zc cX12_race 80 [127, 182, 0, 77, 16, 20, 161, 0, 5, 2, 172, 42, 180, 0, 10, 180] = true := by decide +kernel
set_option maxRecDepth 100000 in
theorem zh_dX12_race_95_96 : zc cX12_race 96 [0, 127, 187, 0, 130, 89, 42, 180, 0, 10, 180, 0, 55, 27, 28, 29] = true := by decide +kernel
set_option maxRecDepth 100000 in
theorem zh_dX12_race_112_112 : zc cX12_race 112 [21, 4, 21, 5, 21, 6, 183, 0, 132, 182, 0, 88, 87, 42, 180, 0] = true := by decide +kernel
set_option maxRecDepth 100000 in
theorem zh_dX12_race_126_128 : zc cX12_race 128 [10, 180, 0, 127, 182, 0, 77, 4, 100, 172] = true := by decide +kernel
set_option maxRecDepth 100000 in
theorem zh_dJ7_copyOf_59c91_0_0 : zc cJ7_copyOf_59c91 0 [27, 42, 190, 160, 0, 11, 42, 182, 1, 60, 192, 1, 61, 176, 27, 188] = true := by decide +kernel
set_option maxRecDepth 100000 in
theorem zh_dJ7_copyOf_59c91_15_16 : zc cJ7_copyOf_59c91 16 [10, 77, 42, 3, 44, 3, 42, 190, 27, 184, 1, 48, 184, 0, 150, 44] = true := by decide +kernel
set_option maxRecDepth 100000 in
theorem zh_dJ7_copyOf_59c91_32_32 : zc cJ7_copyOf_59c91 32 [176] = true := by decide +kernel
theorem dX7_init_0 : decode cX7_init 0 = .ok (.aload_n 0, 1) := zo_42 (zi_at zh_dX7_init_0_0 0 rfl)
theorem dX7_init_1 : decode cX7_init 1 = .ok (.invokespecial 3, 3) := zo_183 (zi_at zh_dX7_init_0_0 1 rfl) (zi_at zh_dX7_init_0_0 2 rfl) (zi_at zh_dX7_init_0_0 3 rfl) rfl
theorem dX7_init_4 : decode cX7_init 4 = .ok (.aload_n 0, 1) := zo_42 (zi_at zh_dX7_init_0_0 4 rfl)
theorem dX7_init_5 : decode cX7_init 5 = .ok (.iload_n 1, 1) := zo_27 (zi_at zh_dX7_init_0_0 5 rfl)
theorem dX7_init_6 : decode cX7_init 6 = .ok (.putfield 9, 3) := zo_181 (zi_at zh_dX7_init_0_0 6 rfl) (zi_at zh_dX7_init_0_0 7 rfl) (zi_at zh_dX7_init_0_0 8 rfl) rfl
theorem dX7_init_9 : decode cX7_init 9 = .ok (.aload_n 0, 1) := zo_42 (zi_at zh_dX7_init_0_0 9 rfl)
theorem dX7_init_10 : decode cX7_init 10 = .ok (.iload_n 2, 1) := zo_28 (zi_at zh_dX7_init_0_0 10 rfl)
theorem dX7_init_11 : decode cX7_init 11 = .ok (.putfield 15, 3) := zo_181 (zi_at zh_dX7_init_0_0 11 rfl) (zi_at zh_dX7_init_0_0 12 rfl) (zi_at zh_dX7_init_0_0 13 rfl) rfl
theorem dX7_init_14 : decode cX7_init 14 = .ok (.aload_n 0, 1) := zo_42 (zi_at zh_dX7_init_0_0 14 rfl)
theorem dX7_init_15 : decode cX7_init 15 = .ok (.aload_n 3, 1) := zo_45 (zi_at zh_dX7_init_0_0 15 rfl)
theorem dX7_init_16 : decode cX7_init 16 = .ok (.putfield 18, 3) := zo_181 (zi_at zh_dX7_init_16_16 0 rfl) (zi_at zh_dX7_init_16_16 1 rfl) (zi_at zh_dX7_init_16_16 2 rfl) rfl
theorem dX7_init_19 : decode cX7_init 19 = .ok (.aload_n 0, 1) := zo_42 (zi_at zh_dX7_init_16_16 3 rfl)
theorem dX7_init_20 : decode cX7_init 20 = .ok (.aload 4, 2) := zo_25 (zi_at zh_dX7_init_16_16 4 rfl) (zi_at zh_dX7_init_16_16 5 rfl)
theorem dX7_init_22 : decode cX7_init 22 = .ok (.putfield 22, 3) := zo_181 (zi_at zh_dX7_init_16_16 6 rfl) (zi_at zh_dX7_init_16_16 7 rfl) (zi_at zh_dX7_init_16_16 8 rfl) rfl
theorem dX7_init_25 : decode cX7_init 25 = .ok (.aload_n 0, 1) := zo_42 (zi_at zh_dX7_init_16_16 9 rfl)
theorem dX7_init_26 : decode cX7_init 26 = .ok (.aload 5, 2) := zo_25 (zi_at zh_dX7_init_16_16 10 rfl) (zi_at zh_dX7_init_16_16 11 rfl)
theorem dX7_init_28 : decode cX7_init 28 = .ok (.putfield 25, 3) := zo_181 (zi_at zh_dX7_init_16_16 12 rfl) (zi_at zh_dX7_init_16_16 13 rfl) (zi_at zh_dX7_init_16_16 14 rfl) rfl
theorem dX7_init_31 : decode cX7_init 31 = .ok (.aload_n 0, 1) := zo_42 (zi_at zh_dX7_init_16_16 15 rfl)
theorem dX7_init_32 : decode cX7_init 32 = .ok (.aload 6, 2) := zo_25 (zi_at zh_dX7_init_32_32 0 rfl) (zi_at zh_dX7_init_32_32 1 rfl)
theorem dX7_init_34 : decode cX7_init 34 = .ok (.putfield 28, 3) := zo_181 (zi_at zh_dX7_init_32_32 2 rfl) (zi_at zh_dX7_init_32_32 3 rfl) (zi_at zh_dX7_init_32_32 4 rfl) rfl
theorem dX7_init_37 : decode cX7_init 37 = .ok (.return_, 1) := zo_177 (zi_at zh_dX7_init_32_32 5 rfl)
theorem dX10_asRules_0 : decode cX10_asRules 0 = .ok (.new 53, 3) := zo_187 (zi_at zh_dX10_asRules_0_0 0 rfl) (zi_at zh_dX10_asRules_0_0 1 rfl) (zi_at zh_dX10_asRules_0_0 2 rfl) rfl
theorem dX10_asRules_3 : decode cX10_asRules 3 = .ok (.dup, 1) := zo_89 (zi_at zh_dX10_asRules_0_0 3 rfl)
theorem dX10_asRules_4 : decode cX10_asRules 4 = .ok (.iload_n 1, 1) := zo_27 (zi_at zh_dX10_asRules_0_0 4 rfl)
theorem dX10_asRules_5 : decode cX10_asRules 5 = .ok (.iload_n 2, 1) := zo_28 (zi_at zh_dX10_asRules_0_0 5 rfl)
theorem dX10_asRules_6 : decode cX10_asRules 6 = .ok (.aload_n 0, 1) := zo_42 (zi_at zh_dX10_asRules_0_0 6 rfl)
theorem dX10_asRules_7 : decode cX10_asRules 7 = .ok (.getfield 15, 3) := zo_180 (zi_at zh_dX10_asRules_0_0 7 rfl) (zi_at zh_dX10_asRules_0_0 8 rfl) (zi_at zh_dX10_asRules_0_0 9 rfl) rfl
theorem dX10_asRules_10 : decode cX10_asRules 10 = .ok (.aload_n 0, 1) := zo_42 (zi_at zh_dX10_asRules_0_0 10 rfl)
theorem dX10_asRules_11 : decode cX10_asRules 11 = .ok (.getfield 37, 3) := zo_180 (zi_at zh_dX10_asRules_0_0 11 rfl) (zi_at zh_dX10_asRules_0_0 12 rfl) (zi_at zh_dX10_asRules_0_0 13 rfl) rfl
theorem dX10_asRules_14 : decode cX10_asRules 14 = .ok (.invokestatic 55, 3) := zo_184 (zi_at zh_dX10_asRules_0_0 14 rfl) (zi_at zh_dX10_asRules_0_0 15 rfl) (zi_at zh_dX10_asRules_14_16 0 rfl) rfl
theorem dX10_asRules_17 : decode cX10_asRules 17 = .ok (.aload_n 0, 1) := zo_42 (zi_at zh_dX10_asRules_14_16 1 rfl)
theorem dX10_asRules_18 : decode cX10_asRules 18 = .ok (.getfield 18, 3) := zo_180 (zi_at zh_dX10_asRules_14_16 2 rfl) (zi_at zh_dX10_asRules_14_16 3 rfl) (zi_at zh_dX10_asRules_14_16 4 rfl) rfl
theorem dX10_asRules_21 : decode cX10_asRules 21 = .ok (.aload_n 0, 1) := zo_42 (zi_at zh_dX10_asRules_14_16 5 rfl)
theorem dX10_asRules_22 : decode cX10_asRules 22 = .ok (.getfield 40, 3) := zo_180 (zi_at zh_dX10_asRules_14_16 6 rfl) (zi_at zh_dX10_asRules_14_16 7 rfl) (zi_at zh_dX10_asRules_14_16 8 rfl) rfl
theorem dX10_asRules_25 : decode cX10_asRules 25 = .ok (.invokestatic 55, 3) := zo_184 (zi_at zh_dX10_asRules_14_16 9 rfl) (zi_at zh_dX10_asRules_14_16 10 rfl) (zi_at zh_dX10_asRules_14_16 11 rfl) rfl
theorem dX10_asRules_28 : decode cX10_asRules 28 = .ok (.aload_n 0, 1) := zo_42 (zi_at zh_dX10_asRules_14_16 12 rfl)
theorem dX10_asRules_29 : decode cX10_asRules 29 = .ok (.getfield 21, 3) := zo_180 (zi_at zh_dX10_asRules_14_16 13 rfl) (zi_at zh_dX10_asRules_14_16 14 rfl) (zi_at zh_dX10_asRules_14_16 15 rfl) rfl
theorem dX10_asRules_32 : decode cX10_asRules 32 = .ok (.aload_n 0, 1) := zo_42 (zi_at zh_dX10_asRules_32_32 0 rfl)
theorem dX10_asRules_33 : decode cX10_asRules 33 = .ok (.getfield 40, 3) := zo_180 (zi_at zh_dX10_asRules_32_32 1 rfl) (zi_at zh_dX10_asRules_32_32 2 rfl) (zi_at zh_dX10_asRules_32_32 3 rfl) rfl
theorem dX10_asRules_36 : decode cX10_asRules 36 = .ok (.iconst 1, 1) := zo_4 (zi_at zh_dX10_asRules_32_32 4 rfl)
theorem dX10_asRules_37 : decode cX10_asRules 37 = .ok (.iadd, 1) := zo_96 (zi_at zh_dX10_asRules_32_32 5 rfl)
theorem dX10_asRules_38 : decode cX10_asRules 38 = .ok (.invokestatic 55, 3) := zo_184 (zi_at zh_dX10_asRules_32_32 6 rfl) (zi_at zh_dX10_asRules_32_32 7 rfl) (zi_at zh_dX10_asRules_32_32 8 rfl) rfl
theorem dX10_asRules_41 : decode cX10_asRules 41 = .ok (.aload_n 0, 1) := zo_42 (zi_at zh_dX10_asRules_32_32 9 rfl)
theorem dX10_asRules_42 : decode cX10_asRules 42 = .ok (.getfield 24, 3) := zo_180 (zi_at zh_dX10_asRules_32_32 10 rfl) (zi_at zh_dX10_asRules_32_32 11 rfl) (zi_at zh_dX10_asRules_32_32 12 rfl) rfl
theorem dX10_asRules_45 : decode cX10_asRules 45 = .ok (.aload_n 0, 1) := zo_42 (zi_at zh_dX10_asRules_32_32 13 rfl)
theorem dX10_asRules_46 : decode cX10_asRules 46 = .ok (.getfield 40, 3) := zo_180 (zi_at zh_dX10_asRules_32_32 14 rfl) (zi_at zh_dX10_asRules_32_32 15 rfl) (zi_at zh_dX10_asRules_46_48 0 rfl) rfl
theorem dX10_asRules_49 : decode cX10_asRules 49 = .ok (.invokestatic 55, 3) := zo_184 (zi_at zh_dX10_asRules_46_48 1 rfl) (zi_at zh_dX10_asRules_46_48 2 rfl) (zi_at zh_dX10_asRules_46_48 3 rfl) rfl
theorem dX10_asRules_52 : decode cX10_asRules 52 = .ok (.invokespecial 61, 3) := zo_183 (zi_at zh_dX10_asRules_46_48 4 rfl) (zi_at zh_dX10_asRules_46_48 5 rfl) (zi_at zh_dX10_asRules_46_48 6 rfl) rfl
theorem dX10_asRules_55 : decode cX10_asRules 55 = .ok (.areturn, 1) := zo_176 (zi_at zh_dX10_asRules_46_48 7 rfl)
theorem dX12_race_0 : decode cX12_race 0 = .ok (.iload_n 1, 1) := zo_27 (zi_at zh_dX12_race_0_0 0 rfl)
theorem dX12_race_1 : decode cX12_race 1 = .ok (.iconst 0, 1) := zo_3 (zi_at zh_dX12_race_0_0 1 rfl)
theorem dX12_race_2 : decode cX12_race 2 = .ok (.aload_n 0, 1) := zo_42 (zi_at zh_dX12_race_0_0 2 rfl)
theorem dX12_race_3 : decode cX12_race 3 = .ok (.getfield 10, 3) := zo_180 (zi_at zh_dX12_race_0_0 3 rfl) (zi_at zh_dX12_race_0_0 4 rfl) (zi_at zh_dX12_race_0_0 5 rfl) rfl
theorem dX12_race_6 : decode cX12_race 6 = .ok (.getfield 55, 3) := zo_180 (zi_at zh_dX12_race_0_0 6 rfl) (zi_at zh_dX12_race_0_0 7 rfl) (zi_at zh_dX12_race_0_0 8 rfl) rfl
theorem dX12_race_9 : decode cX12_race 9 = .ok (.invokestatic 59, 3) := zo_184 (zi_at zh_dX12_race_0_0 9 rfl) (zi_at zh_dX12_race_0_0 10 rfl) (zi_at zh_dX12_race_0_0 11 rfl) rfl
theorem dX12_race_12 : decode cX12_race 12 = .ok (.ifCond .eq 14, 3) := zo_153 (zi_at zh_dX12_race_0_0 12 rfl) (zi_at zh_dX12_race_0_0 13 rfl) (zi_at zh_dX12_race_0_0 14 rfl) rfl
theorem dX12_race_15 : decode cX12_race 15 = .ok (.iload_n 2, 1) := zo_28 (zi_at zh_dX12_race_0_0 15 rfl)
theorem dX12_race_16 : decode cX12_race 16 = .ok (.iconst 1, 1) := zo_4 (zi_at zh_dX12_race_16_16 0 rfl)
theorem dX12_race_17 : decode cX12_race 17 = .ok (.sipush 1000, 3) := zo_17 (zi_at zh_dX12_race_16_16 1 rfl) (zi_at zh_dX12_race_16_16 2 rfl) (zi_at zh_dX12_race_16_16 3 rfl) rfl
theorem dX12_race_20 : decode cX12_race 20 = .ok (.invokestatic 59, 3) := zo_184 (zi_at zh_dX12_race_16_16 4 rfl) (zi_at zh_dX12_race_16_16 5 rfl) (zi_at zh_dX12_race_16_16 6 rfl) rfl
theorem dX12_race_23 : decode cX12_race 23 = .ok (.ifCond .ne 5, 3) := zo_154 (zi_at zh_dX12_race_16_16 7 rfl) (zi_at zh_dX12_race_16_16 8 rfl) (zi_at zh_dX12_race_16_16 9 rfl) rfl
theorem dX12_race_26 : decode cX12_race 26 = .ok (.iconst (-1), 1) := zo_2 (zi_at zh_dX12_race_16_16 10 rfl)
theorem dX12_race_27 : decode cX12_race 27 = .ok (.ireturn, 1) := zo_172 (zi_at zh_dX12_race_16_16 11 rfl)
theorem dX12_race_28 : decode cX12_race 28 = .ok (.iload_n 3, 1) := zo_29 (zi_at zh_dX12_race_16_16 12 rfl)
theorem dX12_race_29 : decode cX12_race 29 = .ok (.iconst 0, 1) := zo_3 (zi_at zh_dX12_race_16_16 13 rfl)
theorem dX12_race_30 : decode cX12_race 30 = .ok (.iconst 1, 1) := zo_4 (zi_at zh_dX12_race_16_16 14 rfl)
theorem dX12_race_31 : decode cX12_race 31 = .ok (.invokestatic 59, 3) := zo_184 (zi_at zh_dX12_race_16_16 15 rfl) (zi_at zh_dX12_race_31_32 0 rfl) (zi_at zh_dX12_race_31_32 1 rfl) rfl
theorem dX12_race_34 : decode cX12_race 34 = .ok (.ifCond .eq 14, 3) := zo_153 (zi_at zh_dX12_race_31_32 2 rfl) (zi_at zh_dX12_race_31_32 3 rfl) (zi_at zh_dX12_race_31_32 4 rfl) rfl
theorem dX12_race_37 : decode cX12_race 37 = .ok (.iload 4, 2) := zo_21 (zi_at zh_dX12_race_31_32 5 rfl) (zi_at zh_dX12_race_31_32 6 rfl)
theorem dX12_race_39 : decode cX12_race 39 = .ok (.iconst 0, 1) := zo_3 (zi_at zh_dX12_race_31_32 7 rfl)
theorem dX12_race_40 : decode cX12_race 40 = .ok (.bipush 7, 2) := zo_16 (zi_at zh_dX12_race_31_32 8 rfl) (zi_at zh_dX12_race_31_32 9 rfl) rfl
theorem dX12_race_42 : decode cX12_race 42 = .ok (.invokestatic 59, 3) := zo_184 (zi_at zh_dX12_race_31_32 10 rfl) (zi_at zh_dX12_race_31_32 11 rfl) (zi_at zh_dX12_race_31_32 12 rfl) rfl
theorem dX12_race_45 : decode cX12_race 45 = .ok (.ifCond .ne 5, 3) := zo_154 (zi_at zh_dX12_race_31_32 13 rfl) (zi_at zh_dX12_race_31_32 14 rfl) (zi_at zh_dX12_race_31_32 15 rfl) rfl
theorem dX12_race_48 : decode cX12_race 48 = .ok (.iconst (-1), 1) := zo_2 (zi_at zh_dX12_race_48_48 0 rfl)
theorem dX12_race_49 : decode cX12_race 49 = .ok (.ireturn, 1) := zo_172 (zi_at zh_dX12_race_48_48 1 rfl)
theorem dX12_race_50 : decode cX12_race 50 = .ok (.iload 5, 2) := zo_21 (zi_at zh_dX12_race_48_48 2 rfl) (zi_at zh_dX12_race_48_48 3 rfl)
theorem dX12_race_52 : decode cX12_race 52 = .ok (.iconst 0, 1) := zo_3 (zi_at zh_dX12_race_48_48 4 rfl)
theorem dX12_race_53 : decode cX12_race 53 = .ok (.bipush 99, 2) := zo_16 (zi_at zh_dX12_race_48_48 5 rfl) (zi_at zh_dX12_race_48_48 6 rfl) rfl
theorem dX12_race_55 : decode cX12_race 55 = .ok (.invokestatic 59, 3) := zo_184 (zi_at zh_dX12_race_48_48 7 rfl) (zi_at zh_dX12_race_48_48 8 rfl) (zi_at zh_dX12_race_48_48 9 rfl) rfl
theorem dX12_race_58 : decode cX12_race 58 = .ok (.ifCond .eq 14, 3) := zo_153 (zi_at zh_dX12_race_48_48 10 rfl) (zi_at zh_dX12_race_48_48 11 rfl) (zi_at zh_dX12_race_48_48 12 rfl) rfl
theorem dX12_race_61 : decode cX12_race 61 = .ok (.iload 6, 2) := zo_21 (zi_at zh_dX12_race_48_48 13 rfl) (zi_at zh_dX12_race_48_48 14 rfl)
theorem dX12_race_63 : decode cX12_race 63 = .ok (.iconst 0, 1) := zo_3 (zi_at zh_dX12_race_48_48 15 rfl)
theorem dX12_race_64 : decode cX12_race 64 = .ok (.bipush 99, 2) := zo_16 (zi_at zh_dX12_race_64_64 0 rfl) (zi_at zh_dX12_race_64_64 1 rfl) rfl
theorem dX12_race_66 : decode cX12_race 66 = .ok (.invokestatic 59, 3) := zo_184 (zi_at zh_dX12_race_64_64 2 rfl) (zi_at zh_dX12_race_64_64 3 rfl) (zi_at zh_dX12_race_64_64 4 rfl) rfl
theorem dX12_race_69 : decode cX12_race 69 = .ok (.ifCond .ne 5, 3) := zo_154 (zi_at zh_dX12_race_64_64 5 rfl) (zi_at zh_dX12_race_64_64 6 rfl) (zi_at zh_dX12_race_64_64 7 rfl) rfl
theorem dX12_race_72 : decode cX12_race 72 = .ok (.iconst (-1), 1) := zo_2 (zi_at zh_dX12_race_64_64 8 rfl)
theorem dX12_race_73 : decode cX12_race 73 = .ok (.ireturn, 1) := zo_172 (zi_at zh_dX12_race_64_64 9 rfl)
theorem dX12_race_74 : decode cX12_race 74 = .ok (.aload_n 0, 1) := zo_42 (zi_at zh_dX12_race_64_64 10 rfl)
theorem dX12_race_75 : decode cX12_race 75 = .ok (.getfield 10, 3) := zo_180 (zi_at zh_dX12_race_64_64 11 rfl) (zi_at zh_dX12_race_64_64 12 rfl) (zi_at zh_dX12_race_64_64 13 rfl) rfl
theorem dX12_race_78 : decode cX12_race 78 = .ok (.getfield 127, 3) := zo_180 (zi_at zh_dX12_race_64_64 14 rfl) (zi_at zh_dX12_race_64_64 15 rfl) (zi_at zh_dX12_race_78_80 0 rfl) rfl
theorem dX12_race_81 : decode cX12_race 81 = .ok (.invokevirtual 77, 3) := zo_182 (zi_at zh_dX12_race_78_80 1 rfl) (zi_at zh_dX12_race_78_80 2 rfl) (zi_at zh_dX12_race_78_80 3 rfl) rfl
theorem dX12_race_84 : decode cX12_race 84 = .ok (.bipush 20, 2) := zo_16 (zi_at zh_dX12_race_78_80 4 rfl) (zi_at zh_dX12_race_78_80 5 rfl) rfl
theorem dX12_race_86 : decode cX12_race 86 = .ok (.if_icmp .lt 5, 3) := zo_161 (zi_at zh_dX12_race_78_80 6 rfl) (zi_at zh_dX12_race_78_80 7 rfl) (zi_at zh_dX12_race_78_80 8 rfl) rfl
theorem dX12_race_89 : decode cX12_race 89 = .ok (.iconst (-1), 1) := zo_2 (zi_at zh_dX12_race_78_80 9 rfl)
theorem dX12_race_90 : decode cX12_race 90 = .ok (.ireturn, 1) := zo_172 (zi_at zh_dX12_race_78_80 10 rfl)
theorem dX12_race_91 : decode cX12_race 91 = .ok (.aload_n 0, 1) := zo_42 (zi_at zh_dX12_race_78_80 11 rfl)
theorem dX12_race_92 : decode cX12_race 92 = .ok (.getfield 10, 3) := zo_180 (zi_at zh_dX12_race_78_80 12 rfl) (zi_at zh_dX12_race_78_80 13 rfl) (zi_at zh_dX12_race_78_80 14 rfl) rfl
theorem dX12_race_95 : decode cX12_race 95 = .ok (.getfield 127, 3) := zo_180 (zi_at zh_dX12_race_78_80 15 rfl) (zi_at zh_dX12_race_95_96 0 rfl) (zi_at zh_dX12_race_95_96 1 rfl) rfl
theorem dX12_race_98 : decode cX12_race 98 = .ok (.new 130, 3) := zo_187 (zi_at zh_dX12_race_95_96 2 rfl) (zi_at zh_dX12_race_95_96 3 rfl) (zi_at zh_dX12_race_95_96 4 rfl) rfl
theorem dX12_race_101 : decode cX12_race 101 = .ok (.dup, 1) := zo_89 (zi_at zh_dX12_race_95_96 5 rfl)
theorem dX12_race_102 : decode cX12_race 102 = .ok (.aload_n 0, 1) := zo_42 (zi_at zh_dX12_race_95_96 6 rfl)
theorem dX12_race_103 : decode cX12_race 103 = .ok (.getfield 10, 3) := zo_180 (zi_at zh_dX12_race_95_96 7 rfl) (zi_at zh_dX12_race_95_96 8 rfl) (zi_at zh_dX12_race_95_96 9 rfl) rfl
theorem dX12_race_106 : decode cX12_race 106 = .ok (.getfield 55, 3) := zo_180 (zi_at zh_dX12_race_95_96 10 rfl) (zi_at zh_dX12_race_95_96 11 rfl) (zi_at zh_dX12_race_95_96 12 rfl) rfl
theorem dX12_race_109 : decode cX12_race 109 = .ok (.iload_n 1, 1) := zo_27 (zi_at zh_dX12_race_95_96 13 rfl)
theorem dX12_race_110 : decode cX12_race 110 = .ok (.iload_n 2, 1) := zo_28 (zi_at zh_dX12_race_95_96 14 rfl)
theorem dX12_race_111 : decode cX12_race 111 = .ok (.iload_n 3, 1) := zo_29 (zi_at zh_dX12_race_95_96 15 rfl)
theorem dX12_race_112 : decode cX12_race 112 = .ok (.iload 4, 2) := zo_21 (zi_at zh_dX12_race_112_112 0 rfl) (zi_at zh_dX12_race_112_112 1 rfl)
theorem dX12_race_114 : decode cX12_race 114 = .ok (.iload 5, 2) := zo_21 (zi_at zh_dX12_race_112_112 2 rfl) (zi_at zh_dX12_race_112_112 3 rfl)
theorem dX12_race_116 : decode cX12_race 116 = .ok (.iload 6, 2) := zo_21 (zi_at zh_dX12_race_112_112 4 rfl) (zi_at zh_dX12_race_112_112 5 rfl)
theorem dX12_race_118 : decode cX12_race 118 = .ok (.invokespecial 132, 3) := zo_183 (zi_at zh_dX12_race_112_112 6 rfl) (zi_at zh_dX12_race_112_112 7 rfl) (zi_at zh_dX12_race_112_112 8 rfl) rfl
theorem dX12_race_121 : decode cX12_race 121 = .ok (.invokevirtual 88, 3) := zo_182 (zi_at zh_dX12_race_112_112 9 rfl) (zi_at zh_dX12_race_112_112 10 rfl) (zi_at zh_dX12_race_112_112 11 rfl) rfl
theorem dX12_race_124 : decode cX12_race 124 = .ok (.pop, 1) := zo_87 (zi_at zh_dX12_race_112_112 12 rfl)
theorem dX12_race_125 : decode cX12_race 125 = .ok (.aload_n 0, 1) := zo_42 (zi_at zh_dX12_race_112_112 13 rfl)
theorem dX12_race_126 : decode cX12_race 126 = .ok (.getfield 10, 3) := zo_180 (zi_at zh_dX12_race_112_112 14 rfl) (zi_at zh_dX12_race_112_112 15 rfl) (zi_at zh_dX12_race_126_128 0 rfl) rfl
theorem dX12_race_129 : decode cX12_race 129 = .ok (.getfield 127, 3) := zo_180 (zi_at zh_dX12_race_126_128 1 rfl) (zi_at zh_dX12_race_126_128 2 rfl) (zi_at zh_dX12_race_126_128 3 rfl) rfl
theorem dX12_race_132 : decode cX12_race 132 = .ok (.invokevirtual 77, 3) := zo_182 (zi_at zh_dX12_race_126_128 4 rfl) (zi_at zh_dX12_race_126_128 5 rfl) (zi_at zh_dX12_race_126_128 6 rfl) rfl
theorem dX12_race_135 : decode cX12_race 135 = .ok (.iconst 1, 1) := zo_4 (zi_at zh_dX12_race_126_128 7 rfl)
theorem dX12_race_136 : decode cX12_race 136 = .ok (.isub, 1) := zo_100 (zi_at zh_dX12_race_126_128 8 rfl)
theorem dX12_race_137 : decode cX12_race 137 = .ok (.ireturn, 1) := zo_172 (zi_at zh_dX12_race_126_128 9 rfl)
theorem dJ7_copyOf_59c91_0 : decode cJ7_copyOf_59c91 0 = .ok (.iload_n 1, 1) := zo_27 (zi_at zh_dJ7_copyOf_59c91_0_0 0 rfl)
theorem dJ7_copyOf_59c91_1 : decode cJ7_copyOf_59c91 1 = .ok (.aload_n 0, 1) := zo_42 (zi_at zh_dJ7_copyOf_59c91_0_0 1 rfl)
theorem dJ7_copyOf_59c91_2 : decode cJ7_copyOf_59c91 2 = .ok (.arraylength, 1) := zo_190 (zi_at zh_dJ7_copyOf_59c91_0_0 2 rfl)
theorem dJ7_copyOf_59c91_3 : decode cJ7_copyOf_59c91 3 = .ok (.if_icmp .ne 11, 3) := zo_160 (zi_at zh_dJ7_copyOf_59c91_0_0 3 rfl) (zi_at zh_dJ7_copyOf_59c91_0_0 4 rfl) (zi_at zh_dJ7_copyOf_59c91_0_0 5 rfl) rfl
theorem dJ7_copyOf_59c91_6 : decode cJ7_copyOf_59c91 6 = .ok (.aload_n 0, 1) := zo_42 (zi_at zh_dJ7_copyOf_59c91_0_0 6 rfl)
theorem dJ7_copyOf_59c91_7 : decode cJ7_copyOf_59c91 7 = .ok (.invokevirtual 316, 3) := zo_182 (zi_at zh_dJ7_copyOf_59c91_0_0 7 rfl) (zi_at zh_dJ7_copyOf_59c91_0_0 8 rfl) (zi_at zh_dJ7_copyOf_59c91_0_0 9 rfl) rfl
theorem dJ7_copyOf_59c91_10 : decode cJ7_copyOf_59c91 10 = .ok (.checkcast 317, 3) := zo_192 (zi_at zh_dJ7_copyOf_59c91_0_0 10 rfl) (zi_at zh_dJ7_copyOf_59c91_0_0 11 rfl) (zi_at zh_dJ7_copyOf_59c91_0_0 12 rfl) rfl
theorem dJ7_copyOf_59c91_13 : decode cJ7_copyOf_59c91 13 = .ok (.areturn, 1) := zo_176 (zi_at zh_dJ7_copyOf_59c91_0_0 13 rfl)
theorem dJ7_copyOf_59c91_14 : decode cJ7_copyOf_59c91 14 = .ok (.iload_n 1, 1) := zo_27 (zi_at zh_dJ7_copyOf_59c91_0_0 14 rfl)
theorem dJ7_copyOf_59c91_15 : decode cJ7_copyOf_59c91 15 = .ok (.newarray .int, 2) := zo_188_10 (zi_at zh_dJ7_copyOf_59c91_0_0 15 rfl) (zi_at zh_dJ7_copyOf_59c91_15_16 0 rfl)
theorem dJ7_copyOf_59c91_17 : decode cJ7_copyOf_59c91 17 = .ok (.astore_n 2, 1) := zo_77 (zi_at zh_dJ7_copyOf_59c91_15_16 1 rfl)
theorem dJ7_copyOf_59c91_18 : decode cJ7_copyOf_59c91 18 = .ok (.aload_n 0, 1) := zo_42 (zi_at zh_dJ7_copyOf_59c91_15_16 2 rfl)
theorem dJ7_copyOf_59c91_19 : decode cJ7_copyOf_59c91 19 = .ok (.iconst 0, 1) := zo_3 (zi_at zh_dJ7_copyOf_59c91_15_16 3 rfl)
theorem dJ7_copyOf_59c91_20 : decode cJ7_copyOf_59c91 20 = .ok (.aload_n 2, 1) := zo_44 (zi_at zh_dJ7_copyOf_59c91_15_16 4 rfl)
theorem dJ7_copyOf_59c91_21 : decode cJ7_copyOf_59c91 21 = .ok (.iconst 0, 1) := zo_3 (zi_at zh_dJ7_copyOf_59c91_15_16 5 rfl)
theorem dJ7_copyOf_59c91_22 : decode cJ7_copyOf_59c91 22 = .ok (.aload_n 0, 1) := zo_42 (zi_at zh_dJ7_copyOf_59c91_15_16 6 rfl)
theorem dJ7_copyOf_59c91_23 : decode cJ7_copyOf_59c91 23 = .ok (.arraylength, 1) := zo_190 (zi_at zh_dJ7_copyOf_59c91_15_16 7 rfl)
theorem dJ7_copyOf_59c91_24 : decode cJ7_copyOf_59c91 24 = .ok (.iload_n 1, 1) := zo_27 (zi_at zh_dJ7_copyOf_59c91_15_16 8 rfl)
theorem dJ7_copyOf_59c91_25 : decode cJ7_copyOf_59c91 25 = .ok (.invokestatic 304, 3) := zo_184 (zi_at zh_dJ7_copyOf_59c91_15_16 9 rfl) (zi_at zh_dJ7_copyOf_59c91_15_16 10 rfl) (zi_at zh_dJ7_copyOf_59c91_15_16 11 rfl) rfl
theorem dJ7_copyOf_59c91_28 : decode cJ7_copyOf_59c91 28 = .ok (.invokestatic 150, 3) := zo_184 (zi_at zh_dJ7_copyOf_59c91_15_16 12 rfl) (zi_at zh_dJ7_copyOf_59c91_15_16 13 rfl) (zi_at zh_dJ7_copyOf_59c91_15_16 14 rfl) rfl
theorem dJ7_copyOf_59c91_31 : decode cJ7_copyOf_59c91 31 = .ok (.aload_n 2, 1) := zo_44 (zi_at zh_dJ7_copyOf_59c91_15_16 15 rfl)
theorem dJ7_copyOf_59c91_32 : decode cJ7_copyOf_59c91 32 = .ok (.areturn, 1) := zo_176 (zi_at zh_dJ7_copyOf_59c91_32_32 0 rfl)
theorem hz_yX5_init_7 : yX5_init.cls ≠ "java/lang/invoke/MethodHandle" ∧ yX5_init.cls ≠ "java/lang/invoke/VarHandle" ∧ (parseMethodDescriptor yX5_init.desc).map (fun d => d.parameters.length) = some 7 := by decide +kernel
theorem hz_yJ7_copyOf_59c91_2 : yJ7_copyOf_59c91.cls ≠ "java/lang/invoke/MethodHandle" ∧ yJ7_copyOf_59c91.cls ≠ "java/lang/invoke/VarHandle" ∧ (parseMethodDescriptor yJ7_copyOf_59c91.desc).map (fun d => d.parameters.length) = some 2 := by decide +kernel
theorem hz_yX7_init_6 : yX7_init.cls ≠ "java/lang/invoke/MethodHandle" ∧ yX7_init.cls ≠ "java/lang/invoke/VarHandle" ∧ (parseMethodDescriptor yX7_init.desc).map (fun d => d.parameters.length) = some 6 := by decide +kernel

/-- what a maker has done, the new cells told -/
def MadeX (J : Nat) (cT : Nat → ClassId) (cf : Nat → Nat) (ad : Nat → Nat) (w : Nat → Nat → Bool) (E : Nat → va_E) (u : (Nat → Nat) × (Nat → Nat) × (Nat → va_E)) (No : Prop) (Yes : (Nat → Nat) × (Nat → Nat) × (Nat → va_E) → Prop) : Prop := CF u.1 ∧ IXL cT (shC u.1) (spC u.1) (LC u.1) u.2.1 u.2.2 ∧ ((u.1 = cf ∧ u.2.1 = ad ∧ Kp w E u.2.2 ∧ No) ∨ (Grown J cf u.1 ∧ (∀ o, o ≠ 13 + J → (∀ t, t < 15 → kl t = J → o ≠ 64 * (cf J + 1) + t) → u.2.1 o = ad o) ∧ KpG J cf w E u.2.2 ∧ Yes u))
theorem kmRace {n : Nat} : ∀ x : Nat, x ∈ [64 * (n + 1) + 6, 64 * (n + 1) + 7, 64 * (n + 1) + 8, 64 * (n + 1) + 9, 64 * (n + 1) + 10, 64 * (n + 1) + 11] ↔ ∃ t, t < 15 ∧ kl t = 2 ∧ x = 64 * (n + 1) + t := by
  intro x
  have hd : ∀ t, t < 15 → kl t = 2 → 6 ≤ t ∧ t ≤ 11 := by decide
  constructor
  · intro h
    simp only [List.mem_cons, List.not_mem_nil, or_false] at h
    rcases h with rfl | rfl | rfl | rfl | rfl | rfl
    · exact ⟨6, by decide, rfl, rfl⟩
    · exact ⟨7, by decide, rfl, rfl⟩
    · exact ⟨8, by decide, rfl, rfl⟩
    · exact ⟨9, by decide, rfl, rfl⟩
    · exact ⟨10, by decide, rfl, rfl⟩
    · exact ⟨11, by decide, rfl, rfl⟩
  · rintro ⟨t, h1, h2, rfl⟩
    have h3 := hd t h1 h2
    rcases (show t = 6 ∨ t = 7 ∨ t = 8 ∨ t = 9 ∨ t = 10 ∨ t = 11 by omega) with rfl | rfl | rfl | rfl | rfl | rfl <;> simp
theorem ndRace {n : Nat} : [64 * (n + 1) + 6, 64 * (n + 1) + 7, 64 * (n + 1) + 8, 64 * (n + 1) + 9, 64 * (n + 1) + 10, 64 * (n + 1) + 11].Nodup := by simp
def v_u_race : List Cond := .code yX12_race cX12_race 7 (some .int) :: vA
abbrev rm_u_race : Room := { frames := 8, cells := 7, slots := 1117, locals := 320 }
def w_u_race : Nat → Nat → Bool := wl [] []
set_option maxHeartbeats 4000000 in
set_option maxRecDepth 100000 in
theorem q_u_race (l : Launch) (dC : Nat → ClassId) (dI : Nat → Nat → Nat) (cT : Nat → ClassId) (cf : Nat → Nat) (hC : CF cf) (ad : Nat → Nat) (E : Nat → va_E) (sz : Nat) (a0 : Int32) (a1 : Int32) (a2 : Int32) (a3 : Int32) (a4 : Int32) (a5 : Int32) (hI0 : IXL cT (shC cf) (spC cf) (LC cf) ad E)  : Met l yX12_race v_u_race rm_u_race (va_Pc [.ref (ad 0), .int a0, .int a1, .int a2, .int a3, .int a4, .int a5] (HWL dC dI (TYC cT) cf ad E sz)) (va_Qi (S := (Nat → Nat) × (Nat → Nat) × (Nat → va_E)) (fun r u => MadeX 2 cT cf ad w_u_race E u (r = -1 ∧ ¬ ((0 ≤ a0.toInt ∧ a0.toInt ≤ (xi (E 1) 0).toInt) ∧ (1 ≤ a1.toInt ∧ a1.toInt ≤ 1000) ∧ (0 ≤ a2.toInt ∧ a2.toInt ≤ 1) ∧ (0 ≤ a3.toInt ∧ a3.toInt ≤ 7) ∧ (0 ≤ a4.toInt ∧ a4.toInt ≤ 99) ∧ (0 ≤ a5.toInt ∧ a5.toInt ≤ 99) ∧ cf 2 < 20)) (fun u => r.toInt = ((cf 2 : Nat) : Int) ∧ ((0 ≤ a0.toInt ∧ a0.toInt ≤ (xi (E 1) 0).toInt) ∧ (1 ≤ a1.toInt ∧ a1.toInt ≤ 1000) ∧ (0 ≤ a2.toInt ∧ a2.toInt ≤ 1) ∧ (0 ≤ a3.toInt ∧ a3.toInt ≤ 7) ∧ (0 ≤ a4.toInt ∧ a4.toInt ≤ 99) ∧ (0 ≤ a5.toInt ∧ a5.toInt ≤ 99) ∧ cf 2 < 20) ∧ (xi (u.2.2 (64 * (cf 2 + 1) + 6)) 0 = xi (E 1) 0 ∧ xi (u.2.2 (64 * (cf 2 + 1) + 6)) 1 = a0 ∧ xi (u.2.2 (64 * (cf 2 + 1) + 6)) 2 = a1 ∧ xi (u.2.2 (64 * (cf 2 + 1) + 6)) 3 = a2 ∧ xi (u.2.2 (64 * (cf 2 + 1) + 6)) 4 = a3 ∧ xi (u.2.2 (64 * (cf 2 + 1) + 6)) 5 = a4 ∧ xi (u.2.2 (64 * (cf 2 + 1) + 6)) 6 = a5) ∧ (∀ j, j < 16 → xi (u.2.2 (64 * (cf 2 + 1) + 7)) j = -1) ∧ (∀ j, j < 16 → xi (u.2.2 (64 * (cf 2 + 1) + 8)) j = -1) ∧ (∀ j, j < 16 → xi (u.2.2 (64 * (cf 2 + 1) + 9)) j = -1) ∧ (∀ j, j < 16 → xi (u.2.2 (64 * (cf 2 + 1) + 10)) j = 0) ∧ (∀ j, j < 401 → xi (u.2.2 (64 * (cf 2 + 1) + 11)) j = 0))) (fun u t => va_P (dC, dI) vwCl (WL (LC u.1) u.2.1 u.2.2) t.heap ∧ va_D (va_A (WL (LC cf) ad E) sz) (WL (LC u.1) u.2.1 u.2.2)) (va_A (WL (LC cf) ad E) sz)) 7 1117 (va_A (WL (LC cf) ad E) sz) := by
  obtain ⟨⟨hc0, hc1, hc2, hc3, hc4, hc5⟩, hcr⟩ := id hC
  refine Met.ofW (cc := cX12_race) (maxL := 7) (ret := (some .int)) (by decide) rfl ?_
  intro p e s m args below meth c s₁ B hml hv
  obtain ⟨hargs, hsz, hP, hK, hD0, hEV⟩ := hv
  subst hsz
  have hx := B.exec
  have hb := B.bytes
  have hr := B.returns
  have hts := atoms_spec (ws := v_u_race) B.pre
  have hown : s.vm.findClass RX12 = some m.cls := findClass_of_methodNamed B.named
  have hlocks := B.notSynchronized
  have hinX0 : ∀ w ∈ u_ws RX0 TX0 11, w ∈ v_u_race := fun w h => vA_in _ w (in_X0 w h)
  have hinX12 : ∀ w ∈ u_ws RX12 TX12 6, w ∈ v_u_race := fun w h => vA_in _ w (in_X12 w h)
  have hinX5 : ∀ w ∈ u_ws RX5 TX5 12, w ∈ v_u_race := fun w h => vA_in _ w (in_X5 w h)
  generalize hAe : va_A (WL (LC cf) ad E) s.heap.size = A at hEV ⊢
  have hA : ∀ q : Nat, s.heap.size ≤ q → A q := fun q h => by rw [← hAe]; exact Or.inr h
  have hD : va_D A (WL (LC cf) ad E) := by rw [← hAe]; exact hD0.self
  have hS : va_S A s.heap s.heap [] := va_S.rf
  have hI := hI0
  have hKp : Kp w_u_race E E := Kp.rf
  have hl := lv_entry ([.ref (ad 0), .int a0, .int a1, .int a2, .int a3, .int a4, .int a5]) (n := 7) (Nat.le_of_ble_eq_true rfl)
  obtain ⟨Q, hQ⟩ : ∃ Q, Q = MQ below (va_Qi (S := (Nat → Nat) × (Nat → Nat) × (Nat → va_E)) (fun r u => MadeX 2 cT cf ad w_u_race E u (r = -1 ∧ ¬ ((0 ≤ a0.toInt ∧ a0.toInt ≤ (xi (E 1) 0).toInt) ∧ (1 ≤ a1.toInt ∧ a1.toInt ≤ 1000) ∧ (0 ≤ a2.toInt ∧ a2.toInt ≤ 1) ∧ (0 ≤ a3.toInt ∧ a3.toInt ≤ 7) ∧ (0 ≤ a4.toInt ∧ a4.toInt ≤ 99) ∧ (0 ≤ a5.toInt ∧ a5.toInt ≤ 99) ∧ cf 2 < 20)) (fun u => r.toInt = ((cf 2 : Nat) : Int) ∧ ((0 ≤ a0.toInt ∧ a0.toInt ≤ (xi (E 1) 0).toInt) ∧ (1 ≤ a1.toInt ∧ a1.toInt ≤ 1000) ∧ (0 ≤ a2.toInt ∧ a2.toInt ≤ 1) ∧ (0 ≤ a3.toInt ∧ a3.toInt ≤ 7) ∧ (0 ≤ a4.toInt ∧ a4.toInt ≤ 99) ∧ (0 ≤ a5.toInt ∧ a5.toInt ≤ 99) ∧ cf 2 < 20) ∧ (xi (u.2.2 (64 * (cf 2 + 1) + 6)) 0 = xi (E 1) 0 ∧ xi (u.2.2 (64 * (cf 2 + 1) + 6)) 1 = a0 ∧ xi (u.2.2 (64 * (cf 2 + 1) + 6)) 2 = a1 ∧ xi (u.2.2 (64 * (cf 2 + 1) + 6)) 3 = a2 ∧ xi (u.2.2 (64 * (cf 2 + 1) + 6)) 4 = a3 ∧ xi (u.2.2 (64 * (cf 2 + 1) + 6)) 5 = a4 ∧ xi (u.2.2 (64 * (cf 2 + 1) + 6)) 6 = a5) ∧ (∀ j, j < 16 → xi (u.2.2 (64 * (cf 2 + 1) + 7)) j = -1) ∧ (∀ j, j < 16 → xi (u.2.2 (64 * (cf 2 + 1) + 8)) j = -1) ∧ (∀ j, j < 16 → xi (u.2.2 (64 * (cf 2 + 1) + 9)) j = -1) ∧ (∀ j, j < 16 → xi (u.2.2 (64 * (cf 2 + 1) + 10)) j = 0) ∧ (∀ j, j < 401 → xi (u.2.2 (64 * (cf 2 + 1) + 11)) j = 0))) (fun u t => va_P (dC, dI) vwCl (WL (LC u.1) u.2.1 u.2.2) t.heap ∧ va_D A (WL (LC u.1) u.2.1 u.2.2)) (A)) args s 7 1117 (A) := ⟨_, rfl⟩
  rw [← hQ, show entryFrame m args 7 = _ from (congrArg (fun z => entryFrame m z 7) hargs).trans (lg_entry_eq _ _ _)]
  generalize (lg_sl ([.ref (ad 0), .int a0, .int a1, .int a2, .int a3, .int a4, .int a5]) ++ List.replicate (7 - (lg_sl ([.ref (ad 0), .int a0, .int a1, .int a2, .int a3, .int a4, .int a5])).length) Slot.unset).toArray = ls at hl ⊢
  have hl : lv_has ls 7 [(0, .ref (ad 0)), (1, .int a0), (2, .int a1), (3, .int a2), (4, .int a3), (5, .int a4), (6, .int a5)] := hl
  refine lv_iload_n hx hb dX12_race_0 rfl (lv_at hl 1 rfl) ?_
  refine lv_iconst (v := 0) hx hb dX12_race_1 (by decide) ?_
  refine lv_aload_n hx hb dX12_race_2 rfl (lv_at hl 0 rfl) ?_
  refine th_getL (ci := 13) (C := RX12) (T := TX12) (N := 6) (v := .ref (ad 1)) hx hb hts hinX12 hown hK hP hI 0 (mF 0 rfl) rfl rfl 0 (Nat.le_of_ble_eq_true rfl) (hts _ (vA_in _ _ (in_10 _ (zs16 (zs1 (zs0)))))) (fun _ h9 => h9) (hI.fr 0 (mF 0 rfl) rfl (Nat.le_of_ble_eq_true rfl) 1 rfl) dX12_race_3 ?_
  have i1 : 0 ≤ (xi (E 1) 0).toInt ∧ (xi (E 1) 0).toInt ≤ 400 := hI0.iv 1 (mF 1 rfl) rfl (Nat.le_of_ble_eq_true rfl) rfl
  refine th_getL (ci := 1) (C := RX0) (T := TX0) (N := 11) (v := .int (xi (E 1) 0)) hx hb hts hinX0 hown hK hP hI 1 (mF 1 rfl) rfl rfl 0 (Nat.le_of_ble_eq_true rfl) (hts _ (vA_in _ _ (in_10 _ (zs16 (zs4 (zs4 (zs1 (zs1 (zs0))))))))) (fun _ h9 => h9) (th_v0L hKp hI0 1 (mF 1 rfl) rfl (Nat.le_of_ble_eq_true rfl) rfl rfl) dX12_race_6 ?_
  refine th_pi (va_runS (As := [.int a0, .int 0, .int (xi (E 1) 0)]) (rest := []) ⟨hx, hb, hml, hown, hts⟩ (q_cwithin l a0 (0 : Int32) (xi (E 1) 0)) (va_cwS 3 hts (gi_S (in_10 _ (zs16 (zs4 (zs4 (zs4 (zs1 (zs1 (zs1 (zs0))))))))) (in_4 _ (zs16 (zs4 (zs1 (zs1 (zs0)))))) (in_4 _ (zs16 (zs4 (zs1 (zs1 (zs1 (zs0))))))) (in_4 _ (zs16 (zs4 (zs4 (zs0)))))) rfl rfl rfl hz_yX12_within_3 ⟨Nat.le_of_ble_eq_true rfl, Nat.le_of_ble_eq_true rfl⟩) ⟨fun _ _ _ _ q => q, fun _ _ _ => ⟨rfl, trivial⟩⟩ rfl rfl hl.1 rfl (lv_room (Nat.le_of_ble_eq_true rfl)) dX12_race_9 ⟨Nat.le_of_ble_eq_true rfl, Nat.le_of_ble_eq_true rfl⟩) hS (fun r2 H1 locs1 hw hk1 hS => ?_)
  have hP := ub_keep hP hk1
  generalize H1 = H at hP hS ⊢
  generalize locs1 = locs at hS ⊢
  rcases hw with hw | hw
  · -- cwithin, case 0
    obtain ⟨rfl, f3⟩ := hw
    have t4 : (0 : Int) ≤ a0.toInt := f3.1
    have t5 : a0.toInt ≤ (xi (E 1) 0).toInt := f3.2
    have i6 : 0 ≤ a0.toInt ∧ a0.toInt ≤ 2147483647 := iv_le_r t4 (il_ 0) (iv_all _) (by decide)
    have i7 : 0 ≤ a0.toInt ∧ a0.toInt ≤ 400 := iv_le_l t5 i6 i1 (by decide)
    refine lv_if_eq (tgt := 26) hx hb dX12_race_12 (by decide) (fun c8 => ?_) (fun c8 => ?_)
    · --12 taken
      exact absurd c8 (by decide)
    · --12 not
      refine lv_iload_n hx hb dX12_race_15 rfl (lv_at hl 2 rfl) ?_
      refine lv_iconst (v := 1) hx hb dX12_race_16 (by decide) ?_
      refine lv_sipush (v := 1000) hx hb dX12_race_17 (by decide) ?_
      refine th_pi (va_runS (As := [.int a1, .int 1, .int 1000]) (rest := []) ⟨hx, hb, hml, hown, hts⟩ (q_cwithin l a1 (1 : Int32) (1000 : Int32)) (va_cwS 3 hts (gi_S (in_10 _ (zs16 (zs4 (zs4 (zs4 (zs1 (zs1 (zs1 (zs0))))))))) (in_4 _ (zs16 (zs4 (zs1 (zs1 (zs0)))))) (in_4 _ (zs16 (zs4 (zs1 (zs1 (zs1 (zs0))))))) (in_4 _ (zs16 (zs4 (zs4 (zs0)))))) rfl rfl rfl hz_yX12_within_3 ⟨Nat.le_of_ble_eq_true rfl, Nat.le_of_ble_eq_true rfl⟩) ⟨fun _ _ _ _ q => q, fun _ _ _ => ⟨rfl, trivial⟩⟩ rfl rfl hl.1 rfl (lv_room (Nat.le_of_ble_eq_true rfl)) dX12_race_20 ⟨Nat.le_of_ble_eq_true rfl, Nat.le_of_ble_eq_true rfl⟩) hS (fun r9 H1 locs1 hw hk1 hS => ?_)
      have hP := ub_keep hP hk1
      generalize H1 = H at hP hS ⊢
      generalize locs1 = locs at hS ⊢
      rcases hw with hw | hw
      · -- cwithin, case 0
        obtain ⟨rfl, f10⟩ := hw
        have t11 : (1 : Int) ≤ a1.toInt := f10.1
        have t12 : a1.toInt ≤ 1000 := f10.2
        have i13 : 1 ≤ a1.toInt ∧ a1.toInt ≤ 2147483647 := iv_le_r t11 (il_ 1) (iv_all _) (by decide)
        have i14 : 1 ≤ a1.toInt ∧ a1.toInt ≤ 1000 := iv_le_l t12 i13 (il_ 1000) (by decide)
        refine lv_if_ne (tgt := 28) hx hb dX12_race_23 (by decide) (fun c15 => ?_) (fun c15 => ?_)
        · --23 taken
          refine lv_iload_n hx hb dX12_race_28 rfl (lv_at hl 3 rfl) ?_
          refine lv_iconst (v := 0) hx hb dX12_race_29 (by decide) ?_
          refine lv_iconst (v := 1) hx hb dX12_race_30 (by decide) ?_
          refine th_pi (va_runS (As := [.int a2, .int 0, .int 1]) (rest := []) ⟨hx, hb, hml, hown, hts⟩ (q_cwithin l a2 (0 : Int32) (1 : Int32)) (va_cwS 3 hts (gi_S (in_10 _ (zs16 (zs4 (zs4 (zs4 (zs1 (zs1 (zs1 (zs0))))))))) (in_4 _ (zs16 (zs4 (zs1 (zs1 (zs0)))))) (in_4 _ (zs16 (zs4 (zs1 (zs1 (zs1 (zs0))))))) (in_4 _ (zs16 (zs4 (zs4 (zs0)))))) rfl rfl rfl hz_yX12_within_3 ⟨Nat.le_of_ble_eq_true rfl, Nat.le_of_ble_eq_true rfl⟩) ⟨fun _ _ _ _ q => q, fun _ _ _ => ⟨rfl, trivial⟩⟩ rfl rfl hl.1 rfl (lv_room (Nat.le_of_ble_eq_true rfl)) dX12_race_31 ⟨Nat.le_of_ble_eq_true rfl, Nat.le_of_ble_eq_true rfl⟩) hS (fun r16 H1 locs1 hw hk1 hS => ?_)
          have hP := ub_keep hP hk1
          generalize H1 = H at hP hS ⊢
          generalize locs1 = locs at hS ⊢
          rcases hw with hw | hw
          · -- cwithin, case 0
            obtain ⟨rfl, f17⟩ := hw
            have t18 : (0 : Int) ≤ a2.toInt := f17.1
            have t19 : a2.toInt ≤ 1 := f17.2
            have i20 : 0 ≤ a2.toInt ∧ a2.toInt ≤ 2147483647 := iv_le_r t18 (il_ 0) (iv_all _) (by decide)
            have i21 : 0 ≤ a2.toInt ∧ a2.toInt ≤ 1 := iv_le_l t19 i20 (il_ 1) (by decide)
            refine lv_if_eq (tgt := 48) hx hb dX12_race_34 (by decide) (fun c22 => ?_) (fun c22 => ?_)
            · --34 taken
              exact absurd c22 (by decide)
            · --34 not
              refine lv_iload hx hb dX12_race_37 (lv_at hl 4 rfl) ?_
              refine lv_iconst (v := 0) hx hb dX12_race_39 (by decide) ?_
              refine lv_bipush (v := 7) hx hb dX12_race_40 (by decide) ?_
              refine th_pi (va_runS (As := [.int a3, .int 0, .int 7]) (rest := []) ⟨hx, hb, hml, hown, hts⟩ (q_cwithin l a3 (0 : Int32) (7 : Int32)) (va_cwS 3 hts (gi_S (in_10 _ (zs16 (zs4 (zs4 (zs4 (zs1 (zs1 (zs1 (zs0))))))))) (in_4 _ (zs16 (zs4 (zs1 (zs1 (zs0)))))) (in_4 _ (zs16 (zs4 (zs1 (zs1 (zs1 (zs0))))))) (in_4 _ (zs16 (zs4 (zs4 (zs0)))))) rfl rfl rfl hz_yX12_within_3 ⟨Nat.le_of_ble_eq_true rfl, Nat.le_of_ble_eq_true rfl⟩) ⟨fun _ _ _ _ q => q, fun _ _ _ => ⟨rfl, trivial⟩⟩ rfl rfl hl.1 rfl (lv_room (Nat.le_of_ble_eq_true rfl)) dX12_race_42 ⟨Nat.le_of_ble_eq_true rfl, Nat.le_of_ble_eq_true rfl⟩) hS (fun r23 H1 locs1 hw hk1 hS => ?_)
              have hP := ub_keep hP hk1
              generalize H1 = H at hP hS ⊢
              generalize locs1 = locs at hS ⊢
              rcases hw with hw | hw
              · -- cwithin, case 0
                obtain ⟨rfl, f24⟩ := hw
                have t25 : (0 : Int) ≤ a3.toInt := f24.1
                have t26 : a3.toInt ≤ 7 := f24.2
                have i27 : 0 ≤ a3.toInt ∧ a3.toInt ≤ 2147483647 := iv_le_r t25 (il_ 0) (iv_all _) (by decide)
                have i28 : 0 ≤ a3.toInt ∧ a3.toInt ≤ 7 := iv_le_l t26 i27 (il_ 7) (by decide)
                refine lv_if_ne (tgt := 50) hx hb dX12_race_45 (by decide) (fun c29 => ?_) (fun c29 => ?_)
                · --45 taken
                  refine lv_iload hx hb dX12_race_50 (lv_at hl 5 rfl) ?_
                  refine lv_iconst (v := 0) hx hb dX12_race_52 (by decide) ?_
                  refine lv_bipush (v := 99) hx hb dX12_race_53 (by decide) ?_
                  refine th_pi (va_runS (As := [.int a4, .int 0, .int 99]) (rest := []) ⟨hx, hb, hml, hown, hts⟩ (q_cwithin l a4 (0 : Int32) (99 : Int32)) (va_cwS 3 hts (gi_S (in_10 _ (zs16 (zs4 (zs4 (zs4 (zs1 (zs1 (zs1 (zs0))))))))) (in_4 _ (zs16 (zs4 (zs1 (zs1 (zs0)))))) (in_4 _ (zs16 (zs4 (zs1 (zs1 (zs1 (zs0))))))) (in_4 _ (zs16 (zs4 (zs4 (zs0)))))) rfl rfl rfl hz_yX12_within_3 ⟨Nat.le_of_ble_eq_true rfl, Nat.le_of_ble_eq_true rfl⟩) ⟨fun _ _ _ _ q => q, fun _ _ _ => ⟨rfl, trivial⟩⟩ rfl rfl hl.1 rfl (lv_room (Nat.le_of_ble_eq_true rfl)) dX12_race_55 ⟨Nat.le_of_ble_eq_true rfl, Nat.le_of_ble_eq_true rfl⟩) hS (fun r30 H1 locs1 hw hk1 hS => ?_)
                  have hP := ub_keep hP hk1
                  generalize H1 = H at hP hS ⊢
                  generalize locs1 = locs at hS ⊢
                  rcases hw with hw | hw
                  · -- cwithin, case 0
                    obtain ⟨rfl, f31⟩ := hw
                    have t32 : (0 : Int) ≤ a4.toInt := f31.1
                    have t33 : a4.toInt ≤ 99 := f31.2
                    have i34 : 0 ≤ a4.toInt ∧ a4.toInt ≤ 2147483647 := iv_le_r t32 (il_ 0) (iv_all _) (by decide)
                    have i35 : 0 ≤ a4.toInt ∧ a4.toInt ≤ 99 := iv_le_l t33 i34 (il_ 99) (by decide)
                    refine lv_if_eq (tgt := 72) hx hb dX12_race_58 (by decide) (fun c36 => ?_) (fun c36 => ?_)
                    · --58 taken
                      exact absurd c36 (by decide)
                    · --58 not
                      refine lv_iload hx hb dX12_race_61 (lv_at hl 6 rfl) ?_
                      refine lv_iconst (v := 0) hx hb dX12_race_63 (by decide) ?_
                      refine lv_bipush (v := 99) hx hb dX12_race_64 (by decide) ?_
                      refine th_pi (va_runS (As := [.int a5, .int 0, .int 99]) (rest := []) ⟨hx, hb, hml, hown, hts⟩ (q_cwithin l a5 (0 : Int32) (99 : Int32)) (va_cwS 3 hts (gi_S (in_10 _ (zs16 (zs4 (zs4 (zs4 (zs1 (zs1 (zs1 (zs0))))))))) (in_4 _ (zs16 (zs4 (zs1 (zs1 (zs0)))))) (in_4 _ (zs16 (zs4 (zs1 (zs1 (zs1 (zs0))))))) (in_4 _ (zs16 (zs4 (zs4 (zs0)))))) rfl rfl rfl hz_yX12_within_3 ⟨Nat.le_of_ble_eq_true rfl, Nat.le_of_ble_eq_true rfl⟩) ⟨fun _ _ _ _ q => q, fun _ _ _ => ⟨rfl, trivial⟩⟩ rfl rfl hl.1 rfl (lv_room (Nat.le_of_ble_eq_true rfl)) dX12_race_66 ⟨Nat.le_of_ble_eq_true rfl, Nat.le_of_ble_eq_true rfl⟩) hS (fun r37 H1 locs1 hw hk1 hS => ?_)
                      have hP := ub_keep hP hk1
                      generalize H1 = H at hP hS ⊢
                      generalize locs1 = locs at hS ⊢
                      rcases hw with hw | hw
                      · -- cwithin, case 0
                        obtain ⟨rfl, f38⟩ := hw
                        have t39 : (0 : Int) ≤ a5.toInt := f38.1
                        have t40 : a5.toInt ≤ 99 := f38.2
                        have i41 : 0 ≤ a5.toInt ∧ a5.toInt ≤ 2147483647 := iv_le_r t39 (il_ 0) (iv_all _) (by decide)
                        have i42 : 0 ≤ a5.toInt ∧ a5.toInt ≤ 99 := iv_le_l t40 i41 (il_ 99) (by decide)
                        refine lv_if_ne (tgt := 74) hx hb dX12_race_69 (by decide) (fun c43 => ?_) (fun c43 => ?_)
                        · --69 taken
                          refine lv_aload_n hx hb dX12_race_74 rfl (lv_at hl 0 rfl) ?_
                          refine th_getL (ci := 13) (C := RX12) (T := TX12) (N := 6) (v := .ref (ad 1)) hx hb hts hinX12 hown hK hP hI 0 (mF 0 rfl) rfl rfl 0 (Nat.le_of_ble_eq_true rfl) (hts _ (vA_in _ _ (in_10 _ (zs16 (zs1 (zs0)))))) (fun _ h9 => h9) (hI.fr 0 (mF 0 rfl) rfl (Nat.le_of_ble_eq_true rfl) 1 rfl) dX12_race_75 ?_
                          refine th_getL (ci := 1) (C := RX0) (T := TX0) (N := 11) (v := .ref (ad 9)) hx hb hts hinX0 hown hK hP hI 1 (mF 1 rfl) rfl rfl 5 (Nat.le_of_ble_eq_true rfl) (hts _ (vA_in _ _ (in_14 _ (zs4 (zs1 (zs1 (zs1 (zs0)))))))) (fun _ h9 => h9) (hI.fr 1 (mF 1 rfl) rfl (Nat.le_of_ble_eq_true rfl) 9 rfl) dX12_race_78 ?_
                          refine th_riL (va_runV (As := []) (rest := []) ⟨hx, hb, hml, hown, hts⟩ (q_size2 l dC dI cT cf hC ad E H.size hI) (cwV 0 hts (gi_V (in_10 _ (zs16 (zs16 (zs0)))) (in_4 _ (zs16 (zs16 (zs1 (zs1 (zs1 (zs0))))))) (in_4 _ (zs16 (zs16 (zs4 (zs0))))) (in_3 _ (zs16 (zs1 (zs1 (zs0))))) (in_4 _ (zs16 (zs1 (zs1 (zs1 (zs0))))))) rfl rfl rfl ⟨rfl, hz_yJx4a65c_size_8abf5_0⟩ ⟨Nat.le_of_ble_eq_true rfl, Nat.le_of_ble_eq_true rfl⟩) ⟨HWL_bl, va_recv hK hP (ci := 0) (q0 := posL 9 (LC cf)) rfl (hI.ob 9 (mF 9 rfl) rfl), (HWL_wi hP hK (WL_D hD) hS hA hEV)⟩ rfl rfl hl.1 rfl (lv_room (Nat.le_of_ble_eq_true rfl)) dX12_race_81 ⟨Nat.le_of_ble_eq_true rfl, Nat.le_of_ble_eq_true rfl⟩) hS hP (fun r44 H locs hw hP hS => ?_)
                          obtain ⟨f45, f46⟩ := hw
                          refine lv_bipush (v := 20) hx hb dX12_race_84 (by decide) ?_
                          refine lv_icmp_lt (tgt := 91) hx hb dX12_race_86 (by decide) (fun c47 => ?_) (fun c47 => ?_)
                          · --86 taken
                            have t48 : r44.toInt < 20 := ti_lt c47
                            have i49 : 0 ≤ r44.toInt ∧ r44.toInt ≤ 19 := iv_lt_l t48 f45 (il_ 20) (by decide)
                            refine lv_aload_n hx hb dX12_race_91 rfl (lv_at hl 0 rfl) ?_
                            refine th_getL (ci := 13) (C := RX12) (T := TX12) (N := 6) (v := .ref (ad 1)) hx hb hts hinX12 hown hK hP hI 0 (mF 0 rfl) rfl rfl 0 (Nat.le_of_ble_eq_true rfl) (hts _ (vA_in _ _ (in_10 _ (zs16 (zs1 (zs0)))))) (fun _ h9 => h9) (hI.fr 0 (mF 0 rfl) rfl (Nat.le_of_ble_eq_true rfl) 1 rfl) dX12_race_92 ?_
                            refine th_getL (ci := 1) (C := RX0) (T := TX0) (N := 11) (v := .ref (ad 9)) hx hb hts hinX0 hown hK hP hI 1 (mF 1 rfl) rfl rfl 5 (Nat.le_of_ble_eq_true rfl) (hts _ (vA_in _ _ (in_14 _ (zs4 (zs1 (zs1 (zs1 (zs0)))))))) (fun _ h9 => h9) (hI.fr 1 (mF 1 rfl) rfl (Nat.le_of_ble_eq_true rfl) 9 rfl) dX12_race_95 ?_
                            refine va_new (ci := 6) (fs := [.int 0, .int 0, .int 0, .int 0, .int 0, .int 0, .int 0, .null, .null, .null, .null, .null]) (C := RX5) (T := TX5) (N := 12) hx hb hts hinX5 tyX5 tyX5_ok hown (hts _ (vA_in _ _ (in_21 _ (zs4 (zs4 (zs0)))))) (hts _ (vA_in _ _ (in_21 _ (zs4 (zs4 (zs1 (zs0))))))) (hts _ (vA_in _ _ (in_6 _ (zs16 (zs1 (zs0)))))) hK hP (WL_D hD) hS hA rfl (fun j hj => by rcases (show j = 0 ∨ j = 1 ∨ j = 2 ∨ j = 3 ∨ j = 4 ∨ j = 5 ∨ j = 6 ∨ j = 7 ∨ j = 8 ∨ j = 9 ∨ j = 10 ∨ j = 11 by omega) with rfl | rfl | rfl | rfl | rfl | rfl | rfl | rfl | rfl | rfl | rfl | rfl <;> rfl) (Nat.le_of_ble_eq_true rfl) (Nat.le_of_ble_eq_true rfl) dX12_race_98 (fun qn H hP2 hD2 hS => ?_)
                            have hP2 : va_P (dC, dI) vwCl ([(qn, .inr (6, [.int 0, .int 0, .int 0, .int 0, .int 0, .int 0, .int 0, .null, .null, .null, .null, .null]))] ++ WL (LC cf) ad E) H := va_P_perm hP2 List.perm_append_comm
                            have hD2 : va_D A ([(qn, .inr (6, [.int 0, .int 0, .int 0, .int 0, .int 0, .int 0, .int 0, .null, .null, .null, .null, .null]))] ++ WL (LC cf) ad E) := va_D_perm hD2 List.perm_append_comm
                            have hP : va_P (dC, dI) vwCl (WL (LC cf) ad E) H := va_P_sub hP2 (fun x hx => List.mem_append_right _ hx)
                            refine lv_dup hx hb dX12_race_101 rfl ?_
                            refine lv_aload_n hx hb dX12_race_102 rfl (lv_at hl 0 rfl) ?_
                            refine th_getL (ci := 13) (C := RX12) (T := TX12) (N := 6) (v := .ref (ad 1)) hx hb hts hinX12 hown hK hP hI 0 (mF 0 rfl) rfl rfl 0 (Nat.le_of_ble_eq_true rfl) (hts _ (vA_in _ _ (in_10 _ (zs16 (zs1 (zs0)))))) (fun _ h9 => h9) (hI.fr 0 (mF 0 rfl) rfl (Nat.le_of_ble_eq_true rfl) 1 rfl) dX12_race_103 ?_
                            refine th_getL (ci := 1) (C := RX0) (T := TX0) (N := 11) (v := .int (xi (E 1) 0)) hx hb hts hinX0 hown hK hP hI 1 (mF 1 rfl) rfl rfl 0 (Nat.le_of_ble_eq_true rfl) (hts _ (vA_in _ _ (in_10 _ (zs16 (zs4 (zs4 (zs1 (zs1 (zs0))))))))) (fun _ h9 => h9) (th_v0L hKp hI0 1 (mF 1 rfl) rfl (Nat.le_of_ble_eq_true rfl) rfl rfl) dX12_race_106 ?_
                            refine lv_iload_n hx hb dX12_race_109 rfl (lv_at hl 1 rfl) ?_
                            refine lv_iload_n hx hb dX12_race_110 rfl (lv_at hl 2 rfl) ?_
                            refine lv_iload_n hx hb dX12_race_111 rfl (lv_at hl 3 rfl) ?_
                            refine lv_iload hx hb dX12_race_112 (lv_at hl 4 rfl) ?_
                            refine lv_iload hx hb dX12_race_114 (lv_at hl 5 rfl) ?_
                            refine lv_iload hx hb dX12_race_116 (lv_at hl 6 rfl) ?_
                            have hPc := va_P_sub (ws' := [(qn, .inr (6, [.int 0, .int 0, .int 0, .int 0, .int 0, .int 0, .int 0, .null, .null, .null, .null, .null]))]) hP2 (fun x hx => List.mem_append_left _ hx)
                            have hDc := va_D_left hD2
                            have hFc : ∀ z, va_A [(qn, .inr (6, [.int 0, .int 0, .int 0, .int 0, .int 0, .int 0, .int 0, .null, .null, .null, .null, .null]))] H.size z → A z := new_free hD2 hS hA
                            refine va_callv (va_runI (As := [.int (xi (E 1) 0), .int a0, .int a1, .int a2, .int a3, .int a4, .int a5]) (rest := [.ref qn, .ref (ad 9)]) ⟨hx, hb, hml, hown, hts⟩ (x_Race l dC dI qn (xi (E 1) 0) a0 a1 a2 a3 a4 a5 (cT 0) H.size) (cwI 7 hts (gi_0 (in_21 _ (zs4 (zs4 (zs4 (zs0)))))) rfl rfl rfl (hts _ (vA_in _ _ (in_6 _ (zs16 (zs1 (zs0)))))) (hts _ (vA_in _ _ (in_21 _ (zs4 (zs4 (zs1 (zs1 (zs0)))))))) (hts _ (vA_in _ _ (in_21 _ (zs4 (zs4 (zs1 (zs1 (zs1 (zs0))))))))) rfl hz_yX5_init_7 ⟨Nat.le_of_ble_eq_true rfl, Nat.le_of_ble_eq_true rfl⟩) ⟨fun a U g mk q => by obtain ⟨e0, e1, qP, qK, qD⟩ := q; exact ⟨e0, e1, qP, va_K.moved (u := U) (U := U.calling g mk a) (Vm.Alike.refl U.vm) qK, qD⟩, fun U hU hW => ⟨rfl, by rw [hU], by rw [hU]; exact hPc, va_K.moved hW.alike (hK.sub (tys' := [(cT 0, .int)]) [0] rfl), hDc.weaken (fun _ _ _ _ => trivial)⟩⟩ rfl rfl hl.1 rfl (lv_room (Nat.le_of_ble_eq_true rfl)) dX12_race_118 ⟨Nat.le_of_ble_eq_true rfl, Nat.le_of_ble_eq_true rfl⟩) hS (fun z _ h => hFc z h) hFc (fun u1 t H1 locs ht hvm hw hB hz1 hk1 hS => ?_)
                            obtain ⟨py0, py1, py2, py3, py4, pf0, pf1, pf2⟩ := u1
                            obtain ⟨hP1, -, hD1⟩ := hB
                            rw [ht] at hP1
                            obtain ⟨hf0, hf1, hf2⟩ := hw
                            dsimp only at hf0 hf1 hf2
                            obtain ⟨hP2, hD2⟩ := va_joinQ (wr := []) hP2 hD2 [0] [] rfl rfl rfl (fun _ h => nomatch h) hk1 hFc hP1 hD1
                            have hP2 : va_P (dC, dI) vwCl ([(qn, .inr (6, [.int (xi (E 1) 0), .int a0, .int a1, .int a2, .int a3, .int a4, .int a5, .ref py0, .ref py1, .ref py2, .ref py3, .ref py4])), (py0, .inl (cT 0, 16, .inl pf0)), (py1, .inl (cT 0, 16, .inl pf1)), (py2, .inl (cT 0, 16, .inl pf2)), (py3, .inl (cT 0, 16, .inl (fun _ => (0 : Int32)))), (py4, .inl (cT 0, 401, .inl (fun _ => (0 : Int32))))] ++ WL (LC cf) ad E) H1 := hP2
                            have hD2 : va_D A ([(qn, .inr (6, [.int (xi (E 1) 0), .int a0, .int a1, .int a2, .int a3, .int a4, .int a5, .ref py0, .ref py1, .ref py2, .ref py3, .ref py4])), (py0, .inl (cT 0, 16, .inl pf0)), (py1, .inl (cT 0, 16, .inl pf1)), (py2, .inl (cT 0, 16, .inl pf2)), (py3, .inl (cT 0, 16, .inl (fun _ => (0 : Int32)))), (py4, .inl (cT 0, 401, .inl (fun _ => (0 : Int32))))] ++ WL (LC cf) ad E) := hD2
                            generalize H1 = H at hP2 hS ⊢
                            have hP : va_P (dC, dI) vwCl (WL (LC cf) ad E) H := va_P_sub hP2 (fun x hx => List.mem_append_right _ hx)
                            obtain ⟨ad1, had1⟩ : ∃ z, z = va_up (va_up (va_up (va_up (va_up (va_up ad (64 * (cf 2 + 1) + 6) qn) (64 * (cf 2 + 1) + 7) py0) (64 * (cf 2 + 1) + 8) py1) (64 * (cf 2 + 1) + 9) py2) (64 * (cf 2 + 1) + 10) py3) (64 * (cf 2 + 1) + 11) py4 := ⟨_, rfl⟩
                            obtain ⟨E1, hE1⟩ : ∃ z : Nat → va_E, z = va_up (va_up (va_up (va_up (va_up (va_up E (64 * (cf 2 + 1) + 6) (.inr (6, [.int (xi (E 1) 0), .int a0, .int a1, .int a2, .int a3, .int a4, .int a5, .ref py0, .ref py1, .ref py2, .ref py3, .ref py4]))) (64 * (cf 2 + 1) + 7) (.inl (cT 0, 16, .inl pf0))) (64 * (cf 2 + 1) + 8) (.inl (cT 0, 16, .inl pf1))) (64 * (cf 2 + 1) + 9) (.inl (cT 0, 16, .inl pf2))) (64 * (cf 2 + 1) + 10) (.inl (cT 0, 16, .inl (fun _ => (0 : Int32))))) (64 * (cf 2 + 1) + 11) (.inl (cT 0, 401, .inl (fun _ => (0 : Int32)))) := ⟨_, rfl⟩
                            have hKM := kmRace (n := cf 2)
                            have hko : ∀ x, x ∈ [64 * (cf 2 + 1) + 6, 64 * (cf 2 + 1) + 7, 64 * (cf 2 + 1) + 8, 64 * (cf 2 + 1) + 9, 64 * (cf 2 + 1) + 10, 64 * (cf 2 + 1) + 11] → x ∉ LC cf := K_out (J := 2) (by decide) hKM
                            have hko0 : (64 * (cf 2 + 1) + 6) ∉ LC cf := hko _ (by simp)
                            have hko1 : (64 * (cf 2 + 1) + 7) ∉ LC cf := hko _ (by simp)
                            have hko2 : (64 * (cf 2 + 1) + 8) ∉ LC cf := hko _ (by simp)
                            have hko3 : (64 * (cf 2 + 1) + 9) ∉ LC cf := hko _ (by simp)
                            have hko4 : (64 * (cf 2 + 1) + 10) ∉ LC cf := hko _ (by simp)
                            have hko5 : (64 * (cf 2 + 1) + 11) ∉ LC cf := hko _ (by simp)
                            have haa : ∀ o, o ∈ LC cf → ad1 o = ad o := fun o h => by have n0 : o ≠ (64 * (cf 2 + 1) + 6) := fun e => hko0 (e ▸ h); have n1 : o ≠ (64 * (cf 2 + 1) + 7) := fun e => hko1 (e ▸ h); have n2 : o ≠ (64 * (cf 2 + 1) + 8) := fun e => hko2 (e ▸ h); have n3 : o ≠ (64 * (cf 2 + 1) + 9) := fun e => hko3 (e ▸ h); have n4 : o ≠ (64 * (cf 2 + 1) + 10) := fun e => hko4 (e ▸ h); have n5 : o ≠ (64 * (cf 2 + 1) + 11) := fun e => hko5 (e ▸ h); rw [had1, va_up_ne _ _ n5, va_up_ne _ _ n4, va_up_ne _ _ n3, va_up_ne _ _ n2, va_up_ne _ _ n1, va_up_ne _ _ n0]
                            have hee : ∀ o, o ∈ LC cf → E1 o = E o := fun o h => by have n0 : o ≠ (64 * (cf 2 + 1) + 6) := fun e => hko0 (e ▸ h); have n1 : o ≠ (64 * (cf 2 + 1) + 7) := fun e => hko1 (e ▸ h); have n2 : o ≠ (64 * (cf 2 + 1) + 8) := fun e => hko2 (e ▸ h); have n3 : o ≠ (64 * (cf 2 + 1) + 9) := fun e => hko3 (e ▸ h); have n4 : o ≠ (64 * (cf 2 + 1) + 10) := fun e => hko4 (e ▸ h); have n5 : o ≠ (64 * (cf 2 + 1) + 11) := fun e => hko5 (e ▸ h); rw [hE1, va_up_ne _ _ n5, va_up_ne _ _ n4, va_up_ne _ _ n3, va_up_ne _ _ n2, va_up_ne _ _ n1, va_up_ne _ _ n0]
                            have aq0 : ad1 (64 * (cf 2 + 1) + 6) = qn := by rw [had1, va_up_ne _ _ (show (64 * (cf 2 + 1) + 6) ≠ (64 * (cf 2 + 1) + 11) by omega), va_up_ne _ _ (show (64 * (cf 2 + 1) + 6) ≠ (64 * (cf 2 + 1) + 10) by omega), va_up_ne _ _ (show (64 * (cf 2 + 1) + 6) ≠ (64 * (cf 2 + 1) + 9) by omega), va_up_ne _ _ (show (64 * (cf 2 + 1) + 6) ≠ (64 * (cf 2 + 1) + 8) by omega), va_up_ne _ _ (show (64 * (cf 2 + 1) + 6) ≠ (64 * (cf 2 + 1) + 7) by omega), va_up_self]
                            have eq0 : E1 (64 * (cf 2 + 1) + 6) = .inr (6, [.int (xi (E 1) 0), .int a0, .int a1, .int a2, .int a3, .int a4, .int a5, .ref py0, .ref py1, .ref py2, .ref py3, .ref py4]) := by rw [hE1, va_up_ne _ _ (show (64 * (cf 2 + 1) + 6) ≠ (64 * (cf 2 + 1) + 11) by omega), va_up_ne _ _ (show (64 * (cf 2 + 1) + 6) ≠ (64 * (cf 2 + 1) + 10) by omega), va_up_ne _ _ (show (64 * (cf 2 + 1) + 6) ≠ (64 * (cf 2 + 1) + 9) by omega), va_up_ne _ _ (show (64 * (cf 2 + 1) + 6) ≠ (64 * (cf 2 + 1) + 8) by omega), va_up_ne _ _ (show (64 * (cf 2 + 1) + 6) ≠ (64 * (cf 2 + 1) + 7) by omega), va_up_self]
                            have aq1 : ad1 (64 * (cf 2 + 1) + 7) = py0 := by rw [had1, va_up_ne _ _ (show (64 * (cf 2 + 1) + 7) ≠ (64 * (cf 2 + 1) + 11) by omega), va_up_ne _ _ (show (64 * (cf 2 + 1) + 7) ≠ (64 * (cf 2 + 1) + 10) by omega), va_up_ne _ _ (show (64 * (cf 2 + 1) + 7) ≠ (64 * (cf 2 + 1) + 9) by omega), va_up_ne _ _ (show (64 * (cf 2 + 1) + 7) ≠ (64 * (cf 2 + 1) + 8) by omega), va_up_self]
                            have eq1 : E1 (64 * (cf 2 + 1) + 7) = .inl (cT 0, 16, .inl pf0) := by rw [hE1, va_up_ne _ _ (show (64 * (cf 2 + 1) + 7) ≠ (64 * (cf 2 + 1) + 11) by omega), va_up_ne _ _ (show (64 * (cf 2 + 1) + 7) ≠ (64 * (cf 2 + 1) + 10) by omega), va_up_ne _ _ (show (64 * (cf 2 + 1) + 7) ≠ (64 * (cf 2 + 1) + 9) by omega), va_up_ne _ _ (show (64 * (cf 2 + 1) + 7) ≠ (64 * (cf 2 + 1) + 8) by omega), va_up_self]
                            have aq2 : ad1 (64 * (cf 2 + 1) + 8) = py1 := by rw [had1, va_up_ne _ _ (show (64 * (cf 2 + 1) + 8) ≠ (64 * (cf 2 + 1) + 11) by omega), va_up_ne _ _ (show (64 * (cf 2 + 1) + 8) ≠ (64 * (cf 2 + 1) + 10) by omega), va_up_ne _ _ (show (64 * (cf 2 + 1) + 8) ≠ (64 * (cf 2 + 1) + 9) by omega), va_up_self]
                            have eq2 : E1 (64 * (cf 2 + 1) + 8) = .inl (cT 0, 16, .inl pf1) := by rw [hE1, va_up_ne _ _ (show (64 * (cf 2 + 1) + 8) ≠ (64 * (cf 2 + 1) + 11) by omega), va_up_ne _ _ (show (64 * (cf 2 + 1) + 8) ≠ (64 * (cf 2 + 1) + 10) by omega), va_up_ne _ _ (show (64 * (cf 2 + 1) + 8) ≠ (64 * (cf 2 + 1) + 9) by omega), va_up_self]
                            have aq3 : ad1 (64 * (cf 2 + 1) + 9) = py2 := by rw [had1, va_up_ne _ _ (show (64 * (cf 2 + 1) + 9) ≠ (64 * (cf 2 + 1) + 11) by omega), va_up_ne _ _ (show (64 * (cf 2 + 1) + 9) ≠ (64 * (cf 2 + 1) + 10) by omega), va_up_self]
                            have eq3 : E1 (64 * (cf 2 + 1) + 9) = .inl (cT 0, 16, .inl pf2) := by rw [hE1, va_up_ne _ _ (show (64 * (cf 2 + 1) + 9) ≠ (64 * (cf 2 + 1) + 11) by omega), va_up_ne _ _ (show (64 * (cf 2 + 1) + 9) ≠ (64 * (cf 2 + 1) + 10) by omega), va_up_self]
                            have aq4 : ad1 (64 * (cf 2 + 1) + 10) = py3 := by rw [had1, va_up_ne _ _ (show (64 * (cf 2 + 1) + 10) ≠ (64 * (cf 2 + 1) + 11) by omega), va_up_self]
                            have eq4 : E1 (64 * (cf 2 + 1) + 10) = .inl (cT 0, 16, .inl (fun _ => (0 : Int32))) := by rw [hE1, va_up_ne _ _ (show (64 * (cf 2 + 1) + 10) ≠ (64 * (cf 2 + 1) + 11) by omega), va_up_self]
                            have aq5 : ad1 (64 * (cf 2 + 1) + 11) = py4 := by rw [had1, va_up_self]
                            have eq5 : E1 (64 * (cf 2 + 1) + 11) = .inl (cT 0, 401, .inl (fun _ => (0 : Int32))) := by rw [hE1, va_up_self]
                            have hw9 : WL ([64 * (cf 2 + 1) + 6, 64 * (cf 2 + 1) + 7, 64 * (cf 2 + 1) + 8, 64 * (cf 2 + 1) + 9, 64 * (cf 2 + 1) + 10, 64 * (cf 2 + 1) + 11] ++ LC cf) ad1 E1 = [(qn, .inr (6, [.int (xi (E 1) 0), .int a0, .int a1, .int a2, .int a3, .int a4, .int a5, .ref py0, .ref py1, .ref py2, .ref py3, .ref py4])), (py0, .inl (cT 0, 16, .inl pf0)), (py1, .inl (cT 0, 16, .inl pf1)), (py2, .inl (cT 0, 16, .inl pf2)), (py3, .inl (cT 0, 16, .inl (fun _ => (0 : Int32)))), (py4, .inl (cT 0, 401, .inl (fun _ => (0 : Int32))))] ++ WL (LC cf) ad E := by
                              show (ad1 (64 * (cf 2 + 1) + 6), E1 (64 * (cf 2 + 1) + 6)) :: (ad1 (64 * (cf 2 + 1) + 7), E1 (64 * (cf 2 + 1) + 7)) :: (ad1 (64 * (cf 2 + 1) + 8), E1 (64 * (cf 2 + 1) + 8)) :: (ad1 (64 * (cf 2 + 1) + 9), E1 (64 * (cf 2 + 1) + 9)) :: (ad1 (64 * (cf 2 + 1) + 10), E1 (64 * (cf 2 + 1) + 10)) :: (ad1 (64 * (cf 2 + 1) + 11), E1 (64 * (cf 2 + 1) + 11)) :: WL (LC cf) ad1 E1 = _
                              rw [aq0, eq0, aq1, eq1, aq2, eq2, aq3, eq3, aq4, eq4, aq5, eq5, WL_congr (ad' := ad) (E' := E) fun o h => ⟨haa o h, hee o h⟩]
                              rfl
                            rw [← hw9] at hP2 hD2
                            have hI1 := IX_ad hI hC haa hee
                            have hlt : cf 2 < 20 := by omega
                            obtain ⟨hG, hCn⟩ := CF_up hC (J := 2) (by decide) (m := 20) rfl hlt (by decide)
                            have zm1 := ln_m1
                            have z0 := ln_0
                            have hnew : ∀ t', t' < 15 → kl t' = 2 → okS cT (shP (va_up cf 2 (cf 2 + 1)) t' (cf 2)) (E1 (64 * (cf 2 + 1) + t')) ∧ ∀ j, j < (shP (va_up cf 2 (cf 2 + 1)) t' (cf 2)).2.2 → okV ad1 (spP (va_up cf 2 (cf 2 + 1)) t' (cf 2) j) (xv (E1 (64 * (cf 2 + 1) + t')) j) := by
                              intro t' h1 h2
                              have h3 : ∀ t, t < 15 → kl t = 2 → 6 ≤ t ∧ t ≤ 11 := by decide
                              have h3 := h3 t' h1 h2
                              rcases (show t' = 6 ∨ t' = 7 ∨ t' = 8 ∨ t' = 9 ∨ t' = 10 ∨ t' = 11 by omega) with rfl | rfl | rfl | rfl | rfl | rfl
                              · rw [eq0]
                                refine ⟨rfl, fun j hj => ?_⟩
                                have hj : j < 12 := hj
                                rcases (show j = 0 ∨ j = 1 ∨ j = 2 ∨ j = 3 ∨ j = 4 ∨ j = 5 ∨ j = 6 ∨ j = 7 ∨ j = 8 ∨ j = 9 ∨ j = 10 ∨ j = 11 by omega) with rfl | rfl | rfl | rfl | rfl | rfl | rfl | rfl | rfl | rfl | rfl | rfl
                                · exact okI rfl i1
                                · exact okI rfl i7
                                · exact okI rfl (iv_w i14 (by decide))
                                · exact okI rfl i21
                                · exact okI rfl i28
                                · exact okI rfl i35
                                · exact okI rfl i42
                                · exact congrArg Value.ref aq1.symm
                                · exact congrArg Value.ref aq2.symm
                                · exact congrArg Value.ref aq3.symm
                                · exact congrArg Value.ref aq4.symm
                                · exact congrArg Value.ref aq5.symm
                              · rw [eq1]
                                refine ⟨rfl, fun j hj => ?_⟩
                                exact okI rfl (by rw [hf0 j hj]; decide)
                              · rw [eq2]
                                refine ⟨rfl, fun j hj => ?_⟩
                                exact okI rfl (by rw [hf1 j hj]; decide)
                              · rw [eq3]
                                refine ⟨rfl, fun j hj => ?_⟩
                                exact okI rfl (by rw [hf2 j hj]; decide)
                              · rw [eq4]
                                refine ⟨rfl, fun j hj => ?_⟩
                                exact okI rfl (by show (_ : Int) ≤ (0 : Int32).toInt ∧ (0 : Int32).toInt ≤ _; decide)
                              · rw [eq5]
                                refine ⟨rfl, fun j hj => ?_⟩
                                exact okI rfl (by show (_ : Int) ≤ (0 : Int32).toInt ∧ (0 : Int32).toInt ≤ _; decide)
                            have hM := k_addW l dC dI cT cf hC ad1 E1 (va_up cf 2 (cf 2 + 1)) 2 (by decide) hG (by omega) [64 * (cf 2 + 1) + 6, 64 * (cf 2 + 1) + 7, 64 * (cf 2 + 1) + 8, 64 * (cf 2 + 1) + 9, 64 * (cf 2 + 1) + 10, 64 * (cf 2 + 1) + 11] ndRace hKM 6 RX5 TX5 12 _ rfl (fun _ => rfl) (List.mem_of_getElem? (i := 2) rfl) eq0 H.size hI1 hnew
                            rw [show ad1 (7 + 2) = ad 9 from haa _ (mF _ rfl), show ad1 (64 * (cf 2 + 1) + lkd 2) = qn from aq0] at hM
                            have hFA := all_free hD2 hS hA
                            refine va_calli (va_runV (As := [.ref qn]) (rest := []) ⟨hx, hb, hml, hown, hts⟩ hM (cwV 1 hts (gi_V (in_11 _ (zs1 (zs1 (zs1 (zs0))))) (in_11 _ (zs4 (zs0))) (in_11 _ (zs4 (zs1 (zs0)))) (in_3 _ (zs16 (zs1 (zs1 (zs0))))) (in_3 _ (zs16 (zs16 (zs0))))) rfl rfl rfl (by decide +kernel) ⟨Nat.le_of_ble_eq_true rfl, Nat.le_of_ble_eq_true rfl⟩) ⟨fun a U g mk q => by obtain ⟨e0, e1, qP, qK, qD, qE⟩ := q; exact ⟨e0, e1, qP, va_K.moved (u := U) (U := U.calling g mk a) (Vm.Alike.refl U.vm) qK, qD, EVC_c qE⟩, va_recv hK hP (ci := 0) (q0 := posL 9 (LC cf)) rfl (hI.ob 9 (mF 9 rfl) rfl), fun U hU hW => ⟨rfl, by rw [hU], by rw [hU]; exact hP2, va_K.moved hW.alike hK, hD2.weaken (fun _ _ _ _ => trivial), EVC_w hU hW hS hFA hEV⟩⟩ rfl rfl hl.1 rfl (lv_room (Nat.le_of_ble_eq_true rfl)) dX12_race_121 ⟨Nat.le_of_ble_eq_true rfl, Nat.le_of_ble_eq_true rfl⟩) hS (fun z _ h => hFA z h) hFA (fun r9 u9 t H1 locs ht hvm hw hB hz1 hk1 hS => ?_)
                            obtain ⟨rfl, hI9, a9, e9⟩ := hw
                            obtain ⟨hP9, hD9⟩ := hB
                            rw [ht] at hP9
                            have hD9 := hD9.weaken (B := A) (fun _ _ _ h => hFA _ h)
                            generalize H1 = H at hP9 hS ⊢
                            obtain ⟨ad9, E9⟩ := u9
                            dsimp only at hI9 a9 e9 hP9 hD9
                            have had9 : ∀ o, o ≠ 13 + 2 → (∀ t, t < 15 → kl t = 2 → o ≠ 64 * (cf 2 + 1) + t) → ad9 o = ad o := fun o h1 h2 => (a9 o h1).trans (by rw [had1, va_up_ne _ _ (h2 11 (by decide) rfl), va_up_ne _ _ (h2 10 (by decide) rfl), va_up_ne _ _ (h2 9 (by decide) rfl), va_up_ne _ _ (h2 8 (by decide) rfl), va_up_ne _ _ (h2 7 (by decide) rfl), va_up_ne _ _ (h2 6 (by decide) rfl)])
                            have hkg : KpG 2 cf w_u_race E E9 := fun o j h1 h2 h3 h4 => by have h5 := hKp o j h4; rw [← h5]; rw [e9 o h1 h2, hE1, va_up_ne _ _ (h3 11 (by decide) rfl), va_up_ne _ _ (h3 10 (by decide) rfl), va_up_ne _ _ (h3 9 (by decide) rfl), va_up_ne _ _ (h3 8 (by decide) rfl), va_up_ne _ _ (h3 7 (by decide) rfl), va_up_ne _ _ (h3 6 (by decide) rfl)]
                            have ob0 : E9 (64 * (cf 2 + 1) + 6) = .inr (6, [.int (xi (E 1) 0), .int a0, .int a1, .int a2, .int a3, .int a4, .int a5, .ref py0, .ref py1, .ref py2, .ref py3, .ref py4]) := (e9 _ (by omega) (by omega)).trans eq0
                            have ob1 : E9 (64 * (cf 2 + 1) + 7) = .inl (cT 0, 16, .inl pf0) := (e9 _ (by omega) (by omega)).trans eq1
                            have ob2 : E9 (64 * (cf 2 + 1) + 8) = .inl (cT 0, 16, .inl pf1) := (e9 _ (by omega) (by omega)).trans eq2
                            have ob3 : E9 (64 * (cf 2 + 1) + 9) = .inl (cT 0, 16, .inl pf2) := (e9 _ (by omega) (by omega)).trans eq3
                            have ob4 : E9 (64 * (cf 2 + 1) + 10) = .inl (cT 0, 16, .inl (fun _ => (0 : Int32))) := (e9 _ (by omega) (by omega)).trans eq4
                            have ob5 : E9 (64 * (cf 2 + 1) + 11) = .inl (cT 0, 401, .inl (fun _ => (0 : Int32))) := (e9 _ (by omega) (by omega)).trans eq5
                            refine lv_pop hx hb dX12_race_124 rfl ?_
                            refine lv_aload_n hx hb dX12_race_125 rfl (lv_at hl 0 rfl) ?_
                            rw [show ad 0 = ad9 0 from (had9 0 (by decide) (fun t h1 h2 => by omega)).symm]
                            refine th_getL (ci := 13) (C := RX12) (T := TX12) (N := 6) (v := .ref (ad9 1)) hx hb hts hinX12 hown hK hP9 hI9 0 (mF 0 rfl) rfl rfl 0 (Nat.le_of_ble_eq_true rfl) (hts _ (vA_in _ _ (in_10 _ (zs16 (zs1 (zs0)))))) (fun _ h9 => h9) (hI9.fr 0 (mF 0 rfl) rfl (Nat.le_of_ble_eq_true rfl) 1 rfl) dX12_race_126 ?_
                            refine th_getL (ci := 1) (C := RX0) (T := TX0) (N := 11) (v := .ref (ad9 9)) hx hb hts hinX0 hown hK hP9 hI9 1 (mF 1 rfl) rfl rfl 5 (Nat.le_of_ble_eq_true rfl) (hts _ (vA_in _ _ (in_14 _ (zs4 (zs1 (zs1 (zs1 (zs0)))))))) (fun _ h9 => h9) (hI9.fr 1 (mF 1 rfl) rfl (Nat.le_of_ble_eq_true rfl) 9 rfl) dX12_race_129 ?_
                            refine th_riL (va_runV (As := []) (rest := []) ⟨hx, hb, hml, hown, hts⟩ (q_size2 l dC dI cT ((va_up cf 2 (cf 2 + 1))) hCn ad9 E9 H.size hI9) (cwV 0 hts (gi_V (in_10 _ (zs16 (zs16 (zs0)))) (in_4 _ (zs16 (zs16 (zs1 (zs1 (zs1 (zs0))))))) (in_4 _ (zs16 (zs16 (zs4 (zs0))))) (in_3 _ (zs16 (zs1 (zs1 (zs0))))) (in_4 _ (zs16 (zs1 (zs1 (zs1 (zs0))))))) rfl rfl rfl ⟨rfl, hz_yJx4a65c_size_8abf5_0⟩ ⟨Nat.le_of_ble_eq_true rfl, Nat.le_of_ble_eq_true rfl⟩) ⟨HWL_bl, va_recv hK hP9 (ci := 0) (q0 := posL 9 (LC (va_up cf 2 (cf 2 + 1)))) rfl (hI9.ob 9 (mF 9 rfl) rfl), HWL_wi hP9 hK hD9 hS hA (by rw [show ((va_up cf 2 (cf 2 + 1))) 6 = cf 6 from hG.2.2.1]; exact hEV)⟩ rfl rfl hl.1 rfl (lv_room (Nat.le_of_ble_eq_true rfl)) dX12_race_132 ⟨Nat.le_of_ble_eq_true rfl, Nat.le_of_ble_eq_true rfl⟩) hS hP9 (fun r8 H locs hw8 hP9 hS => ?_)
                            obtain ⟨i8, t8⟩ := hw8
                            rw [show ((va_up cf 2 (cf 2 + 1))) 2 = cf 2 + 1 from hG.1] at t8
                            refine lv_iconst (v := 1) hx hb dX12_race_135 (by decide) ?_
                            refine lv_isub hx hb dX12_race_136 ?_
                            refine lv_topi (fun y8 e8 => ?_)
                            obtain ⟨ty8, iy8⟩ := ti_sub (e := -1) (f := 300) i8 ln_1 e8 (by decide)
                            have l1 : (1 : Int32).toInt = 1 := rfl
                            rw [hQ]
                            refine W.widen (k := 7) (n := 1117) (by first | exact Nat.le_of_ble_eq_true rfl | omega) (by first | exact Nat.le_of_ble_eq_true rfl | omega) ?_
                            exact W.iret (v := y8) hx hb hr (fun t ht hW => ⟨⟨y8, ((va_up cf 2 (cf 2 + 1)), ad9, E9), rfl, ⟨hCn, hI9, Or.inr ⟨hG, had9, hkg, (by omega), (by omega), by dsimp only; rw [ob0]; exact ⟨rfl, rfl, rfl, rfl, rfl, rfl, rfl⟩, by dsimp only; rw [ob1]; exact hf0, by dsimp only; rw [ob2]; exact hf1, by dsimp only; rw [ob3]; exact hf2, by dsimp only; rw [ob4]; exact fun _ _ => rfl, by dsimp only; rw [ob5]; exact fun _ _ => rfl⟩⟩, by rw [ht]; exact hP9, hD9⟩, hS.F ht⟩) hS.2.2 dX12_race_137
                          · --86 not
                            have t50 : (20 : Int) ≤ r44.toInt := ti_nlt c47
                            have i51 : 20 ≤ r44.toInt ∧ r44.toInt ≤ 20 := iv_le_r t50 (il_ 20) f45 (by decide)
                            refine lv_iconst (v := -1) hx hb dX12_race_89 (by decide) ?_
                            have zm1 := ln_m1
                            rw [hQ]
                            refine W.widen (k := 7) (n := 1117) (by first | exact Nat.le_of_ble_eq_true rfl | omega) (by first | exact Nat.le_of_ble_eq_true rfl | omega) ?_
                            exact W.iret (v := (-1)) hx hb hr (fun t ht hW => ⟨⟨(-1), (cf, ad, E), rfl, ⟨hC, hI, Or.inl ⟨rfl, rfl, hKp, rfl, by omega⟩⟩, by rw [ht]; exact hP, (WL_D hD)⟩, hS.F ht⟩) hS.2.2 dX12_race_90
                        · --69 not
                          exact absurd c43 (by decide)
                      · -- cwithin, case 1
                        obtain ⟨rfl, f52⟩ := hw
                        have t53 : ¬ ((0 : Int) ≤ a5.toInt ∧ a5.toInt ≤ 99) := f52
                        refine lv_if_ne (tgt := 74) hx hb dX12_race_69 (by decide) (fun c54 => ?_) (fun c54 => ?_)
                        · --69 taken
                          exact absurd c54 (by decide)
                        · --69 not
                          refine lv_iconst (v := -1) hx hb dX12_race_72 (by decide) ?_
                          have zm1 := ln_m1
                          rw [hQ]
                          refine W.widen (k := 7) (n := 1117) (by first | exact Nat.le_of_ble_eq_true rfl | omega) (by first | exact Nat.le_of_ble_eq_true rfl | omega) ?_
                          exact W.iret (v := (-1)) hx hb hr (fun t ht hW => ⟨⟨(-1), (cf, ad, E), rfl, ⟨hC, hI, Or.inl ⟨rfl, rfl, hKp, rfl, by omega⟩⟩, by rw [ht]; exact hP, (WL_D hD)⟩, hS.F ht⟩) hS.2.2 dX12_race_73
                  · -- cwithin, case 1
                    obtain ⟨rfl, f55⟩ := hw
                    have t56 : ¬ ((0 : Int) ≤ a4.toInt ∧ a4.toInt ≤ 99) := f55
                    refine lv_if_eq (tgt := 72) hx hb dX12_race_58 (by decide) (fun c57 => ?_) (fun c57 => ?_)
                    · --58 taken
                      refine lv_iconst (v := -1) hx hb dX12_race_72 (by decide) ?_
                      have zm1 := ln_m1
                      rw [hQ]
                      refine W.widen (k := 7) (n := 1117) (by first | exact Nat.le_of_ble_eq_true rfl | omega) (by first | exact Nat.le_of_ble_eq_true rfl | omega) ?_
                      exact W.iret (v := (-1)) hx hb hr (fun t ht hW => ⟨⟨(-1), (cf, ad, E), rfl, ⟨hC, hI, Or.inl ⟨rfl, rfl, hKp, rfl, by omega⟩⟩, by rw [ht]; exact hP, (WL_D hD)⟩, hS.F ht⟩) hS.2.2 dX12_race_73
                    · --58 not
                      exact absurd c57 (by decide)
                · --45 not
                  exact absurd c29 (by decide)
              · -- cwithin, case 1
                obtain ⟨rfl, f58⟩ := hw
                have t59 : ¬ ((0 : Int) ≤ a3.toInt ∧ a3.toInt ≤ 7) := f58
                refine lv_if_ne (tgt := 50) hx hb dX12_race_45 (by decide) (fun c60 => ?_) (fun c60 => ?_)
                · --45 taken
                  exact absurd c60 (by decide)
                · --45 not
                  refine lv_iconst (v := -1) hx hb dX12_race_48 (by decide) ?_
                  have zm1 := ln_m1
                  rw [hQ]
                  refine W.widen (k := 7) (n := 1117) (by first | exact Nat.le_of_ble_eq_true rfl | omega) (by first | exact Nat.le_of_ble_eq_true rfl | omega) ?_
                  exact W.iret (v := (-1)) hx hb hr (fun t ht hW => ⟨⟨(-1), (cf, ad, E), rfl, ⟨hC, hI, Or.inl ⟨rfl, rfl, hKp, rfl, by omega⟩⟩, by rw [ht]; exact hP, (WL_D hD)⟩, hS.F ht⟩) hS.2.2 dX12_race_49
          · -- cwithin, case 1
            obtain ⟨rfl, f61⟩ := hw
            have t62 : ¬ ((0 : Int) ≤ a2.toInt ∧ a2.toInt ≤ 1) := f61
            refine lv_if_eq (tgt := 48) hx hb dX12_race_34 (by decide) (fun c63 => ?_) (fun c63 => ?_)
            · --34 taken
              refine lv_iconst (v := -1) hx hb dX12_race_48 (by decide) ?_
              have zm1 := ln_m1
              rw [hQ]
              refine W.widen (k := 7) (n := 1117) (by first | exact Nat.le_of_ble_eq_true rfl | omega) (by first | exact Nat.le_of_ble_eq_true rfl | omega) ?_
              exact W.iret (v := (-1)) hx hb hr (fun t ht hW => ⟨⟨(-1), (cf, ad, E), rfl, ⟨hC, hI, Or.inl ⟨rfl, rfl, hKp, rfl, by omega⟩⟩, by rw [ht]; exact hP, (WL_D hD)⟩, hS.F ht⟩) hS.2.2 dX12_race_49
            · --34 not
              exact absurd c63 (by decide)
        · --23 not
          exact absurd c15 (by decide)
      · -- cwithin, case 1
        obtain ⟨rfl, f64⟩ := hw
        have t65 : ¬ ((1 : Int) ≤ a1.toInt ∧ a1.toInt ≤ 1000) := f64
        refine lv_if_ne (tgt := 28) hx hb dX12_race_23 (by decide) (fun c66 => ?_) (fun c66 => ?_)
        · --23 taken
          exact absurd c66 (by decide)
        · --23 not
          refine lv_iconst (v := -1) hx hb dX12_race_26 (by decide) ?_
          have zm1 := ln_m1
          rw [hQ]
          refine W.widen (k := 7) (n := 1117) (by first | exact Nat.le_of_ble_eq_true rfl | omega) (by first | exact Nat.le_of_ble_eq_true rfl | omega) ?_
          exact W.iret (v := (-1)) hx hb hr (fun t ht hW => ⟨⟨(-1), (cf, ad, E), rfl, ⟨hC, hI, Or.inl ⟨rfl, rfl, hKp, rfl, by omega⟩⟩, by rw [ht]; exact hP, (WL_D hD)⟩, hS.F ht⟩) hS.2.2 dX12_race_27
  · -- cwithin, case 1
    obtain ⟨rfl, f67⟩ := hw
    have t68 : ¬ ((0 : Int) ≤ a0.toInt ∧ a0.toInt ≤ (xi (E 1) 0).toInt) := f67
    refine lv_if_eq (tgt := 26) hx hb dX12_race_12 (by decide) (fun c69 => ?_) (fun c69 => ?_)
    · --12 taken
      refine lv_iconst (v := -1) hx hb dX12_race_26 (by decide) ?_
      have zm1 := ln_m1
      rw [hQ]
      refine W.widen (k := 7) (n := 1117) (by first | exact Nat.le_of_ble_eq_true rfl | omega) (by first | exact Nat.le_of_ble_eq_true rfl | omega) ?_
      exact W.iret (v := (-1)) hx hb hr (fun t ht hW => ⟨⟨(-1), (cf, ad, E), rfl, ⟨hC, hI, Or.inl ⟨rfl, rfl, hKp, rfl, by omega⟩⟩, by rw [ht]; exact hP, (WL_D hD)⟩, hS.F ht⟩) hS.2.2 dX12_race_27
    · --12 not
      exact absurd c69 (by decide)
section
theorem min_nn2 {n L : Nat} (h : n ≤ L) (hL : L < 2 ^ 31) : (if nI n < nI L then nI n else nI L) = nI n := by
  by_cases q : nI n < nI L
  · rw [if_pos q]
  · rw [if_neg q]
    have h1 : ¬ (nI n).toInt < (nI L).toInt := fun z => q (Int32.lt_iff_toInt_lt.mpr z)
    rw [nI_toInt (by omega), nI_toInt (by omega)] at h1
    rw [show n = L by omega]
def v_k_copyI : List Cond := .code yJ7_copyOf_59c91 cJ7_copyOf_59c91 3 (some (.array .int)) :: vA
abbrev rm_k_copyI : Room := { frames := 2, cells := 1, slots := 640, locals := 80 }
set_option maxHeartbeats 4000000 in
set_option maxRecDepth 100000 in
theorem k_copyI (l : Launch) (dC : Nat → ClassId) (dI : Nat → Nat → Nat) (cA : ClassId) (a n L : Nat) (f : Nat → Int32) (sz : Nat) (hn : n ≤ L) (hL : L ≤ 640) : Met l yJ7_copyOf_59c91 v_k_copyI rm_k_copyI (va_Pc [.ref a, .int (nI n)] (fun U => U.heap.size = sz ∧ va_P (dC, dI) vwCl [(a, .inl (cA, L, .inl f))]  U.heap ∧ va_K (dC, dI) vwCl [(cA, .int)] U ∧ va_D (fun _ => True) [(a, .inl (cA, L, .inl f))] ∧ va_Nw (.castable "[I" "java/lang/Cloneable") U)) (va_Qr (S := Nat → Int32) (fun f' => ∀ j : Nat, j < n → f' j = f j) (fun f' q t => va_P (dC, dI) vwCl [(a, .inl (cA, L, .inl f)), (q, .inl (cA, n, .inl f'))] t.heap ∧ va_D (va_A [(a, .inl (cA, L, .inl f))] sz) [(a, .inl (cA, L, .inl f)), (q, .inl (cA, n, .inl f'))]) (va_A [(a, .inl (cA, L, .inl f))] sz)) 1 640 (va_A [(a, .inl (cA, L, .inl f))] sz) := by
  refine Met.ofW (cc := cJ7_copyOf_59c91) (maxL := 3) (ret := (some (.array .int))) (by decide) rfl ?_
  intro p e s m args below meth c s₁ B hml hv
  obtain ⟨rfl, hsz, hP, hK, hD0, hE⟩ := hv
  have hx := B.exec
  have hb := B.bytes
  have hr := B.returns
  have hts := atoms_spec (ws := v_k_copyI) B.pre
  have hown : s.vm.findClass RJ7 = some m.cls := findClass_of_methodNamed B.named
  have hlocks := B.notSynchronized
  subst hsz
  have hD := hD0.self (sz := s.heap.size)
  generalize hAe : va_A [(a, .inl (cA, L, .inl f))] s.heap.size = A at hD hE ⊢
  have hA : ∀ q : Nat, s.heap.size ≤ q → A q := fun q h => by rw [← hAe]; exact Or.inr h
  have hinJx4a65c : ∀ w ∈ u_ws RJx4a65c TJx4a65c 3, w ∈ v_k_copyI := fun w h => vA_in _ w (in_Jx4a65c w h)
  have hS : va_S A s.heap s.heap [] := va_S.rf
  have hl := lv_entry ([.ref a, .int (nI n)]) (n := 3) (Nat.le_of_ble_eq_true rfl)
  rw [lg_entry_eq]
  generalize (lg_sl ([.ref a, .int (nI n)]) ++ List.replicate (3 - (lg_sl ([.ref a, .int (nI n)])).length) Slot.unset).toArray = ls at hl ⊢
  have hl : lv_has ls 3 [(0, .ref a), (1, .int (nI n))] := hl
  refine lv_iload_n hx hb dJ7_copyOf_59c91_0 rfl (lv_at hl 1 rfl) ?_
  refine lv_aload_n hx hb dJ7_copyOf_59c91_1 rfl (lv_at hl 0 rfl) ?_
  refine va_alen (v := nI L) hx hb hK hP 0 0 rfl rfl rfl dJ7_copyOf_59c91_2 ?_
  refine lv_icmp_ne (tgt := 14) hx hb dJ7_copyOf_59c91_3 (by decide) (fun c1 => ?_) (fun c1 => ?_)
  · refine lv_iload_n hx hb dJ7_copyOf_59c91_14 rfl (lv_at hl 1 rfl) ?_
    refine va_newa (atype := .int) (ty := .int) (N' := n) (a0 := (n, .inl (fun _ => (0 : Int32)))) hx hb (hts _ (vA_in _ _ (in_2 _ (zs16 (zs16 (zs4 (zs1 (zs1 (zs0))))))))) rfl hK hP hD hS hA (fun _ => rfl) (lt_nn (by omega)) (nI_nn (by omega)) (show n * 4 ≤ 536870912 by omega) (Nat.le_of_ble_eq_true rfl) (show 0 + n ≤ 640 by omega) dJ7_copyOf_59c91_15 (fun q kq H hK hP hD hS => ?_)
    have hK : va_K (dC, dI) vwCl [(cA, .int), (kq, .int)] s := hK
    obtain rfl : cA = kq := ub_sa_int hK 0 1 rfl rfl
    have hK := hK.sub (tys' := [(cA, .int)]) [0] rfl
    have hP : va_P (dC, dI) vwCl [(a, .inl (cA, L, .inl f)), (q, .inl (cA, n, .inl (fun _ => (0 : Int32))))] H := hP
    have hD : va_D A [(a, .inl (cA, L, .inl f)), (q, .inl (cA, n, .inl (fun _ => (0 : Int32))))] := hD
    refine W.widen (k := 1) (n := 640) (by first | exact Nat.le_of_ble_eq_true rfl | omega) (by first | exact Nat.le_of_ble_eq_true rfl | omega) ?_
    refine lv_astore_n (lv' := [(2, .ref q), (0, .ref a), (1, .int (nI n))]) hx hb dJ7_copyOf_59c91_17 rfl hl (by decide) rfl (fun ls hl => ?_)
    refine lv_aload_n hx hb dJ7_copyOf_59c91_18 rfl (lv_at hl 1 rfl) ?_
    refine lv_iconst (v := 0) hx hb dJ7_copyOf_59c91_19 (by decide) ?_
    refine lv_aload_n hx hb dJ7_copyOf_59c91_20 rfl (lv_at hl 0 rfl) ?_
    refine lv_iconst (v := 0) hx hb dJ7_copyOf_59c91_21 (by decide) ?_
    refine lv_aload_n hx hb dJ7_copyOf_59c91_22 rfl (lv_at hl 1 rfl) ?_
    refine va_alen (v := nI L) hx hb hK hP 0 0 rfl rfl rfl dJ7_copyOf_59c91_23 ?_
    refine lv_iload_n hx hb dJ7_copyOf_59c91_24 rfl (lv_at hl 2 rfl) ?_
    refine va_mmin hx hb (by rw [hml]; exact hl.1.symm) hown (hts _ (vA_in _ _ (in_2 _ (zs16 (zs4 (zs4 (zs1 (zs1 (zs0))))))))) (hts _ (vA_in _ _ (in_0 _ (zs16 (zs16 (zs4 (zs0))))))) (hts _ (vA_in _ _ (in_0 _ (zs16 (zs16 (zs1 (zs0))))))) (hts _ (vA_in _ _ (in_0 _ (zs16 (zs16 (zs4 (zs1 (zs0)))))))) (Nat.le_of_ble_eq_true rfl) (Nat.le_of_ble_eq_true rfl) (Nat.le_of_ble_eq_true rfl) (Nat.le_of_ble_eq_true rfl) dJ7_copyOf_59c91_25 ?_
    refine lv_topi (fun y ey => ?_)
    obtain rfl : nI n = y := (by rw [ey]; exact (min_nn2 hn (by omega)).symm)
    refine va_copyi (f := f) (g := (fun _ => (0 : Int32))) hx hb (by rw [hml]; exact hl.1.symm) hown (hts _ (vA_in _ _ (in_2 _ (zs16 (zs4 (zs4 (zs1 (zs1 (zs1 (zs0)))))))))) (hts _ (vA_in _ _ (in_2 _ (zs16 (zs4 (zs4 (zs4 (zs0)))))))) (hts _ (vA_in _ _ (in_2 _ (zs16 (zs4 (zs4 (zs4 (zs1 (zs0))))))))) (hts _ (vA_in _ _ (in_2 _ (zs16 (zs4 (zs4 (zs4 (zs1 (zs1 (zs0)))))))))) hK hP hD hS 0 1 0 0 rfl rfl rfl rfl rfl (sp := 0) (dp := 0) (by decide) (by decide) (lt_nn (by omega)) (by rw [nI_nn (by omega)]; show 0 + n ≤ L; omega) (by rw [nI_nn (by omega)]; show 0 + n ≤ n; omega) (fun i hi => rfl) (Nat.le_of_ble_eq_true rfl) (Nat.le_of_ble_eq_true rfl) dJ7_copyOf_59c91_28 (fun H locs hP hD hS => ?_)
    rw [nI_nn (show n < 2 ^ 31 by omega)] at hP hD
    have hP : va_P (dC, dI) vwCl [(a, .inl (cA, L, .inl f)), (q, .inl (cA, n, .inl (va_cpy f (fun _ => (0 : Int32)) 0 0 n)))] H := hP
    have hD : va_D A [(a, .inl (cA, L, .inl f)), (q, .inl (cA, n, .inl (va_cpy f (fun _ => (0 : Int32)) 0 0 n)))] := hD
    refine lv_aload_n hx hb dJ7_copyOf_59c91_31 rfl (lv_at hl 0 rfl) ?_
    exact W.aret (v := .ref q) hx hb hr (Or.inr ⟨_, rfl⟩) (Or.inr ⟨_, rfl⟩) (fun t ht hW => ⟨⟨_, q, rfl, (fun j hj => cpy_nn hj), (by rw [ht]; exact hP), hD⟩, hS.F ht⟩) hS.2.2 dJ7_copyOf_59c91_32
  · have c1 : nI n = nI L := by first | exact c1 | exact Classical.byContradiction c1
    obtain rfl : n = L := by
      have h9 := congrArg Int32.toInt c1
      rw [nI_toInt (by omega), nI_toInt (by omega)] at h9
      omega
    refine lv_aload_n hx hb dJ7_copyOf_59c91_6 rfl (lv_at hl 0 rfl) ?_
    have hnm : s.vm.findClass "[I" = some cA := (hK.2 0 _ rfl).2
    refine va_clone (x := (n, .inl f)) (ty := .int) hx hb (by rw [hml]; exact hl.1.symm) hown (hts _ (vA_in _ _ (in_2 _ (zs16 (zs16 (zs0)))))) (hts _ (vA_in _ _ (in_2 _ (zs16 (zs16 (zs1 (zs0))))))) (hts _ (vA_in _ _ (in_2 _ (zs16 (zs16 (zs1 (zs1 (zs0)))))))) (hts _ (vA_in _ _ (in_2 _ (zs16 (zs16 (zs1 (zs1 (zs1 (zs0))))))))) (hts _ (vA_in _ _ (in_2 _ (zs16 (zs16 (zs4 (zs0))))))) hE hK hP hD hS hA 0 0 rfl rfl hnm (va_fit (fun i hi => rfl)) (Nat.le_of_ble_eq_true rfl) (Nat.le_of_ble_eq_true rfl) (Nat.le_of_ble_eq_true rfl) (show 0 + n ≤ 640 by omega) dJ7_copyOf_59c91_7 (fun q H hK hP hD hS => ?_)
    have hK := hK.sub (tys' := [(cA, .int)]) [0] rfl
    have hP : va_P (dC, dI) vwCl [(a, .inl (cA, n, .inl f)), (q, .inl (cA, n, .inl f))] H := hP
    have hD : va_D A [(a, .inl (cA, n, .inl f)), (q, .inl (cA, n, .inl f))] := hD
    refine W.widen (k := 1) (n := 640) (by omega) (by show 0 + n ≤ 640; omega) ?_
    refine va_castA hx hb hown (hts _ (vA_in _ _ (in_2 _ (zs16 (zs16 (zs4 (zs1 (zs0)))))))) hP 1 rfl hnm dJ7_copyOf_59c91_10 ?_
    exact W.aret (v := .ref q) hx hb hr (Or.inr ⟨_, rfl⟩) (Or.inr ⟨_, rfl⟩) (fun t ht hW => ⟨⟨f, q, rfl, (fun j hj => rfl), (by rw [ht]; exact hP), hD⟩, hS.F ht⟩) hS.2.2 dJ7_copyOf_59c91_13
end
section
theorem nI_ofn {x : Int32} (h : 0 ≤ x.toInt) : x = nI x.toNatClampNeg := by
  apply Int32.toInt_inj.mp
  have h2 := Int32.toInt_lt x
  rw [nI_toInt (by rw [tn_]; omega), tn_]
  omega
theorem one_P {D : va_G} {cl : List vw_C} {X : va_W} {H : Heap} {x : Nat × va_E} (hP : va_P D cl X H) (hx : x ∈ X) : va_P D cl [x] H := va_P_sub hP fun w hw => by rw [List.mem_singleton.mp hw]; exact hx
theorem one_D {A : Nat → Prop} {X : va_W} {x : Nat × va_E} (hD : va_D A X) (hx : x ∈ X) : va_D A [x] := by
  rw [va_D_iff] at hD ⊢
  exact ⟨by simp, fun q hq => by rw [List.mem_singleton.mp hq]; exact hD.2 x hx⟩
theorem one_free {A : Nat → Prop} {X : va_W} {x : Nat × va_E} {H0 H : Heap} {locs : List Loc} (hD : va_D A X) (hx : x ∈ X) (hS : va_S A H0 H locs) (hA : ∀ q, H0.size ≤ q → A q) : ∀ z, va_A [x] H.size z → A z := all_free (one_D hD hx) hS hA
theorem copy_join {A : Nat → Prop} {D : va_G} {cl : List vw_C} {X : va_W} {H H1 : Heap} {x y : Nat × va_E} (hP : va_P D cl X H) (hD : va_D A X) (hx : x ∈ X) (hk : ∀ q : Nat, q < H.size → ¬ va_A [x] H.size q → H1[q]? = H[q]?) (hF : ∀ q, va_A [x] H.size q → A q) (hP1 : va_P D cl [x, y] H1) (hD1 : va_D (va_A [x] H.size) [x, y]) : va_P D cl (y :: X) H1 ∧ va_D A (y :: X) := by
  have hlt : ∀ z ∈ X, z.1 < H.size := fun z hz => by
    obtain ⟨i, hi⟩ := List.getElem?_of_mem hz
    exact (hP i z hi).lt
  have hPn : ∀ z ∈ X, va_P D cl [z] H1 := by
    intro z hz
    by_cases e : z.1 = x.1
    · have h3 : z = x := by
        obtain ⟨i, hi⟩ := List.getElem?_of_mem hz
        obtain ⟨j, hj⟩ := List.getElem?_of_mem hx
        have h4 := hD.1 i j z x hi hj e
        subst h4
        rw [hi] at hj
        exact Option.some.inj hj
      subst h3
      exact one_P hP1 (List.mem_cons_self ..)
    · refine va_P.kept (one_P hP hz) fun k q hq => ?_
      have h5 : q = z := List.mem_singleton.mp (List.mem_of_getElem? hq)
      subst h5
      refine hk q.1 (hlt q hz) ?_
      rintro (⟨k2, e2, h3⟩ | h3)
      · have h6 := List.mem_singleton.mp (List.mem_of_getElem? h3)
        exact e (by rw [← h6])
      · have := hlt q hz
        omega
  refine ⟨fun k q hq => ?_, ?_⟩
  · rcases List.mem_cons.mp (List.mem_of_getElem? hq) with rfl | h
    · exact hP1 1 _ rfl
    · exact hPn q h 0 q rfl
  · rw [va_D_iff] at hD hD1 ⊢
    have hy : va_A [x] H.size y.1 := hD1.2 y (by simp)
    have hxy : x.1 ≠ y.1 := by
      have := hD1.1
      simp at this
      exact this
    refine ⟨?_, fun q hq => ?_⟩
    · rw [List.map_cons, List.nodup_cons]
      refine ⟨fun h => ?_, hD.1⟩
      obtain ⟨z, hz, e⟩ := List.mem_map.mp h
      have h1 := hlt z hz
      rcases hy with ⟨k2, e2, h3⟩ | h3
      · have h6 := List.mem_singleton.mp (List.mem_of_getElem? h3)
        exact hxy (by rw [← h6])
      · have e : z.1 = y.1 := e
        omega
    · rcases List.mem_cons.mp hq with rfl | h
      · exact hF _ hy
      · exact hD.2 q h
def v_x_Rules : List Cond := .code yX7_init cX7_init 7 none :: vA
set_option maxHeartbeats 4000000 in
set_option maxRecDepth 100000 in
theorem x_Rules (l : Launch) (dC : Nat → ClassId) (dI : Nat → Nat → Nat) (q : Nat) (b0 : Int32) (b1 : Int32) (y0 : Nat) (y1 : Nat) (y2 : Nat) (y3 : Nat) (sz : Nat)  : Met l yX7_init v_x_Rules ({ frames := 1, cells := 0, slots := 0, locals := 40 }) (va_Pc [.ref q, .int b0, .int b1, .ref y0, .ref y1, .ref y2, .ref y3] (fun U => U.heap.size = sz ∧ va_P (dC, dI) vwCl [(q, .inr (8, [.int 0, .int 0, .null, .null, .null, .null]))] U.heap ∧ va_K (dC, dI) vwCl [] U ∧ va_D (fun _ => True) [(q, .inr (8, [.int 0, .int 0, .null, .null, .null, .null]))])) (va_Qv (S := Unit) (fun _ => True) (fun u t => va_P (dC, dI) vwCl [(q, .inr (8, [.int b0, .int b1, .ref y0, .ref y1, .ref y2, .ref y3]))] t.heap ∧ va_K (dC, dI) vwCl [] t ∧ va_D (va_A [(q, .inr (8, [.int 0, .int 0, .null, .null, .null, .null]))] sz) [(q, .inr (8, [.int b0, .int b1, .ref y0, .ref y1, .ref y2, .ref y3]))]) (va_A [(q, .inr (8, [.int 0, .int 0, .null, .null, .null, .null]))] sz)) 0 0 (va_A [(q, .inr (8, [.int 0, .int 0, .null, .null, .null, .null]))] sz) := by
  refine Met.ofW (cc := cX7_init) (maxL := 7) (ret := none) (by decide) rfl ?_
  intro p e s m args below meth c s₁ B hml hv
  obtain ⟨rfl, hsz, hP, hK, hD0⟩ := hv
  have hx := B.exec
  have hb := B.bytes
  have hr := B.returns
  have hts := atoms_spec (ws := v_x_Rules) B.pre
  have hown : s.vm.findClass RX7 = some m.cls := findClass_of_methodNamed B.named
  have hlocks := B.notSynchronized
  have hin : meth.name = "<init>" := (name_of_methodNamed B.named B.method).1
  subst hsz
  have hD := hD0.self (sz := s.heap.size)
  generalize hAe : va_A [(q, .inr (8, [.int 0, .int 0, .null, .null, .null, .null]))] s.heap.size = A at hD ⊢
  have hA : ∀ q : Nat, s.heap.size ≤ q → A q := fun q h => by rw [← hAe]; exact Or.inr h
  have hS : va_S A s.heap s.heap [] := va_S.rf
  have hP : va_P (dC, dI) vwCl [(q, .inr (8, [.int 0, .int 0, .null, .null, .null, .null]))] s.heap := hP
  have hl := lv_entry ([.ref q, .int b0, .int b1, .ref y0, .ref y1, .ref y2, .ref y3]) (n := 7) (Nat.le_of_ble_eq_true rfl)
  rw [lg_entry_eq]
  generalize (lg_sl ([.ref q, .int b0, .int b1, .ref y0, .ref y1, .ref y2, .ref y3]) ++ List.replicate (7 - (lg_sl ([.ref q, .int b0, .int b1, .ref y0, .ref y1, .ref y2, .ref y3])).length) Slot.unset).toArray = ls at hl ⊢
  have hl : lv_has ls 7 [(0, .ref q), (1, .int b0), (2, .int b1), (3, .ref y0), (4, .ref y1), (5, .ref y2), (6, .ref y3)] := hl
  refine lv_aload_n hx hb dX7_init_0 rfl (lv_at hl 0 rfl) ?_
  refine W.objInit hx hb hown (hts _ (vA_in _ _ (in_8 _ (zs4 (zs0))))) (hts _ (vA_in _ _ (in_4 _ (zs16 (zs1 (zs0)))))) (hts _ (vA_in _ _ (in_4 _ (zs16 (zs1 (zs1 (zs0))))))) rfl (by rw [hml]; exact hl.1) rfl dX7_init_1 (Nat.le_of_ble_eq_true rfl) (Nat.le_of_ble_eq_true rfl) ?_
  refine W.eq (g2 := F0 m 4 ls []) rfl ?_
  refine lv_aload_n hx hb dX7_init_4 rfl (lv_at hl 0 rfl) ?_
  refine lv_iload_n hx hb dX7_init_5 rfl (lv_at hl 1 rfl) ?_
  refine va_putF (D := (dC, dI)) (ci := 8) (v := .int b0) (ty := .int) (C := RX7) (T := TX7) (N := 6) hx hb hts (fun w h => vA_in _ w (in_X7 w h)) tyX7 tyX7_ok nmX7 hown hK hP hD hS 0 rfl rfl 0 (by decide) (hts _ (vA_in _ _ (in_8 _ (zs4 (zs1 (zs0)))))) (fun _ h9 => h9) rfl hin rfl (by decide +kernel) rfl rfl (Nat.le_of_ble_eq_true rfl) dX7_init_6 (fun H locs hP hD hS => ?_)
  have hP : va_P (dC, dI) vwCl [(q, .inr (8, [.int b0, .int 0, .null, .null, .null, .null]))] H := hP
  have hD : va_D A [(q, .inr (8, [.int b0, .int 0, .null, .null, .null, .null]))] := hD
  refine lv_aload_n hx hb dX7_init_9 rfl (lv_at hl 0 rfl) ?_
  refine lv_iload_n hx hb dX7_init_10 rfl (lv_at hl 2 rfl) ?_
  refine va_putF (D := (dC, dI)) (ci := 8) (v := .int b1) (ty := .int) (C := RX7) (T := TX7) (N := 6) hx hb hts (fun w h => vA_in _ w (in_X7 w h)) tyX7 tyX7_ok nmX7 hown hK hP hD hS 0 rfl rfl 1 (by decide) (hts _ (vA_in _ _ (in_8 _ (zs4 (zs1 (zs1 (zs0))))))) (fun _ h9 => h9) rfl hin rfl (by decide +kernel) rfl rfl (Nat.le_of_ble_eq_true rfl) dX7_init_11 (fun H locs hP hD hS => ?_)
  have hP : va_P (dC, dI) vwCl [(q, .inr (8, [.int b0, .int b1, .null, .null, .null, .null]))] H := hP
  have hD : va_D A [(q, .inr (8, [.int b0, .int b1, .null, .null, .null, .null]))] := hD
  refine lv_aload_n hx hb dX7_init_14 rfl (lv_at hl 0 rfl) ?_
  refine lv_aload_n hx hb dX7_init_15 rfl (lv_at hl 3 rfl) ?_
  refine va_putF (D := (dC, dI)) (ci := 8) (v := .ref y0) (ty := .array .int) (C := RX7) (T := TX7) (N := 6) hx hb hts (fun w h => vA_in _ w (in_X7 w h)) tyX7 tyX7_ok nmX7 hown hK hP hD hS 0 rfl rfl 2 (by decide) (hts _ (vA_in _ _ (in_7 _ (zs4 (zs4 (zs1 (zs1 (zs1 (zs0))))))))) (fun _ h9 => h9) rfl hin rfl (by decide +kernel) rfl rfl (Nat.le_of_ble_eq_true rfl) dX7_init_16 (fun H locs hP hD hS => ?_)
  have hP : va_P (dC, dI) vwCl [(q, .inr (8, [.int b0, .int b1, .ref y0, .null, .null, .null]))] H := hP
  have hD : va_D A [(q, .inr (8, [.int b0, .int b1, .ref y0, .null, .null, .null]))] := hD
  refine lv_aload_n hx hb dX7_init_19 rfl (lv_at hl 0 rfl) ?_
  refine lv_aload hx hb dX7_init_20 (lv_at hl 4 rfl) ?_
  refine va_putF (D := (dC, dI)) (ci := 8) (v := .ref y1) (ty := .array .int) (C := RX7) (T := TX7) (N := 6) hx hb hts (fun w h => vA_in _ w (in_X7 w h)) tyX7 tyX7_ok nmX7 hown hK hP hD hS 0 rfl rfl 3 (by decide) (hts _ (vA_in _ _ (in_7 _ (zs4 (zs0))))) (fun _ h9 => h9) rfl hin rfl (by decide +kernel) rfl rfl (Nat.le_of_ble_eq_true rfl) dX7_init_22 (fun H locs hP hD hS => ?_)
  have hP : va_P (dC, dI) vwCl [(q, .inr (8, [.int b0, .int b1, .ref y0, .ref y1, .null, .null]))] H := hP
  have hD : va_D A [(q, .inr (8, [.int b0, .int b1, .ref y0, .ref y1, .null, .null]))] := hD
  refine lv_aload_n hx hb dX7_init_25 rfl (lv_at hl 0 rfl) ?_
  refine lv_aload hx hb dX7_init_26 (lv_at hl 5 rfl) ?_
  refine va_putF (D := (dC, dI)) (ci := 8) (v := .ref y2) (ty := .array .int) (C := RX7) (T := TX7) (N := 6) hx hb hts (fun w h => vA_in _ w (in_X7 w h)) tyX7 tyX7_ok nmX7 hown hK hP hD hS 0 rfl rfl 4 (by decide) (hts _ (vA_in _ _ (in_7 _ (zs4 (zs1 (zs1 (zs0))))))) (fun _ h9 => h9) rfl hin rfl (by decide +kernel) rfl rfl (Nat.le_of_ble_eq_true rfl) dX7_init_28 (fun H locs hP hD hS => ?_)
  have hP : va_P (dC, dI) vwCl [(q, .inr (8, [.int b0, .int b1, .ref y0, .ref y1, .ref y2, .null]))] H := hP
  have hD : va_D A [(q, .inr (8, [.int b0, .int b1, .ref y0, .ref y1, .ref y2, .null]))] := hD
  refine lv_aload_n hx hb dX7_init_31 rfl (lv_at hl 0 rfl) ?_
  refine lv_aload hx hb dX7_init_32 (lv_at hl 6 rfl) ?_
  refine va_putF (D := (dC, dI)) (ci := 8) (v := .ref y3) (ty := .array .int) (C := RX7) (T := TX7) (N := 6) hx hb hts (fun w h => vA_in _ w (in_X7 w h)) tyX7 tyX7_ok nmX7 hown hK hP hD hS 0 rfl rfl 5 (by decide) (hts _ (vA_in _ _ (in_7 _ (zs4 (zs1 (zs0)))))) (fun _ h9 => h9) rfl hin rfl (by decide +kernel) rfl rfl (Nat.le_of_ble_eq_true rfl) dX7_init_34 (fun H locs hP hD hS => ?_)
  have hP : va_P (dC, dI) vwCl [(q, .inr (8, [.int b0, .int b1, .ref y0, .ref y1, .ref y2, .ref y3]))] H := hP
  have hD : va_D A [(q, .inr (8, [.int b0, .int b1, .ref y0, .ref y1, .ref y2, .ref y3]))] := hD
  have hP9 := hP.sub (ws' := [(q, .inr (8, [.int b0, .int b1, .ref y0, .ref y1, .ref y2, .ref y3]))]) [0] rfl
  have hD9 := hD.sub (ws' := [(q, .inr (8, [.int b0, .int b1, .ref y0, .ref y1, .ref y2, .ref y3]))]) [0] (by decide) rfl
  have hK9 := hK.sub (tys' := []) [] rfl
  exact W.vret hx hb hr (fun t ht hW => ⟨⟨(), rfl, trivial, (by rw [ht]; exact hP9), va_K.moved hW.alike hK9, hD9⟩, hS.F ht⟩) hS.2.2 dX7_init_37
def v_u_asRules : List Cond := .code yX10_asRules cX10_asRules 3 (some (.object "UnlikeBoats$Rules")) :: vA
abbrev rm_u_asRules : Room := { frames := 3, cells := 5, slots := 2566, locals := 120 }
def w_u_asRules : Nat → Nat → Bool := wl [] []
set_option maxHeartbeats 4000000 in
set_option maxRecDepth 100000 in
theorem q_u_asRules (l : Launch) (dC : Nat → ClassId) (dI : Nat → Nat → Nat) (cT : Nat → ClassId) (cf : Nat → Nat) (hC : CF cf) (ad : Nat → Nat) (E : Nat → va_E) (sz : Nat) (a0 : Int32) (a1 : Int32) (hI0 : IXL cT (shC cf) (spC cf) (LC cf) ad E)  : Met l yX10_asRules v_u_asRules rm_u_asRules (va_Pc [.ref (ad 2), .int a0, .int a1] (fun U => (HWL dC dI (TYC cT) cf ad E sz) U ∧ va_Nw (.castable "[I" "java/lang/Cloneable") U)) (va_Qr (S := Nat × Nat × Nat × Nat × (Nat → Int32) × (Nat → Int32) × (Nat → Int32) × (Nat → Int32)) (fun u => (∀ j, j < (xi (E 2) 5).toNatClampNeg → u.2.2.2.2.1 j = xi (E 22) j) ∧ (∀ j, j < (xi (E 2) 9).toNatClampNeg → u.2.2.2.2.2.1 j = xi (E 23) j) ∧ (∀ j, j < (xi (E 2) 9).toNatClampNeg + 1 → u.2.2.2.2.2.2.1 j = xi (E 24) j) ∧ (∀ j, j < (xi (E 2) 9).toNatClampNeg → u.2.2.2.2.2.2.2 j = xi (E 25) j)) (fun u qn t => va_P (dC, dI) vwCl ([(qn, .inr (8, [.int a0, .int a1, .ref u.1, .ref u.2.1, .ref u.2.2.1, .ref u.2.2.2.1])), (u.2.2.2.1, .inl (cT 0, (xi (E 2) 9).toNatClampNeg, .inl u.2.2.2.2.2.2.2)), (u.2.2.1, .inl (cT 0, (xi (E 2) 9).toNatClampNeg + 1, .inl u.2.2.2.2.2.2.1)), (u.2.1, .inl (cT 0, (xi (E 2) 9).toNatClampNeg, .inl u.2.2.2.2.2.1)), (u.1, .inl (cT 0, (xi (E 2) 5).toNatClampNeg, .inl u.2.2.2.2.1))] ++ WL (LC cf) ad E) t.heap ∧ va_D (va_A (WL (LC cf) ad E) sz) ([(qn, .inr (8, [.int a0, .int a1, .ref u.1, .ref u.2.1, .ref u.2.2.1, .ref u.2.2.2.1])), (u.2.2.2.1, .inl (cT 0, (xi (E 2) 9).toNatClampNeg, .inl u.2.2.2.2.2.2.2)), (u.2.2.1, .inl (cT 0, (xi (E 2) 9).toNatClampNeg + 1, .inl u.2.2.2.2.2.2.1)), (u.2.1, .inl (cT 0, (xi (E 2) 9).toNatClampNeg, .inl u.2.2.2.2.2.1)), (u.1, .inl (cT 0, (xi (E 2) 5).toNatClampNeg, .inl u.2.2.2.2.1))] ++ WL (LC cf) ad E)) (va_A (WL (LC cf) ad E) sz)) 5 2566 (va_A (WL (LC cf) ad E) sz) := by
  obtain ⟨⟨hc0, hc1, hc2, hc3, hc4, hc5⟩, hcr⟩ := id hC
  refine Met.ofW (cc := cX10_asRules) (maxL := 3) (ret := (some (.object "UnlikeBoats$Rules"))) (by decide) rfl ?_
  intro p e s m args below meth c s₁ B hml hv
  obtain ⟨hargs, ⟨hsz, hP, hK, hD0, hEV⟩, hCL⟩ := hv
  subst hsz
  have hx := B.exec
  have hb := B.bytes
  have hr := B.returns
  have hts := atoms_spec (ws := v_u_asRules) B.pre
  have hown : s.vm.findClass RX10 = some m.cls := findClass_of_methodNamed B.named
  have hlocks := B.notSynchronized
  have hinX10 : ∀ w ∈ u_ws RX10 TX10 10, w ∈ v_u_asRules := fun w h => vA_in _ w (in_X10 w h)
  have hinX7 : ∀ w ∈ u_ws RX7 TX7 6, w ∈ v_u_asRules := fun w h => vA_in _ w (in_X7 w h)
  generalize hAe : va_A (WL (LC cf) ad E) s.heap.size = A at hEV ⊢
  have hA : ∀ q : Nat, s.heap.size ≤ q → A q := fun q h => by rw [← hAe]; exact Or.inr h
  have hD : va_D A (WL (LC cf) ad E) := by rw [← hAe]; exact hD0.self
  have hS : va_S A s.heap s.heap [] := va_S.rf
  have hI := hI0
  have hKp : Kp w_u_asRules E E := Kp.rf
  have hl := lv_entry ([.ref (ad 2), .int a0, .int a1]) (n := 3) (Nat.le_of_ble_eq_true rfl)
  obtain ⟨Q, hQ⟩ : ∃ Q, Q = MQ below (va_Qr (S := Nat × Nat × Nat × Nat × (Nat → Int32) × (Nat → Int32) × (Nat → Int32) × (Nat → Int32)) (fun u => (∀ j, j < (xi (E 2) 5).toNatClampNeg → u.2.2.2.2.1 j = xi (E 22) j) ∧ (∀ j, j < (xi (E 2) 9).toNatClampNeg → u.2.2.2.2.2.1 j = xi (E 23) j) ∧ (∀ j, j < (xi (E 2) 9).toNatClampNeg + 1 → u.2.2.2.2.2.2.1 j = xi (E 24) j) ∧ (∀ j, j < (xi (E 2) 9).toNatClampNeg → u.2.2.2.2.2.2.2 j = xi (E 25) j)) (fun u qn t => va_P (dC, dI) vwCl ([(qn, .inr (8, [.int a0, .int a1, .ref u.1, .ref u.2.1, .ref u.2.2.1, .ref u.2.2.2.1])), (u.2.2.2.1, .inl (cT 0, (xi (E 2) 9).toNatClampNeg, .inl u.2.2.2.2.2.2.2)), (u.2.2.1, .inl (cT 0, (xi (E 2) 9).toNatClampNeg + 1, .inl u.2.2.2.2.2.2.1)), (u.2.1, .inl (cT 0, (xi (E 2) 9).toNatClampNeg, .inl u.2.2.2.2.2.1)), (u.1, .inl (cT 0, (xi (E 2) 5).toNatClampNeg, .inl u.2.2.2.2.1))] ++ WL (LC cf) ad E) t.heap ∧ va_D A ([(qn, .inr (8, [.int a0, .int a1, .ref u.1, .ref u.2.1, .ref u.2.2.1, .ref u.2.2.2.1])), (u.2.2.2.1, .inl (cT 0, (xi (E 2) 9).toNatClampNeg, .inl u.2.2.2.2.2.2.2)), (u.2.2.1, .inl (cT 0, (xi (E 2) 9).toNatClampNeg + 1, .inl u.2.2.2.2.2.2.1)), (u.2.1, .inl (cT 0, (xi (E 2) 9).toNatClampNeg, .inl u.2.2.2.2.2.1)), (u.1, .inl (cT 0, (xi (E 2) 5).toNatClampNeg, .inl u.2.2.2.2.1))] ++ WL (LC cf) ad E)) (A)) args s 5 2566 (A) := ⟨_, rfl⟩
  rw [← hQ, show entryFrame m args 3 = _ from (congrArg (fun z => entryFrame m z 3) hargs).trans (lg_entry_eq _ _ _)]
  generalize (lg_sl ([.ref (ad 2), .int a0, .int a1]) ++ List.replicate (3 - (lg_sl ([.ref (ad 2), .int a0, .int a1])).length) Slot.unset).toArray = ls at hl ⊢
  have hl : lv_has ls 3 [(0, .ref (ad 2)), (1, .int a0), (2, .int a1)] := hl
  have ins : 0 ≤ (xi (E 2) 5).toInt ∧ (xi (E 2) 5).toInt ≤ 200 := hI0.iv 2 (mF 2 rfl) rfl (Nat.le_of_ble_eq_true rfl) rfl
  obtain ⟨ns, hnse⟩ : ∃ n : Nat, n = (xi (E 2) 5).toNatClampNeg := ⟨_, rfl⟩
  have hns : xi (E 2) 5 = nI ns := by rw [hnse]; exact nI_ofn ins.1
  have hnsb : ns ≤ 200 := by rw [hnse, tn_]; omega
  have inc : 0 ≤ (xi (E 2) 9).toInt ∧ (xi (E 2) 9).toInt ≤ 51 := hI0.iv 2 (mF 2 rfl) rfl (Nat.le_of_ble_eq_true rfl) rfl
  obtain ⟨nc, hnce⟩ : ∃ n : Nat, n = (xi (E 2) 9).toNatClampNeg := ⟨_, rfl⟩
  have hnc : xi (E 2) 9 = nI nc := by rw [hnce]; exact nI_ofn inc.1
  have hncb : nc ≤ 51 := by rw [hnce, tn_]; omega
  rw [← hnse, ← hnce] at hQ
  refine va_new (ci := 8) (fs := [.int 0, .int 0, .null, .null, .null, .null]) (C := RX7) (T := TX7) (N := 6) hx hb hts hinX7 tyX7 tyX7_ok hown (hts _ (vA_in _ _ (in_7 _ (zs16 (zs16 (zs1 (zs0))))))) (hts _ (vA_in _ _ (in_7 _ (zs16 (zs16 (zs1 (zs1 (zs0)))))))) (hts _ (vA_in _ _ (in_7 _ (zs1 (zs1 (zs0)))))) hK hP (WL_D hD) hS hA rfl (fun j hj => by rcases (show j = 0 ∨ j = 1 ∨ j = 2 ∨ j = 3 ∨ j = 4 ∨ j = 5 by omega) with rfl | rfl | rfl | rfl | rfl | rfl <;> rfl) (Nat.le_of_ble_eq_true rfl) (Nat.le_of_ble_eq_true rfl) dX10_asRules_0 (fun qn H hP2 hD2 hS => ?_)
  have hP2 : va_P (dC, dI) vwCl ([(qn, .inr (8, [.int 0, .int 0, .null, .null, .null, .null]))] ++ WL (LC cf) ad E) H := va_P_perm hP2 List.perm_append_comm
  have hD2 : va_D A ([(qn, .inr (8, [.int 0, .int 0, .null, .null, .null, .null]))] ++ WL (LC cf) ad E) := va_D_perm hD2 List.perm_append_comm
  have hP : va_P (dC, dI) vwCl (WL (LC cf) ad E) H := va_P_sub hP2 (fun x hx => List.mem_append_right _ hx)
  refine lv_dup hx hb dX10_asRules_3 rfl ?_
  refine lv_iload_n hx hb dX10_asRules_4 rfl (lv_at hl 1 rfl) ?_
  refine lv_iload_n hx hb dX10_asRules_5 rfl (lv_at hl 2 rfl) ?_
  refine lv_aload_n hx hb dX10_asRules_6 rfl (lv_at hl 0 rfl) ?_
  refine th_getL (ci := 11) (C := RX10) (T := TX10) (N := 10) (v := .ref (ad 22)) hx hb hts hinX10 hown hK hP hI 2 (mF 2 rfl) rfl rfl 4 (Nat.le_of_ble_eq_true rfl) (hts _ (vA_in _ _ (in_7 _ (zs16 (zs4 (zs4 (zs4 (zs1 (zs1 (zs1 (zs0))))))))))) (fun _ h9 => h9) (hI.fr 2 (mF 2 rfl) rfl (Nat.le_of_ble_eq_true rfl) 22 rfl) dX10_asRules_7 ?_
  refine lv_aload_n hx hb dX10_asRules_10 rfl (lv_at hl 0 rfl) ?_
  have i1 : 0 ≤ (xi (E 2) 5).toInt ∧ (xi (E 2) 5).toInt ≤ 200 := hI0.iv 2 (mF 2 rfl) rfl (Nat.le_of_ble_eq_true rfl) rfl
  refine th_getL (ci := 11) (C := RX10) (T := TX10) (N := 10) (v := .int (xi (E 2) 5)) hx hb hts hinX10 hown hK hP hI 2 (mF 2 rfl) rfl rfl 5 (Nat.le_of_ble_eq_true rfl) (hts _ (vA_in _ _ (in_7 _ (zs16 (zs4 (zs4 (zs4 (zs1 (zs1 (zs0)))))))))) (fun _ h9 => h9) (th_v0L hKp hI0 2 (mF 2 rfl) rfl (Nat.le_of_ble_eq_true rfl) rfl rfl) dX10_asRules_11 ?_
  rw [hns]
  have hx9 : ((ad 22, .inl (cT 0, 200, .inl (xi (E 22)))) : Nat × va_E) ∈ WL (LC cf) ad E := List.mem_of_getElem? (hI.ar 22 (mF 22 rfl) rfl)
  have hx8 : ((ad 22, .inl (cT 0, 200, .inl (xi (E 22)))) : Nat × va_E) ∈ [(qn, .inr (8, [.int 0, .int 0, .null, .null, .null, .null]))] ++ WL (LC cf) ad E := List.mem_append_right _ hx9
  have hPc := one_P hP2 hx8
  have hDc := one_D hD2 hx8
  have hFc := one_free hD2 hx8 hS hA
  refine va_callr (va_runS (As := [.ref (ad 22), .int (nI ns)]) (rest := [.int a1, .int a0, .ref qn, .ref qn]) ⟨hx, hb, hml, hown, hts⟩ (k_copyI l dC dI (cT 0) (ad 22) ns 200 (xi (E 22)) H.size (by omega) (by omega)) (va_cwS 2 hts (gi_S (in_7 _ (zs16 (zs16 (zs4 (zs1 (zs1 (zs1 (zs0)))))))) (in_8 _ zs0) (in_2 _ (zs16 (zs4 (zs1 (zs1 (zs0)))))) (in_2 _ (zs16 (zs4 (zs4 (zs4 (zs1 (zs1 (zs1 (zs0)))))))))) rfl rfl rfl hz_yJ7_copyOf_59c91_2 ⟨Nat.le_of_ble_eq_true rfl, Nat.le_of_ble_eq_true rfl⟩) ⟨fun a U g mk q => by obtain ⟨e0, e1, qP, qK, qD, qE⟩ := q; exact ⟨e0, e1, qP, va_K.moved (u := U) (U := U.calling g mk a) (Vm.Alike.refl U.vm) qK, qD, va_Nw.same (u := U) (U := U.calling g mk a) rfl rfl qE⟩, fun U hU hW => ⟨rfl, by rw [hU], by rw [hU]; exact hPc, va_K.moved hW.alike (hK.sub (tys' := [(cT 0, .int)]) [0] rfl), hDc.weaken (fun _ _ _ _ => trivial), va_Nw.warmC hW hCL⟩⟩ rfl rfl hl.1 rfl (lv_room (Nat.le_of_ble_eq_true rfl)) dX10_asRules_14 ⟨Nat.le_of_ble_eq_true rfl, Nat.le_of_ble_eq_true rfl⟩) hS (fun q _ h => hFc q h) hFc (fun f0 y0 t H1 locs ht hvm hw hB hz1 hk1 hS => ?_)
  have hf0 : ∀ j : Nat, j < ns → f0 j = xi (E 22) j := hw
  obtain ⟨hP1, hD1⟩ := hB
  rw [ht] at hP1
  obtain ⟨hP2, hD2⟩ := copy_join hP2 hD2 hx8 hk1 hFc hP1 hD1
  generalize H1 = H at hP2 hS ⊢
  have hP2 : va_P (dC, dI) vwCl ([(qn, .inr (8, [.int 0, .int 0, .null, .null, .null, .null])), (y0, .inl (cT 0, ns, .inl f0))] ++ WL (LC cf) ad E) H := va_P_perm hP2 (List.Perm.swap _ _ _)
  have hD2 : va_D A ([(qn, .inr (8, [.int 0, .int 0, .null, .null, .null, .null])), (y0, .inl (cT 0, ns, .inl f0))] ++ WL (LC cf) ad E) := va_D_perm hD2 (List.Perm.swap _ _ _)
  have hP : va_P (dC, dI) vwCl (WL (LC cf) ad E) H := va_P_sub hP2 (fun x hx => List.mem_append_right _ hx)
  refine lv_aload_n hx hb dX10_asRules_17 rfl (lv_at hl 0 rfl) ?_
  refine th_getL (ci := 11) (C := RX10) (T := TX10) (N := 10) (v := .ref (ad 23)) hx hb hts hinX10 hown hK hP hI 2 (mF 2 rfl) rfl rfl 6 (Nat.le_of_ble_eq_true rfl) (hts _ (vA_in _ _ (in_7 _ (zs16 (zs16 (zs1 (zs1 (zs1 (zs0))))))))) (fun _ h9 => h9) (hI.fr 2 (mF 2 rfl) rfl (Nat.le_of_ble_eq_true rfl) 23 rfl) dX10_asRules_18 ?_
  refine lv_aload_n hx hb dX10_asRules_21 rfl (lv_at hl 0 rfl) ?_
  have i2 : 0 ≤ (xi (E 2) 9).toInt ∧ (xi (E 2) 9).toInt ≤ 51 := hI0.iv 2 (mF 2 rfl) rfl (Nat.le_of_ble_eq_true rfl) rfl
  refine th_getL (ci := 11) (C := RX10) (T := TX10) (N := 10) (v := .int (xi (E 2) 9)) hx hb hts hinX10 hown hK hP hI 2 (mF 2 rfl) rfl rfl 9 (Nat.le_of_ble_eq_true rfl) (hts _ (vA_in _ _ (in_7 _ (zs16 (zs16 (zs4 (zs0))))))) (fun _ h9 => h9) (th_v0L hKp hI0 2 (mF 2 rfl) rfl (Nat.le_of_ble_eq_true rfl) rfl rfl) dX10_asRules_22 ?_
  rw [hnc]
  have hx9 : ((ad 23, .inl (cT 0, 51, .inl (xi (E 23)))) : Nat × va_E) ∈ WL (LC cf) ad E := List.mem_of_getElem? (hI.ar 23 (mF 23 rfl) rfl)
  have hx8 : ((ad 23, .inl (cT 0, 51, .inl (xi (E 23)))) : Nat × va_E) ∈ [(qn, .inr (8, [.int 0, .int 0, .null, .null, .null, .null])), (y0, .inl (cT 0, ns, .inl f0))] ++ WL (LC cf) ad E := List.mem_append_right _ hx9
  have hPc := one_P hP2 hx8
  have hDc := one_D hD2 hx8
  have hFc := one_free hD2 hx8 hS hA
  refine va_callr (va_runS (As := [.ref (ad 23), .int (nI nc)]) (rest := [.ref y0, .int a1, .int a0, .ref qn, .ref qn]) ⟨hx, hb, hml, hown, hts⟩ (k_copyI l dC dI (cT 0) (ad 23) nc 51 (xi (E 23)) H.size (by omega) (by omega)) (va_cwS 2 hts (gi_S (in_7 _ (zs16 (zs16 (zs4 (zs1 (zs1 (zs1 (zs0)))))))) (in_8 _ zs0) (in_2 _ (zs16 (zs4 (zs1 (zs1 (zs0)))))) (in_2 _ (zs16 (zs4 (zs4 (zs4 (zs1 (zs1 (zs1 (zs0)))))))))) rfl rfl rfl hz_yJ7_copyOf_59c91_2 ⟨Nat.le_of_ble_eq_true rfl, Nat.le_of_ble_eq_true rfl⟩) ⟨fun a U g mk q => by obtain ⟨e0, e1, qP, qK, qD, qE⟩ := q; exact ⟨e0, e1, qP, va_K.moved (u := U) (U := U.calling g mk a) (Vm.Alike.refl U.vm) qK, qD, va_Nw.same (u := U) (U := U.calling g mk a) rfl rfl qE⟩, fun U hU hW => ⟨rfl, by rw [hU], by rw [hU]; exact hPc, va_K.moved hW.alike (hK.sub (tys' := [(cT 0, .int)]) [0] rfl), hDc.weaken (fun _ _ _ _ => trivial), va_Nw.warmC hW hCL⟩⟩ rfl rfl hl.1 rfl (lv_room (Nat.le_of_ble_eq_true rfl)) dX10_asRules_25 ⟨Nat.le_of_ble_eq_true rfl, Nat.le_of_ble_eq_true rfl⟩) hS (fun q _ h => hFc q h) hFc (fun f1 y1 t H1 locs ht hvm hw hB hz1 hk1 hS => ?_)
  have hf1 : ∀ j : Nat, j < nc → f1 j = xi (E 23) j := hw
  obtain ⟨hP1, hD1⟩ := hB
  rw [ht] at hP1
  obtain ⟨hP2, hD2⟩ := copy_join hP2 hD2 hx8 hk1 hFc hP1 hD1
  generalize H1 = H at hP2 hS ⊢
  have hP2 : va_P (dC, dI) vwCl ([(qn, .inr (8, [.int 0, .int 0, .null, .null, .null, .null])), (y1, .inl (cT 0, nc, .inl f1)), (y0, .inl (cT 0, ns, .inl f0))] ++ WL (LC cf) ad E) H := va_P_perm hP2 (List.Perm.swap _ _ _)
  have hD2 : va_D A ([(qn, .inr (8, [.int 0, .int 0, .null, .null, .null, .null])), (y1, .inl (cT 0, nc, .inl f1)), (y0, .inl (cT 0, ns, .inl f0))] ++ WL (LC cf) ad E) := va_D_perm hD2 (List.Perm.swap _ _ _)
  have hP : va_P (dC, dI) vwCl (WL (LC cf) ad E) H := va_P_sub hP2 (fun x hx => List.mem_append_right _ hx)
  refine lv_aload_n hx hb dX10_asRules_28 rfl (lv_at hl 0 rfl) ?_
  refine th_getL (ci := 11) (C := RX10) (T := TX10) (N := 10) (v := .ref (ad 24)) hx hb hts hinX10 hown hK hP hI 2 (mF 2 rfl) rfl rfl 7 (Nat.le_of_ble_eq_true rfl) (hts _ (vA_in _ _ (in_7 _ (zs16 (zs16 (zs4 (zs1 (zs0)))))))) (fun _ h9 => h9) (hI.fr 2 (mF 2 rfl) rfl (Nat.le_of_ble_eq_true rfl) 24 rfl) dX10_asRules_29 ?_
  refine lv_aload_n hx hb dX10_asRules_32 rfl (lv_at hl 0 rfl) ?_
  refine th_getL (ci := 11) (C := RX10) (T := TX10) (N := 10) (v := .int (xi (E 2) 9)) hx hb hts hinX10 hown hK hP hI 2 (mF 2 rfl) rfl rfl 9 (Nat.le_of_ble_eq_true rfl) (hts _ (vA_in _ _ (in_7 _ (zs16 (zs16 (zs4 (zs0))))))) (fun _ h9 => h9) (th_v0L hKp hI0 2 (mF 2 rfl) rfl (Nat.le_of_ble_eq_true rfl) rfl rfl) dX10_asRules_33 ?_
  refine lv_iconst (v := 1) hx hb dX10_asRules_36 (by decide) ?_
  refine lv_iadd hx hb dX10_asRules_37 ?_
  refine lv_topi (fun y3 ey3 => ?_)
  obtain ⟨ty3, iy3⟩ := ti_add (e := 1) (f := 52) i2 ln_1 ey3 (by decide)
  have ty3 : y3.toInt = (xi (E 2) 9).toInt + 1 := ty3
  have iy3 : 1 ≤ y3.toInt ∧ y3.toInt ≤ 52 := iy3
  have hy9 : y3 = nI (nc + 1) := by apply Int32.toInt_inj.mp; have h8 : (xi (E 2) 9).toInt = ((nc : Nat) : Int) := by { rw [hnc]; exact nI_toInt (by omega) }; have l1 : (1 : Int32).toInt = 1 := rfl; rw [nI_toInt (by omega)]; omega
  rw [hy9]
  have hx9 : ((ad 24, .inl (cT 0, 52, .inl (xi (E 24)))) : Nat × va_E) ∈ WL (LC cf) ad E := List.mem_of_getElem? (hI.ar 24 (mF 24 rfl) rfl)
  have hx8 : ((ad 24, .inl (cT 0, 52, .inl (xi (E 24)))) : Nat × va_E) ∈ [(qn, .inr (8, [.int 0, .int 0, .null, .null, .null, .null])), (y1, .inl (cT 0, nc, .inl f1)), (y0, .inl (cT 0, ns, .inl f0))] ++ WL (LC cf) ad E := List.mem_append_right _ hx9
  have hPc := one_P hP2 hx8
  have hDc := one_D hD2 hx8
  have hFc := one_free hD2 hx8 hS hA
  refine va_callr (va_runS (As := [.ref (ad 24), .int (nI (nc + 1))]) (rest := [.ref y1, .ref y0, .int a1, .int a0, .ref qn, .ref qn]) ⟨hx, hb, hml, hown, hts⟩ (k_copyI l dC dI (cT 0) (ad 24) (nc + 1) 52 (xi (E 24)) H.size (by omega) (by omega)) (va_cwS 2 hts (gi_S (in_7 _ (zs16 (zs16 (zs4 (zs1 (zs1 (zs1 (zs0)))))))) (in_8 _ zs0) (in_2 _ (zs16 (zs4 (zs1 (zs1 (zs0)))))) (in_2 _ (zs16 (zs4 (zs4 (zs4 (zs1 (zs1 (zs1 (zs0)))))))))) rfl rfl rfl hz_yJ7_copyOf_59c91_2 ⟨Nat.le_of_ble_eq_true rfl, Nat.le_of_ble_eq_true rfl⟩) ⟨fun a U g mk q => by obtain ⟨e0, e1, qP, qK, qD, qE⟩ := q; exact ⟨e0, e1, qP, va_K.moved (u := U) (U := U.calling g mk a) (Vm.Alike.refl U.vm) qK, qD, va_Nw.same (u := U) (U := U.calling g mk a) rfl rfl qE⟩, fun U hU hW => ⟨rfl, by rw [hU], by rw [hU]; exact hPc, va_K.moved hW.alike (hK.sub (tys' := [(cT 0, .int)]) [0] rfl), hDc.weaken (fun _ _ _ _ => trivial), va_Nw.warmC hW hCL⟩⟩ rfl rfl hl.1 rfl (lv_room (Nat.le_of_ble_eq_true rfl)) dX10_asRules_38 ⟨Nat.le_of_ble_eq_true rfl, Nat.le_of_ble_eq_true rfl⟩) hS (fun q _ h => hFc q h) hFc (fun f2 y2 t H1 locs ht hvm hw hB hz1 hk1 hS => ?_)
  have hf2 : ∀ j : Nat, j < nc + 1 → f2 j = xi (E 24) j := hw
  obtain ⟨hP1, hD1⟩ := hB
  rw [ht] at hP1
  obtain ⟨hP2, hD2⟩ := copy_join hP2 hD2 hx8 hk1 hFc hP1 hD1
  generalize H1 = H at hP2 hS ⊢
  have hP2 : va_P (dC, dI) vwCl ([(qn, .inr (8, [.int 0, .int 0, .null, .null, .null, .null])), (y2, .inl (cT 0, nc + 1, .inl f2)), (y1, .inl (cT 0, nc, .inl f1)), (y0, .inl (cT 0, ns, .inl f0))] ++ WL (LC cf) ad E) H := va_P_perm hP2 (List.Perm.swap _ _ _)
  have hD2 : va_D A ([(qn, .inr (8, [.int 0, .int 0, .null, .null, .null, .null])), (y2, .inl (cT 0, nc + 1, .inl f2)), (y1, .inl (cT 0, nc, .inl f1)), (y0, .inl (cT 0, ns, .inl f0))] ++ WL (LC cf) ad E) := va_D_perm hD2 (List.Perm.swap _ _ _)
  have hP : va_P (dC, dI) vwCl (WL (LC cf) ad E) H := va_P_sub hP2 (fun x hx => List.mem_append_right _ hx)
  refine lv_aload_n hx hb dX10_asRules_41 rfl (lv_at hl 0 rfl) ?_
  refine th_getL (ci := 11) (C := RX10) (T := TX10) (N := 10) (v := .ref (ad 25)) hx hb hts hinX10 hown hK hP hI 2 (mF 2 rfl) rfl rfl 8 (Nat.le_of_ble_eq_true rfl) (hts _ (vA_in _ _ (in_7 _ (zs16 (zs16 (zs4 (zs1 (zs1 (zs0))))))))) (fun _ h9 => h9) (hI.fr 2 (mF 2 rfl) rfl (Nat.le_of_ble_eq_true rfl) 25 rfl) dX10_asRules_42 ?_
  refine lv_aload_n hx hb dX10_asRules_45 rfl (lv_at hl 0 rfl) ?_
  refine th_getL (ci := 11) (C := RX10) (T := TX10) (N := 10) (v := .int (xi (E 2) 9)) hx hb hts hinX10 hown hK hP hI 2 (mF 2 rfl) rfl rfl 9 (Nat.le_of_ble_eq_true rfl) (hts _ (vA_in _ _ (in_7 _ (zs16 (zs16 (zs4 (zs0))))))) (fun _ h9 => h9) (th_v0L hKp hI0 2 (mF 2 rfl) rfl (Nat.le_of_ble_eq_true rfl) rfl rfl) dX10_asRules_46 ?_
  rw [hnc]
  have hx9 : ((ad 25, .inl (cT 0, 51, .inl (xi (E 25)))) : Nat × va_E) ∈ WL (LC cf) ad E := List.mem_of_getElem? (hI.ar 25 (mF 25 rfl) rfl)
  have hx8 : ((ad 25, .inl (cT 0, 51, .inl (xi (E 25)))) : Nat × va_E) ∈ [(qn, .inr (8, [.int 0, .int 0, .null, .null, .null, .null])), (y2, .inl (cT 0, nc + 1, .inl f2)), (y1, .inl (cT 0, nc, .inl f1)), (y0, .inl (cT 0, ns, .inl f0))] ++ WL (LC cf) ad E := List.mem_append_right _ hx9
  have hPc := one_P hP2 hx8
  have hDc := one_D hD2 hx8
  have hFc := one_free hD2 hx8 hS hA
  refine va_callr (va_runS (As := [.ref (ad 25), .int (nI nc)]) (rest := [.ref y2, .ref y1, .ref y0, .int a1, .int a0, .ref qn, .ref qn]) ⟨hx, hb, hml, hown, hts⟩ (k_copyI l dC dI (cT 0) (ad 25) nc 51 (xi (E 25)) H.size (by omega) (by omega)) (va_cwS 2 hts (gi_S (in_7 _ (zs16 (zs16 (zs4 (zs1 (zs1 (zs1 (zs0)))))))) (in_8 _ zs0) (in_2 _ (zs16 (zs4 (zs1 (zs1 (zs0)))))) (in_2 _ (zs16 (zs4 (zs4 (zs4 (zs1 (zs1 (zs1 (zs0)))))))))) rfl rfl rfl hz_yJ7_copyOf_59c91_2 ⟨Nat.le_of_ble_eq_true rfl, Nat.le_of_ble_eq_true rfl⟩) ⟨fun a U g mk q => by obtain ⟨e0, e1, qP, qK, qD, qE⟩ := q; exact ⟨e0, e1, qP, va_K.moved (u := U) (U := U.calling g mk a) (Vm.Alike.refl U.vm) qK, qD, va_Nw.same (u := U) (U := U.calling g mk a) rfl rfl qE⟩, fun U hU hW => ⟨rfl, by rw [hU], by rw [hU]; exact hPc, va_K.moved hW.alike (hK.sub (tys' := [(cT 0, .int)]) [0] rfl), hDc.weaken (fun _ _ _ _ => trivial), va_Nw.warmC hW hCL⟩⟩ rfl rfl hl.1 rfl (lv_room (Nat.le_of_ble_eq_true rfl)) dX10_asRules_49 ⟨Nat.le_of_ble_eq_true rfl, Nat.le_of_ble_eq_true rfl⟩) hS (fun q _ h => hFc q h) hFc (fun f3 y3 t H1 locs ht hvm hw hB hz1 hk1 hS => ?_)
  have hf3 : ∀ j : Nat, j < nc → f3 j = xi (E 25) j := hw
  obtain ⟨hP1, hD1⟩ := hB
  rw [ht] at hP1
  obtain ⟨hP2, hD2⟩ := copy_join hP2 hD2 hx8 hk1 hFc hP1 hD1
  generalize H1 = H at hP2 hS ⊢
  have hP2 : va_P (dC, dI) vwCl ([(qn, .inr (8, [.int 0, .int 0, .null, .null, .null, .null])), (y3, .inl (cT 0, nc, .inl f3)), (y2, .inl (cT 0, nc + 1, .inl f2)), (y1, .inl (cT 0, nc, .inl f1)), (y0, .inl (cT 0, ns, .inl f0))] ++ WL (LC cf) ad E) H := va_P_perm hP2 (List.Perm.swap _ _ _)
  have hD2 : va_D A ([(qn, .inr (8, [.int 0, .int 0, .null, .null, .null, .null])), (y3, .inl (cT 0, nc, .inl f3)), (y2, .inl (cT 0, nc + 1, .inl f2)), (y1, .inl (cT 0, nc, .inl f1)), (y0, .inl (cT 0, ns, .inl f0))] ++ WL (LC cf) ad E) := va_D_perm hD2 (List.Perm.swap _ _ _)
  have hP : va_P (dC, dI) vwCl (WL (LC cf) ad E) H := va_P_sub hP2 (fun x hx => List.mem_append_right _ hx)
  have hPc := va_P_sub (ws' := [(qn, .inr (8, [.int 0, .int 0, .null, .null, .null, .null]))]) hP2 (fun x hx => List.mem_append_left _ (by rw [List.mem_singleton.mp hx]; exact List.mem_cons_self ..))
  have hx8 : ((qn, .inr (8, [.int 0, .int 0, .null, .null, .null, .null])) : Nat × va_E) ∈ [(qn, .inr (8, [.int 0, .int 0, .null, .null, .null, .null])), (y3, .inl (cT 0, nc, .inl f3)), (y2, .inl (cT 0, nc + 1, .inl f2)), (y1, .inl (cT 0, nc, .inl f1)), (y0, .inl (cT 0, ns, .inl f0))] ++ WL (LC cf) ad E := List.mem_cons_self ..
  have hDc := one_D hD2 hx8
  have hFc := one_free hD2 hx8 hS hA
  refine va_callv (va_runI (As := [.int a0, .int a1, .ref y0, .ref y1, .ref y2, .ref y3]) (rest := [.ref qn]) ⟨hx, hb, hml, hown, hts⟩ (x_Rules l dC dI qn a0 a1 y0 y1 y2 y3 H.size) (cwI 6 hts (gi_0 (in_8 _ (zs1 (zs1 (zs1 (zs0)))))) rfl rfl rfl (hts _ (vA_in _ _ (in_7 _ (zs1 (zs1 (zs0)))))) (hts _ (vA_in _ _ (in_8 _ (zs1 (zs0))))) (hts _ (vA_in _ _ (in_8 _ (zs1 (zs1 (zs0)))))) rfl hz_yX7_init_6 ⟨Nat.le_of_ble_eq_true rfl, Nat.le_of_ble_eq_true rfl⟩) ⟨fun a U g mk q => by obtain ⟨e0, e1, qP, qK, qD⟩ := q; exact ⟨e0, e1, qP, va_K.moved (u := U) (U := U.calling g mk a) (Vm.Alike.refl U.vm) qK, qD⟩, fun U hU hW => ⟨rfl, by rw [hU], by rw [hU]; exact hPc, va_K.moved hW.alike (hK.sub (tys' := []) [] rfl), hDc.weaken (fun _ _ _ _ => trivial)⟩⟩ rfl rfl hl.1 rfl (lv_room (Nat.le_of_ble_eq_true rfl)) dX10_asRules_52 ⟨Nat.le_of_ble_eq_true rfl, Nat.le_of_ble_eq_true rfl⟩) hS (fun z _ h => hFc z h) hFc (fun u1 t H1 locs ht hvm hw hB hz1 hk1 hS => ?_)
  obtain ⟨hP1, -, hD1⟩ := hB
  rw [ht] at hP1
  obtain ⟨hP2, hD2⟩ := va_joinQ (X := [(qn, .inr (8, [.int 0, .int 0, .null, .null, .null, .null]))]) (pl := [(y3, .inl (cT 0, nc, .inl f3)), (y2, .inl (cT 0, nc + 1, .inl f2)), (y1, .inl (cT 0, nc, .inl f1)), (y0, .inl (cT 0, ns, .inl f0))] ++ WL (LC cf) ad E) (wr := []) hP2 hD2 [0] [] rfl rfl rfl (fun _ h => nomatch h) hk1 hFc hP1 hD1
  have hP2 : va_P (dC, dI) vwCl ([(qn, .inr (8, [.int a0, .int a1, .ref y0, .ref y1, .ref y2, .ref y3])), (y3, .inl (cT 0, nc, .inl f3)), (y2, .inl (cT 0, nc + 1, .inl f2)), (y1, .inl (cT 0, nc, .inl f1)), (y0, .inl (cT 0, ns, .inl f0))] ++ WL (LC cf) ad E) H1 := hP2
  have hD2 : va_D A ([(qn, .inr (8, [.int a0, .int a1, .ref y0, .ref y1, .ref y2, .ref y3])), (y3, .inl (cT 0, nc, .inl f3)), (y2, .inl (cT 0, nc + 1, .inl f2)), (y1, .inl (cT 0, nc, .inl f1)), (y0, .inl (cT 0, ns, .inl f0))] ++ WL (LC cf) ad E) := hD2
  generalize H1 = H at hP2 hS ⊢
  rw [hQ]
  refine W.widen (k := 5) (n := 2566) (by first | exact Nat.le_of_ble_eq_true rfl | omega) (by first | exact Nat.le_of_ble_eq_true rfl | omega) ?_
  exact W.aret (v := .ref qn) hx hb hr (Or.inl ⟨_, rfl⟩) (Or.inr ⟨_, rfl⟩) (fun t ht hW => ⟨⟨(y0, y1, y2, y3, f0, f1, f2, f3), qn, rfl, ⟨hf0, hf1, hf2, hf3⟩, (by rw [ht]; exact hP2), hD2⟩, hS.F ht⟩) hS.2.2 dX10_asRules_55
end

