def tyJx4a65c : Nat → FieldType := fun k => match k with
  | 0 => .int
  | 1 => .array (.object "java/lang/Object")
  | _ => .int
theorem nmJx4a65c : ∀ a, a < 3 → ∀ b, b < 3 → a ≠ b → (TJx4a65c a).2.1 ≠ (TJx4a65c b).2.1 := by decide +kernel
theorem tyJx4a65c_ok : ∀ k, k < 3 → parseFieldDescriptor (TJx4a65c k).2.2.1 = some (tyJx4a65c k) := by decide +kernel
set_option maxRecDepth 100000 in
theorem zh_dJx4a65c_grow_92f84_0_0 : zc cJx4a65c_grow_92f84 0 [42, 180, 0, 9, 190, 61, 28, 157, 0, 13, 42, 180, 0, 9, 178, 0] = true := by decide +kernel
set_option maxRecDepth 100000 in
theorem zh_dJx4a65c_grow_92f84_14_16 : zc cJx4a65c_grow_92f84 16 [39, 165, 0, 28, 28, 27, 28, 100, 28, 4, 122, 184, 0, 73, 62, 42] = true := by decide +kernel
set_option maxRecDepth 100000 in
theorem zh_dJx4a65c_grow_92f84_32_32 : zc cJx4a65c_grow_92f84 32 [42, 180, 0, 9, 29, 184, 0, 66, 90, 181, 0, 9, 176, 42, 16, 10] = true := by decide +kernel
set_option maxRecDepth 100000 in
theorem zh_dJx4a65c_grow_92f84_48_48 : zc cJx4a65c_grow_92f84 48 [27, 184, 0, 79, 189, 0, 7, 90, 181, 0, 9, 176] = true := by decide +kernel
set_option maxRecDepth 100000 in
theorem zh_dJx4a65c_grow_d5877_0_0 : zc cJx4a65c_grow_d5877 0 [42, 42, 180, 0, 48, 4, 96, 182, 0, 69, 176] = true := by decide +kernel
set_option maxRecDepth 100000 in
theorem zh_dJx4a65c_add_72be8_0_0 : zc cJx4a65c_add_72be8 0 [29, 44, 190, 160, 0, 8, 42, 182, 0, 129, 77, 44, 29, 43, 83, 42] = true := by decide +kernel
set_option maxRecDepth 100000 in
theorem zh_dJx4a65c_add_72be8_16_16 : zc cJx4a65c_add_72be8 16 [29, 4, 96, 181, 0, 48, 177] = true := by decide +kernel
set_option maxRecDepth 100000 in
theorem zh_dJx4a65c_add_9ea2d_0_0 : zc cJx4a65c_add_9ea2d 0 [42, 89, 180, 0, 63, 4, 96, 181, 0, 63, 42, 43, 42, 180, 0, 9] = true := by decide +kernel
set_option maxRecDepth 100000 in
theorem zh_dJx4a65c_add_9ea2d_16_16 : zc cJx4a65c_add_9ea2d 16 [42, 180, 0, 48, 182, 0, 131, 4, 172] = true := by decide +kernel
set_option maxRecDepth 100000 in
theorem zh_dJ7_copyOf_1904c_0_0 : zc cJ7_copyOf_1904c 0 [42, 27, 42, 182, 0, 86, 184, 1, 44, 176] = true := by decide +kernel
set_option maxRecDepth 100000 in
theorem zh_dJ7_copyOf_6403c_0_0 : zc cJ7_copyOf_6403c 0 [44, 18, 110, 166, 0, 10, 27, 189, 0, 2, 167, 0, 14, 44, 182, 0] = true := by decide +kernel
set_option maxRecDepth 100000 in
theorem zh_dJ7_copyOf_6403c_24_16 : zc cJ7_copyOf_6403c 16 [90, 27, 184, 0, 95, 192, 0, 110, 78, 42, 3, 45, 3, 42, 190, 27] = true := by decide +kernel
set_option maxRecDepth 100000 in
theorem zh_dJ7_copyOf_6403c_32_32 : zc cJ7_copyOf_6403c 32 [184, 1, 48, 184, 0, 150, 45, 176] = true := by decide +kernel
set_option maxRecDepth 100000 in
theorem zh_dJ8_newLength_cabcc_0_0 : zc cJ8_newLength_cabcc 0 [26, 27, 28, 184, 0, 194, 96, 62, 3, 29, 162, 0, 11, 29, 18, 200] = true := by decide +kernel
set_option maxRecDepth 100000 in
theorem zh_dJ8_newLength_cabcc_16_16 : zc cJ8_newLength_cabcc 16 [163, 0, 5, 29, 172, 26, 27, 184, 0, 201, 172] = true := by decide +kernel
theorem dJx4a65c_grow_92f84_0 : decode cJx4a65c_grow_92f84 0 = .ok (.aload_n 0, 1) := zo_42 (zi_at zh_dJx4a65c_grow_92f84_0_0 0 rfl)
theorem dJx4a65c_grow_92f84_1 : decode cJx4a65c_grow_92f84 1 = .ok (.getfield 9, 3) := zo_180 (zi_at zh_dJx4a65c_grow_92f84_0_0 1 rfl) (zi_at zh_dJx4a65c_grow_92f84_0_0 2 rfl) (zi_at zh_dJx4a65c_grow_92f84_0_0 3 rfl) rfl
theorem dJx4a65c_grow_92f84_4 : decode cJx4a65c_grow_92f84 4 = .ok (.arraylength, 1) := zo_190 (zi_at zh_dJx4a65c_grow_92f84_0_0 4 rfl)
theorem dJx4a65c_grow_92f84_5 : decode cJx4a65c_grow_92f84 5 = .ok (.istore_n 2, 1) := zo_61 (zi_at zh_dJx4a65c_grow_92f84_0_0 5 rfl)
theorem dJx4a65c_grow_92f84_6 : decode cJx4a65c_grow_92f84 6 = .ok (.iload_n 2, 1) := zo_28 (zi_at zh_dJx4a65c_grow_92f84_0_0 6 rfl)
theorem dJx4a65c_grow_92f84_7 : decode cJx4a65c_grow_92f84 7 = .ok (.ifCond .gt 13, 3) := zo_157 (zi_at zh_dJx4a65c_grow_92f84_0_0 7 rfl) (zi_at zh_dJx4a65c_grow_92f84_0_0 8 rfl) (zi_at zh_dJx4a65c_grow_92f84_0_0 9 rfl) rfl
theorem dJx4a65c_grow_92f84_10 : decode cJx4a65c_grow_92f84 10 = .ok (.aload_n 0, 1) := zo_42 (zi_at zh_dJx4a65c_grow_92f84_0_0 10 rfl)
theorem dJx4a65c_grow_92f84_11 : decode cJx4a65c_grow_92f84 11 = .ok (.getfield 9, 3) := zo_180 (zi_at zh_dJx4a65c_grow_92f84_0_0 11 rfl) (zi_at zh_dJx4a65c_grow_92f84_0_0 12 rfl) (zi_at zh_dJx4a65c_grow_92f84_0_0 13 rfl) rfl
theorem dJx4a65c_grow_92f84_14 : decode cJx4a65c_grow_92f84 14 = .ok (.getstatic 39, 3) := zo_178 (zi_at zh_dJx4a65c_grow_92f84_0_0 14 rfl) (zi_at zh_dJx4a65c_grow_92f84_0_0 15 rfl) (zi_at zh_dJx4a65c_grow_92f84_14_16 0 rfl) rfl
theorem dJx4a65c_grow_92f84_17 : decode cJx4a65c_grow_92f84 17 = .ok (.if_acmp .eq 28, 3) := zo_165 (zi_at zh_dJx4a65c_grow_92f84_14_16 1 rfl) (zi_at zh_dJx4a65c_grow_92f84_14_16 2 rfl) (zi_at zh_dJx4a65c_grow_92f84_14_16 3 rfl) rfl
theorem dJx4a65c_grow_92f84_20 : decode cJx4a65c_grow_92f84 20 = .ok (.iload_n 2, 1) := zo_28 (zi_at zh_dJx4a65c_grow_92f84_14_16 4 rfl)
theorem dJx4a65c_grow_92f84_21 : decode cJx4a65c_grow_92f84 21 = .ok (.iload_n 1, 1) := zo_27 (zi_at zh_dJx4a65c_grow_92f84_14_16 5 rfl)
theorem dJx4a65c_grow_92f84_22 : decode cJx4a65c_grow_92f84 22 = .ok (.iload_n 2, 1) := zo_28 (zi_at zh_dJx4a65c_grow_92f84_14_16 6 rfl)
theorem dJx4a65c_grow_92f84_23 : decode cJx4a65c_grow_92f84 23 = .ok (.isub, 1) := zo_100 (zi_at zh_dJx4a65c_grow_92f84_14_16 7 rfl)
theorem dJx4a65c_grow_92f84_24 : decode cJx4a65c_grow_92f84 24 = .ok (.iload_n 2, 1) := zo_28 (zi_at zh_dJx4a65c_grow_92f84_14_16 8 rfl)
theorem dJx4a65c_grow_92f84_25 : decode cJx4a65c_grow_92f84 25 = .ok (.iconst 1, 1) := zo_4 (zi_at zh_dJx4a65c_grow_92f84_14_16 9 rfl)
theorem dJx4a65c_grow_92f84_26 : decode cJx4a65c_grow_92f84 26 = .ok (.ishr, 1) := zo_122 (zi_at zh_dJx4a65c_grow_92f84_14_16 10 rfl)
theorem dJx4a65c_grow_92f84_27 : decode cJx4a65c_grow_92f84 27 = .ok (.invokestatic 73, 3) := zo_184 (zi_at zh_dJx4a65c_grow_92f84_14_16 11 rfl) (zi_at zh_dJx4a65c_grow_92f84_14_16 12 rfl) (zi_at zh_dJx4a65c_grow_92f84_14_16 13 rfl) rfl
theorem dJx4a65c_grow_92f84_30 : decode cJx4a65c_grow_92f84 30 = .ok (.istore_n 3, 1) := zo_62 (zi_at zh_dJx4a65c_grow_92f84_14_16 14 rfl)
theorem dJx4a65c_grow_92f84_31 : decode cJx4a65c_grow_92f84 31 = .ok (.aload_n 0, 1) := zo_42 (zi_at zh_dJx4a65c_grow_92f84_14_16 15 rfl)
theorem dJx4a65c_grow_92f84_32 : decode cJx4a65c_grow_92f84 32 = .ok (.aload_n 0, 1) := zo_42 (zi_at zh_dJx4a65c_grow_92f84_32_32 0 rfl)
theorem dJx4a65c_grow_92f84_33 : decode cJx4a65c_grow_92f84 33 = .ok (.getfield 9, 3) := zo_180 (zi_at zh_dJx4a65c_grow_92f84_32_32 1 rfl) (zi_at zh_dJx4a65c_grow_92f84_32_32 2 rfl) (zi_at zh_dJx4a65c_grow_92f84_32_32 3 rfl) rfl
theorem dJx4a65c_grow_92f84_36 : decode cJx4a65c_grow_92f84 36 = .ok (.iload_n 3, 1) := zo_29 (zi_at zh_dJx4a65c_grow_92f84_32_32 4 rfl)
theorem dJx4a65c_grow_92f84_37 : decode cJx4a65c_grow_92f84 37 = .ok (.invokestatic 66, 3) := zo_184 (zi_at zh_dJx4a65c_grow_92f84_32_32 5 rfl) (zi_at zh_dJx4a65c_grow_92f84_32_32 6 rfl) (zi_at zh_dJx4a65c_grow_92f84_32_32 7 rfl) rfl
theorem dJx4a65c_grow_92f84_40 : decode cJx4a65c_grow_92f84 40 = .ok (.dup_x1, 1) := zo_90 (zi_at zh_dJx4a65c_grow_92f84_32_32 8 rfl)
theorem dJx4a65c_grow_92f84_41 : decode cJx4a65c_grow_92f84 41 = .ok (.putfield 9, 3) := zo_181 (zi_at zh_dJx4a65c_grow_92f84_32_32 9 rfl) (zi_at zh_dJx4a65c_grow_92f84_32_32 10 rfl) (zi_at zh_dJx4a65c_grow_92f84_32_32 11 rfl) rfl
theorem dJx4a65c_grow_92f84_44 : decode cJx4a65c_grow_92f84 44 = .ok (.areturn, 1) := zo_176 (zi_at zh_dJx4a65c_grow_92f84_32_32 12 rfl)
theorem dJx4a65c_grow_92f84_45 : decode cJx4a65c_grow_92f84 45 = .ok (.aload_n 0, 1) := zo_42 (zi_at zh_dJx4a65c_grow_92f84_32_32 13 rfl)
theorem dJx4a65c_grow_92f84_46 : decode cJx4a65c_grow_92f84 46 = .ok (.bipush 10, 2) := zo_16 (zi_at zh_dJx4a65c_grow_92f84_32_32 14 rfl) (zi_at zh_dJx4a65c_grow_92f84_32_32 15 rfl) rfl
theorem dJx4a65c_grow_92f84_48 : decode cJx4a65c_grow_92f84 48 = .ok (.iload_n 1, 1) := zo_27 (zi_at zh_dJx4a65c_grow_92f84_48_48 0 rfl)
theorem dJx4a65c_grow_92f84_49 : decode cJx4a65c_grow_92f84 49 = .ok (.invokestatic 79, 3) := zo_184 (zi_at zh_dJx4a65c_grow_92f84_48_48 1 rfl) (zi_at zh_dJx4a65c_grow_92f84_48_48 2 rfl) (zi_at zh_dJx4a65c_grow_92f84_48_48 3 rfl) rfl
theorem dJx4a65c_grow_92f84_52 : decode cJx4a65c_grow_92f84 52 = .ok (.anewarray 7, 3) := zo_189 (zi_at zh_dJx4a65c_grow_92f84_48_48 4 rfl) (zi_at zh_dJx4a65c_grow_92f84_48_48 5 rfl) (zi_at zh_dJx4a65c_grow_92f84_48_48 6 rfl) rfl
theorem dJx4a65c_grow_92f84_55 : decode cJx4a65c_grow_92f84 55 = .ok (.dup_x1, 1) := zo_90 (zi_at zh_dJx4a65c_grow_92f84_48_48 7 rfl)
theorem dJx4a65c_grow_92f84_56 : decode cJx4a65c_grow_92f84 56 = .ok (.putfield 9, 3) := zo_181 (zi_at zh_dJx4a65c_grow_92f84_48_48 8 rfl) (zi_at zh_dJx4a65c_grow_92f84_48_48 9 rfl) (zi_at zh_dJx4a65c_grow_92f84_48_48 10 rfl) rfl
theorem dJx4a65c_grow_92f84_59 : decode cJx4a65c_grow_92f84 59 = .ok (.areturn, 1) := zo_176 (zi_at zh_dJx4a65c_grow_92f84_48_48 11 rfl)
theorem dJx4a65c_grow_d5877_0 : decode cJx4a65c_grow_d5877 0 = .ok (.aload_n 0, 1) := zo_42 (zi_at zh_dJx4a65c_grow_d5877_0_0 0 rfl)
theorem dJx4a65c_grow_d5877_1 : decode cJx4a65c_grow_d5877 1 = .ok (.aload_n 0, 1) := zo_42 (zi_at zh_dJx4a65c_grow_d5877_0_0 1 rfl)
theorem dJx4a65c_grow_d5877_2 : decode cJx4a65c_grow_d5877 2 = .ok (.getfield 48, 3) := zo_180 (zi_at zh_dJx4a65c_grow_d5877_0_0 2 rfl) (zi_at zh_dJx4a65c_grow_d5877_0_0 3 rfl) (zi_at zh_dJx4a65c_grow_d5877_0_0 4 rfl) rfl
theorem dJx4a65c_grow_d5877_5 : decode cJx4a65c_grow_d5877 5 = .ok (.iconst 1, 1) := zo_4 (zi_at zh_dJx4a65c_grow_d5877_0_0 5 rfl)
theorem dJx4a65c_grow_d5877_6 : decode cJx4a65c_grow_d5877 6 = .ok (.iadd, 1) := zo_96 (zi_at zh_dJx4a65c_grow_d5877_0_0 6 rfl)
theorem dJx4a65c_grow_d5877_7 : decode cJx4a65c_grow_d5877 7 = .ok (.invokevirtual 69, 3) := zo_182 (zi_at zh_dJx4a65c_grow_d5877_0_0 7 rfl) (zi_at zh_dJx4a65c_grow_d5877_0_0 8 rfl) (zi_at zh_dJx4a65c_grow_d5877_0_0 9 rfl) rfl
theorem dJx4a65c_grow_d5877_10 : decode cJx4a65c_grow_d5877 10 = .ok (.areturn, 1) := zo_176 (zi_at zh_dJx4a65c_grow_d5877_0_0 10 rfl)
theorem dJx4a65c_add_72be8_0 : decode cJx4a65c_add_72be8 0 = .ok (.iload_n 3, 1) := zo_29 (zi_at zh_dJx4a65c_add_72be8_0_0 0 rfl)
theorem dJx4a65c_add_72be8_1 : decode cJx4a65c_add_72be8 1 = .ok (.aload_n 2, 1) := zo_44 (zi_at zh_dJx4a65c_add_72be8_0_0 1 rfl)
theorem dJx4a65c_add_72be8_2 : decode cJx4a65c_add_72be8 2 = .ok (.arraylength, 1) := zo_190 (zi_at zh_dJx4a65c_add_72be8_0_0 2 rfl)
theorem dJx4a65c_add_72be8_3 : decode cJx4a65c_add_72be8 3 = .ok (.if_icmp .ne 8, 3) := zo_160 (zi_at zh_dJx4a65c_add_72be8_0_0 3 rfl) (zi_at zh_dJx4a65c_add_72be8_0_0 4 rfl) (zi_at zh_dJx4a65c_add_72be8_0_0 5 rfl) rfl
theorem dJx4a65c_add_72be8_6 : decode cJx4a65c_add_72be8 6 = .ok (.aload_n 0, 1) := zo_42 (zi_at zh_dJx4a65c_add_72be8_0_0 6 rfl)
theorem dJx4a65c_add_72be8_7 : decode cJx4a65c_add_72be8 7 = .ok (.invokevirtual 129, 3) := zo_182 (zi_at zh_dJx4a65c_add_72be8_0_0 7 rfl) (zi_at zh_dJx4a65c_add_72be8_0_0 8 rfl) (zi_at zh_dJx4a65c_add_72be8_0_0 9 rfl) rfl
theorem dJx4a65c_add_72be8_10 : decode cJx4a65c_add_72be8 10 = .ok (.astore_n 2, 1) := zo_77 (zi_at zh_dJx4a65c_add_72be8_0_0 10 rfl)
theorem dJx4a65c_add_72be8_11 : decode cJx4a65c_add_72be8 11 = .ok (.aload_n 2, 1) := zo_44 (zi_at zh_dJx4a65c_add_72be8_0_0 11 rfl)
theorem dJx4a65c_add_72be8_12 : decode cJx4a65c_add_72be8 12 = .ok (.iload_n 3, 1) := zo_29 (zi_at zh_dJx4a65c_add_72be8_0_0 12 rfl)
theorem dJx4a65c_add_72be8_13 : decode cJx4a65c_add_72be8 13 = .ok (.aload_n 1, 1) := zo_43 (zi_at zh_dJx4a65c_add_72be8_0_0 13 rfl)
theorem dJx4a65c_add_72be8_14 : decode cJx4a65c_add_72be8 14 = .ok (.aastore, 1) := zo_83 (zi_at zh_dJx4a65c_add_72be8_0_0 14 rfl)
theorem dJx4a65c_add_72be8_15 : decode cJx4a65c_add_72be8 15 = .ok (.aload_n 0, 1) := zo_42 (zi_at zh_dJx4a65c_add_72be8_0_0 15 rfl)
theorem dJx4a65c_add_72be8_16 : decode cJx4a65c_add_72be8 16 = .ok (.iload_n 3, 1) := zo_29 (zi_at zh_dJx4a65c_add_72be8_16_16 0 rfl)
theorem dJx4a65c_add_72be8_17 : decode cJx4a65c_add_72be8 17 = .ok (.iconst 1, 1) := zo_4 (zi_at zh_dJx4a65c_add_72be8_16_16 1 rfl)
theorem dJx4a65c_add_72be8_18 : decode cJx4a65c_add_72be8 18 = .ok (.iadd, 1) := zo_96 (zi_at zh_dJx4a65c_add_72be8_16_16 2 rfl)
theorem dJx4a65c_add_72be8_19 : decode cJx4a65c_add_72be8 19 = .ok (.putfield 48, 3) := zo_181 (zi_at zh_dJx4a65c_add_72be8_16_16 3 rfl) (zi_at zh_dJx4a65c_add_72be8_16_16 4 rfl) (zi_at zh_dJx4a65c_add_72be8_16_16 5 rfl) rfl
theorem dJx4a65c_add_72be8_22 : decode cJx4a65c_add_72be8 22 = .ok (.return_, 1) := zo_177 (zi_at zh_dJx4a65c_add_72be8_16_16 6 rfl)
theorem dJx4a65c_add_9ea2d_0 : decode cJx4a65c_add_9ea2d 0 = .ok (.aload_n 0, 1) := zo_42 (zi_at zh_dJx4a65c_add_9ea2d_0_0 0 rfl)
theorem dJx4a65c_add_9ea2d_1 : decode cJx4a65c_add_9ea2d 1 = .ok (.dup, 1) := zo_89 (zi_at zh_dJx4a65c_add_9ea2d_0_0 1 rfl)
theorem dJx4a65c_add_9ea2d_2 : decode cJx4a65c_add_9ea2d 2 = .ok (.getfield 63, 3) := zo_180 (zi_at zh_dJx4a65c_add_9ea2d_0_0 2 rfl) (zi_at zh_dJx4a65c_add_9ea2d_0_0 3 rfl) (zi_at zh_dJx4a65c_add_9ea2d_0_0 4 rfl) rfl
theorem dJx4a65c_add_9ea2d_5 : decode cJx4a65c_add_9ea2d 5 = .ok (.iconst 1, 1) := zo_4 (zi_at zh_dJx4a65c_add_9ea2d_0_0 5 rfl)
theorem dJx4a65c_add_9ea2d_6 : decode cJx4a65c_add_9ea2d 6 = .ok (.iadd, 1) := zo_96 (zi_at zh_dJx4a65c_add_9ea2d_0_0 6 rfl)
theorem dJx4a65c_add_9ea2d_7 : decode cJx4a65c_add_9ea2d 7 = .ok (.putfield 63, 3) := zo_181 (zi_at zh_dJx4a65c_add_9ea2d_0_0 7 rfl) (zi_at zh_dJx4a65c_add_9ea2d_0_0 8 rfl) (zi_at zh_dJx4a65c_add_9ea2d_0_0 9 rfl) rfl
theorem dJx4a65c_add_9ea2d_10 : decode cJx4a65c_add_9ea2d 10 = .ok (.aload_n 0, 1) := zo_42 (zi_at zh_dJx4a65c_add_9ea2d_0_0 10 rfl)
theorem dJx4a65c_add_9ea2d_11 : decode cJx4a65c_add_9ea2d 11 = .ok (.aload_n 1, 1) := zo_43 (zi_at zh_dJx4a65c_add_9ea2d_0_0 11 rfl)
theorem dJx4a65c_add_9ea2d_12 : decode cJx4a65c_add_9ea2d 12 = .ok (.aload_n 0, 1) := zo_42 (zi_at zh_dJx4a65c_add_9ea2d_0_0 12 rfl)
theorem dJx4a65c_add_9ea2d_13 : decode cJx4a65c_add_9ea2d 13 = .ok (.getfield 9, 3) := zo_180 (zi_at zh_dJx4a65c_add_9ea2d_0_0 13 rfl) (zi_at zh_dJx4a65c_add_9ea2d_0_0 14 rfl) (zi_at zh_dJx4a65c_add_9ea2d_0_0 15 rfl) rfl
theorem dJx4a65c_add_9ea2d_16 : decode cJx4a65c_add_9ea2d 16 = .ok (.aload_n 0, 1) := zo_42 (zi_at zh_dJx4a65c_add_9ea2d_16_16 0 rfl)
theorem dJx4a65c_add_9ea2d_17 : decode cJx4a65c_add_9ea2d 17 = .ok (.getfield 48, 3) := zo_180 (zi_at zh_dJx4a65c_add_9ea2d_16_16 1 rfl) (zi_at zh_dJx4a65c_add_9ea2d_16_16 2 rfl) (zi_at zh_dJx4a65c_add_9ea2d_16_16 3 rfl) rfl
theorem dJx4a65c_add_9ea2d_20 : decode cJx4a65c_add_9ea2d 20 = .ok (.invokevirtual 131, 3) := zo_182 (zi_at zh_dJx4a65c_add_9ea2d_16_16 4 rfl) (zi_at zh_dJx4a65c_add_9ea2d_16_16 5 rfl) (zi_at zh_dJx4a65c_add_9ea2d_16_16 6 rfl) rfl
theorem dJx4a65c_add_9ea2d_23 : decode cJx4a65c_add_9ea2d 23 = .ok (.iconst 1, 1) := zo_4 (zi_at zh_dJx4a65c_add_9ea2d_16_16 7 rfl)
theorem dJx4a65c_add_9ea2d_24 : decode cJx4a65c_add_9ea2d 24 = .ok (.ireturn, 1) := zo_172 (zi_at zh_dJx4a65c_add_9ea2d_16_16 8 rfl)
theorem dJ7_copyOf_1904c_0 : decode cJ7_copyOf_1904c 0 = .ok (.aload_n 0, 1) := zo_42 (zi_at zh_dJ7_copyOf_1904c_0_0 0 rfl)
theorem dJ7_copyOf_1904c_1 : decode cJ7_copyOf_1904c 1 = .ok (.iload_n 1, 1) := zo_27 (zi_at zh_dJ7_copyOf_1904c_0_0 1 rfl)
theorem dJ7_copyOf_1904c_2 : decode cJ7_copyOf_1904c 2 = .ok (.aload_n 0, 1) := zo_42 (zi_at zh_dJ7_copyOf_1904c_0_0 2 rfl)
theorem dJ7_copyOf_1904c_3 : decode cJ7_copyOf_1904c 3 = .ok (.invokevirtual 86, 3) := zo_182 (zi_at zh_dJ7_copyOf_1904c_0_0 3 rfl) (zi_at zh_dJ7_copyOf_1904c_0_0 4 rfl) (zi_at zh_dJ7_copyOf_1904c_0_0 5 rfl) rfl
theorem dJ7_copyOf_1904c_6 : decode cJ7_copyOf_1904c 6 = .ok (.invokestatic 300, 3) := zo_184 (zi_at zh_dJ7_copyOf_1904c_0_0 6 rfl) (zi_at zh_dJ7_copyOf_1904c_0_0 7 rfl) (zi_at zh_dJ7_copyOf_1904c_0_0 8 rfl) rfl
theorem dJ7_copyOf_1904c_9 : decode cJ7_copyOf_1904c 9 = .ok (.areturn, 1) := zo_176 (zi_at zh_dJ7_copyOf_1904c_0_0 9 rfl)
theorem dJ7_copyOf_6403c_0 : decode cJ7_copyOf_6403c 0 = .ok (.aload_n 2, 1) := zo_44 (zi_at zh_dJ7_copyOf_6403c_0_0 0 rfl)
theorem dJ7_copyOf_6403c_1 : decode cJ7_copyOf_6403c 1 = .ok (.ldc 110, 2) := zo_18 (zi_at zh_dJ7_copyOf_6403c_0_0 1 rfl) (zi_at zh_dJ7_copyOf_6403c_0_0 2 rfl)
theorem dJ7_copyOf_6403c_3 : decode cJ7_copyOf_6403c 3 = .ok (.if_acmp .ne 10, 3) := zo_166 (zi_at zh_dJ7_copyOf_6403c_0_0 3 rfl) (zi_at zh_dJ7_copyOf_6403c_0_0 4 rfl) (zi_at zh_dJ7_copyOf_6403c_0_0 5 rfl) rfl
theorem dJ7_copyOf_6403c_6 : decode cJ7_copyOf_6403c 6 = .ok (.iload_n 1, 1) := zo_27 (zi_at zh_dJ7_copyOf_6403c_0_0 6 rfl)
theorem dJ7_copyOf_6403c_7 : decode cJ7_copyOf_6403c 7 = .ok (.anewarray 2, 3) := zo_189 (zi_at zh_dJ7_copyOf_6403c_0_0 7 rfl) (zi_at zh_dJ7_copyOf_6403c_0_0 8 rfl) (zi_at zh_dJ7_copyOf_6403c_0_0 9 rfl) rfl
theorem dJ7_copyOf_6403c_10 : decode cJ7_copyOf_6403c 10 = .ok (.goto 14, 3) := zo_167 (zi_at zh_dJ7_copyOf_6403c_0_0 10 rfl) (zi_at zh_dJ7_copyOf_6403c_0_0 11 rfl) (zi_at zh_dJ7_copyOf_6403c_0_0 12 rfl) rfl
theorem dJ7_copyOf_6403c_24 : decode cJ7_copyOf_6403c 24 = .ok (.astore_n 3, 1) := zo_78 (zi_at zh_dJ7_copyOf_6403c_24_16 8 rfl)
theorem dJ7_copyOf_6403c_25 : decode cJ7_copyOf_6403c 25 = .ok (.aload_n 0, 1) := zo_42 (zi_at zh_dJ7_copyOf_6403c_24_16 9 rfl)
theorem dJ7_copyOf_6403c_26 : decode cJ7_copyOf_6403c 26 = .ok (.iconst 0, 1) := zo_3 (zi_at zh_dJ7_copyOf_6403c_24_16 10 rfl)
theorem dJ7_copyOf_6403c_27 : decode cJ7_copyOf_6403c 27 = .ok (.aload_n 3, 1) := zo_45 (zi_at zh_dJ7_copyOf_6403c_24_16 11 rfl)
theorem dJ7_copyOf_6403c_28 : decode cJ7_copyOf_6403c 28 = .ok (.iconst 0, 1) := zo_3 (zi_at zh_dJ7_copyOf_6403c_24_16 12 rfl)
theorem dJ7_copyOf_6403c_29 : decode cJ7_copyOf_6403c 29 = .ok (.aload_n 0, 1) := zo_42 (zi_at zh_dJ7_copyOf_6403c_24_16 13 rfl)
theorem dJ7_copyOf_6403c_30 : decode cJ7_copyOf_6403c 30 = .ok (.arraylength, 1) := zo_190 (zi_at zh_dJ7_copyOf_6403c_24_16 14 rfl)
theorem dJ7_copyOf_6403c_31 : decode cJ7_copyOf_6403c 31 = .ok (.iload_n 1, 1) := zo_27 (zi_at zh_dJ7_copyOf_6403c_24_16 15 rfl)
theorem dJ7_copyOf_6403c_32 : decode cJ7_copyOf_6403c 32 = .ok (.invokestatic 304, 3) := zo_184 (zi_at zh_dJ7_copyOf_6403c_32_32 0 rfl) (zi_at zh_dJ7_copyOf_6403c_32_32 1 rfl) (zi_at zh_dJ7_copyOf_6403c_32_32 2 rfl) rfl
theorem dJ7_copyOf_6403c_35 : decode cJ7_copyOf_6403c 35 = .ok (.invokestatic 150, 3) := zo_184 (zi_at zh_dJ7_copyOf_6403c_32_32 3 rfl) (zi_at zh_dJ7_copyOf_6403c_32_32 4 rfl) (zi_at zh_dJ7_copyOf_6403c_32_32 5 rfl) rfl
theorem dJ7_copyOf_6403c_38 : decode cJ7_copyOf_6403c 38 = .ok (.aload_n 3, 1) := zo_45 (zi_at zh_dJ7_copyOf_6403c_32_32 6 rfl)
theorem dJ7_copyOf_6403c_39 : decode cJ7_copyOf_6403c 39 = .ok (.areturn, 1) := zo_176 (zi_at zh_dJ7_copyOf_6403c_32_32 7 rfl)
theorem dJ8_newLength_cabcc_0 : decode cJ8_newLength_cabcc 0 = .ok (.iload_n 0, 1) := zo_26 (zi_at zh_dJ8_newLength_cabcc_0_0 0 rfl)
theorem dJ8_newLength_cabcc_1 : decode cJ8_newLength_cabcc 1 = .ok (.iload_n 1, 1) := zo_27 (zi_at zh_dJ8_newLength_cabcc_0_0 1 rfl)
theorem dJ8_newLength_cabcc_2 : decode cJ8_newLength_cabcc 2 = .ok (.iload_n 2, 1) := zo_28 (zi_at zh_dJ8_newLength_cabcc_0_0 2 rfl)
theorem dJ8_newLength_cabcc_3 : decode cJ8_newLength_cabcc 3 = .ok (.invokestatic 194, 3) := zo_184 (zi_at zh_dJ8_newLength_cabcc_0_0 3 rfl) (zi_at zh_dJ8_newLength_cabcc_0_0 4 rfl) (zi_at zh_dJ8_newLength_cabcc_0_0 5 rfl) rfl
theorem dJ8_newLength_cabcc_6 : decode cJ8_newLength_cabcc 6 = .ok (.iadd, 1) := zo_96 (zi_at zh_dJ8_newLength_cabcc_0_0 6 rfl)
theorem dJ8_newLength_cabcc_7 : decode cJ8_newLength_cabcc 7 = .ok (.istore_n 3, 1) := zo_62 (zi_at zh_dJ8_newLength_cabcc_0_0 7 rfl)
theorem dJ8_newLength_cabcc_8 : decode cJ8_newLength_cabcc 8 = .ok (.iconst 0, 1) := zo_3 (zi_at zh_dJ8_newLength_cabcc_0_0 8 rfl)
theorem dJ8_newLength_cabcc_9 : decode cJ8_newLength_cabcc 9 = .ok (.iload_n 3, 1) := zo_29 (zi_at zh_dJ8_newLength_cabcc_0_0 9 rfl)
theorem dJ8_newLength_cabcc_10 : decode cJ8_newLength_cabcc 10 = .ok (.if_icmp .ge 11, 3) := zo_162 (zi_at zh_dJ8_newLength_cabcc_0_0 10 rfl) (zi_at zh_dJ8_newLength_cabcc_0_0 11 rfl) (zi_at zh_dJ8_newLength_cabcc_0_0 12 rfl) rfl
theorem dJ8_newLength_cabcc_13 : decode cJ8_newLength_cabcc 13 = .ok (.iload_n 3, 1) := zo_29 (zi_at zh_dJ8_newLength_cabcc_0_0 13 rfl)
theorem dJ8_newLength_cabcc_14 : decode cJ8_newLength_cabcc 14 = .ok (.ldc 200, 2) := zo_18 (zi_at zh_dJ8_newLength_cabcc_0_0 14 rfl) (zi_at zh_dJ8_newLength_cabcc_0_0 15 rfl)
theorem dJ8_newLength_cabcc_16 : decode cJ8_newLength_cabcc 16 = .ok (.if_icmp .gt 5, 3) := zo_163 (zi_at zh_dJ8_newLength_cabcc_16_16 0 rfl) (zi_at zh_dJ8_newLength_cabcc_16_16 1 rfl) (zi_at zh_dJ8_newLength_cabcc_16_16 2 rfl) rfl
theorem dJ8_newLength_cabcc_19 : decode cJ8_newLength_cabcc 19 = .ok (.iload_n 3, 1) := zo_29 (zi_at zh_dJ8_newLength_cabcc_16_16 3 rfl)
theorem dJ8_newLength_cabcc_20 : decode cJ8_newLength_cabcc 20 = .ok (.ireturn, 1) := zo_172 (zi_at zh_dJ8_newLength_cabcc_16_16 4 rfl)
theorem hz_yJ7_copyOf_6403c_3 : yJ7_copyOf_6403c.cls ≠ "java/lang/invoke/MethodHandle" ∧ yJ7_copyOf_6403c.cls ≠ "java/lang/invoke/VarHandle" ∧ (parseMethodDescriptor yJ7_copyOf_6403c.desc).map (fun d => d.parameters.length) = some 3 := by decide +kernel
theorem hz_yJ8_newLength_cabcc_3 : yJ8_newLength_cabcc.cls ≠ "java/lang/invoke/MethodHandle" ∧ yJ8_newLength_cabcc.cls ≠ "java/lang/invoke/VarHandle" ∧ (parseMethodDescriptor yJ8_newLength_cabcc.desc).map (fun d => d.parameters.length) = some 3 := by decide +kernel
theorem hz_yJ7_copyOf_1904c_2 : yJ7_copyOf_1904c.cls ≠ "java/lang/invoke/MethodHandle" ∧ yJ7_copyOf_1904c.cls ≠ "java/lang/invoke/VarHandle" ∧ (parseMethodDescriptor yJ7_copyOf_1904c.desc).map (fun d => d.parameters.length) = some 2 := by decide +kernel
theorem hz_yJx4a65c_grow_92f84_1 : yJx4a65c_grow_92f84.cls ≠ "java/lang/invoke/MethodHandle" ∧ yJx4a65c_grow_92f84.cls ≠ "java/lang/invoke/VarHandle" ∧ (parseMethodDescriptor yJx4a65c_grow_92f84.desc).map (fun d => d.parameters.length) = some 1 := by decide +kernel
theorem hz_yJx4a65c_grow_d5877_0 : yJx4a65c_grow_d5877.cls ≠ "java/lang/invoke/MethodHandle" ∧ yJx4a65c_grow_d5877.cls ≠ "java/lang/invoke/VarHandle" ∧ (parseMethodDescriptor yJx4a65c_grow_d5877.desc).map (fun d => d.parameters.length) = some 0 := by decide +kernel
theorem hz_yJx4a65c_add_72be8_3 : yJx4a65c_add_72be8.cls ≠ "java/lang/invoke/MethodHandle" ∧ yJx4a65c_add_72be8.cls ≠ "java/lang/invoke/VarHandle" ∧ (parseMethodDescriptor yJx4a65c_add_72be8.desc).map (fun d => d.parameters.length) = some 3 := by decide +kernel

theorem ub_sa_object {D : va_G} {cl : List vw_C} {tys : List (ClassId × FieldType)} {U : State} {a b : ClassId} {C : String} (hK : va_K D cl tys U) (i j : Nat) (hi : tys[i]? = some (a, .object C)) (hj : tys[j]? = some (b, .object C)) : a = b := by
  obtain ⟨-, -, -, -, -, h1⟩ := (hK.2 i _ hi).2
  obtain ⟨-, -, -, -, -, h2⟩ := (hK.2 j _ hj).2
  exact Option.some.inj (h1.symm.trans h2)
/-- what a list's growing asks beside its cells -/
def EL (eo : Nat) (C : String) (n : Nat) (f : Nat → Option Nat) (A : Nat → Prop) (U : State) (H : Heap) : Prop := ZEc eo A U H ∧ NXc U ∧ (∀ i : Nat, i < n → ∀ y : Nat, f i = some y → va_O C y A U H) ∧ va_Nw (.castable C "java/lang/Object") U
theorem EL_c {eo : Nat} {C : String} {n : Nat} {f : Nat → Option Nat} {A : Nat → Prop} {U : State} {a : Array Value} {g : JFrame} {mk : MethodId} (h : EL eo C n f A U U.heap) : EL eo C n f A (U.calling g mk a) (U.calling g mk a).heap := ⟨ZEc_c h.1, NXc_c h.2.1, fun i hi y hy => va_O.moved (U := U.calling g mk a) (Vm.Alike.refl U.vm) (h.2.2.1 i hi y hy), va_Nw.same (u := U) (U := U.calling g mk a) rfl rfl h.2.2.2⟩
theorem EL_w {eo : Nat} {C : String} {n : Nat} {f : Nat → Option Nat} {s U : State} {H : Heap} {locs : List Loc} {A A1 : Nat → Prop} (hU : U.heap = H) (hW : s.WarmedH U.vm) (hS : va_S A s.heap H locs) (hF : ∀ q, A1 q → A q) (h : EL eo C n f A s s.heap) : EL eo C n f A1 U U.heap := by
  refine ⟨ZEc_w hU hW hS hF h.1, NXc_w hW h.2.1, fun i hi y hy => ?_, va_Nw.warmC hW h.2.2.2⟩
  rw [hU]
  exact va_O.moved hW.alike (((h.2.2.1 i hi y hy).kept hS.2.1).narrow hF)
theorem nI_nn {n : Nat} (h : n < 2 ^ 31) : (nI n).toNatClampNeg = n := by
  rw [tn_, nI_toInt h]
  omega
theorem lt_nn {n : Nat} (h : n < 2 ^ 31) : ¬ nI n < 0 := fun q => by
  have := ti_lt q
  rw [nI_toInt h] at this
  have h0 : (0 : Int32).toInt = 0 := rfl
  omega
theorem min_nn {n N : Nat} (h : n ≤ N) (hN : N < 2 ^ 31) : (if nI N < nI n then nI N else nI n) = nI n := by
  by_cases q : nI N < nI n
  · have := ti_lt q
    rw [nI_toInt hN, nI_toInt (by omega)] at this
    omega
  · rw [if_neg q]
theorem cpy_nn {α : Type} {f g : Nat → α} {n j : Nat} (h : j < n) : va_cpy f g 0 0 n j = f j := by
  unfold va_cpy
  rw [if_pos ⟨Nat.zero_le _, by omega⟩]
  congr 1
  omega
theorem gt_nn {n : Nat} (h1 : 1 ≤ n) (h2 : n < 2 ^ 31) : (0 : Int32) < nI n := by
  apply tr_lt
  rw [nI_toInt h2]
  have h0 : (0 : Int32).toInt = 0 := rfl
  omega
theorem nIs_ (n : Nat) : nI (n + 1) = nI n + 1 := (nI_add n 1).symm
theorem sub_nn {n : Nat} (h : n + 1 < 2 ^ 31) : nI (n + 1) - nI n = 1 := by
  apply Int32.toInt_inj.mp
  rw [Int32.toInt_sub, nI_toInt h, nI_toInt (by omega)]
  have h0 : (1 : Int32).toInt = 1 := rfl
  rw [h0, ti_bm (by omega) (by omega)]
  omega
theorem shr_nn : ∀ n : Nat, n < 301 → 0 ≤ (nI n >>> ((1 : Int32) &&& 31)).toInt ∧ (nI n >>> ((1 : Int32) &&& 31)).toInt ≤ (n : Int) := by decide +kernel
theorem nI_inj {n k : Nat} (h : nI n = nI k) (h1 : n < 2 ^ 31) (h2 : k < 2 ^ 31) : n = k := by
  have := congrArg Int32.toNatClampNeg h
  rw [nI_nn h1, nI_nn h2] at this
  exact this
theorem up_nn {f : Nat → Option Nat} {n j v : Nat} (h : j < n) (h2 : n < 2 ^ 31) : va_up f (nI n).toNatClampNeg (some v) j = f j := by
  rw [nI_nn h2]
  exact va_up_ne _ _ (by omega)
theorem up_ns {f : Nat → Option Nat} {n v : Nat} (h2 : n < 2 ^ 31) : va_up f (nI n).toNatClampNeg (some v) n = some v := by
  rw [nI_nn h2]
  exact va_up_self _ _ _
def v_k_copy3 : List Cond := .code yJ7_copyOf_6403c cJ7_copyOf_6403c 4 (some (.array (.object "java/lang/Object"))) :: vA
abbrev rm_k_copy3 : Room := { frames := 2, cells := 1, slots := 640, locals := 80 }
set_option maxHeartbeats 4000000 in
set_option maxRecDepth 100000 in
theorem k_copy3 (l : Launch) (dC : Nat → ClassId) (dI : Nat → Nat → Nat) (cO : ClassId) (d mi n N eo : Nat) (C : String) (f : Nat → Option Nat) (sz : Nat) (hn : n ≤ N) (hN : N ≤ 640) : Met l yJ7_copyOf_6403c v_k_copy3 rm_k_copy3 (va_Pc [.ref d, .int (nI N), .ref mi] (fun U => U.heap.size = sz ∧ va_P (dC, dI) vwCl [(d, .inl (cO, n, .inr (.inr (.inr (.inr f)))))]  U.heap ∧ va_K (dC, dI) vwCl [(cO, .object "java/lang/Object")] U ∧ va_D (fun _ => True) [(d, .inl (cO, n, .inr (.inr (.inr (.inr f)))))] ∧ EL eo C n f (va_A [(d, .inl (cO, n, .inr (.inr (.inr (.inr f)))))] sz) U U.heap ∧ va_Mi "[Ljava/lang/Object;" mi U)) (va_Qr (S := Nat → Option Nat) (fun f' => ∀ j : Nat, j < n → f' j = f j) (fun f' q t => va_P (dC, dI) vwCl [(d, .inl (cO, n, .inr (.inr (.inr (.inr f))))), (q, .inl (cO, N, .inr (.inr (.inr (.inr f')))))] t.heap ∧ va_D (va_A [(d, .inl (cO, n, .inr (.inr (.inr (.inr f)))))] sz) [(d, .inl (cO, n, .inr (.inr (.inr (.inr f))))), (q, .inl (cO, N, .inr (.inr (.inr (.inr f')))))]) (va_A [(d, .inl (cO, n, .inr (.inr (.inr (.inr f)))))] sz)) 1 640 (va_A [(d, .inl (cO, n, .inr (.inr (.inr (.inr f)))))] sz) := by
  refine Met.ofW (cc := cJ7_copyOf_6403c) (maxL := 4) (ret := (some (.array (.object "java/lang/Object")))) (by decide) rfl ?_
  intro p e s m args below meth c s₁ B hml hv
  obtain ⟨rfl, hsz, hP, hK, hD0, hE, hM⟩ := hv
  have hx := B.exec
  have hb := B.bytes
  have hr := B.returns
  have hts := atoms_spec (ws := v_k_copy3) B.pre
  have hown : s.vm.findClass RJ7 = some m.cls := findClass_of_methodNamed B.named
  have hlocks := B.notSynchronized
  subst hsz
  have hD := hD0.self (sz := s.heap.size)
  generalize hAe : va_A [(d, .inl (cO, n, .inr (.inr (.inr (.inr f)))))] s.heap.size = A at hD hE ⊢
  have hA : ∀ q : Nat, s.heap.size ≤ q → A q := fun q h => by rw [← hAe]; exact Or.inr h
  have hinJx4a65c : ∀ w ∈ u_ws RJx4a65c TJx4a65c 3, w ∈ v_k_copy3 := fun w h => vA_in _ w (in_Jx4a65c w h)
  have hS : va_S A s.heap s.heap [] := va_S.rf
  have hl := lv_entry ([.ref d, .int (nI N), .ref mi]) (n := 4) (Nat.le_of_ble_eq_true rfl)
  rw [lg_entry_eq]
  generalize (lg_sl ([.ref d, .int (nI N), .ref mi]) ++ List.replicate (4 - (lg_sl ([.ref d, .int (nI N), .ref mi])).length) Slot.unset).toArray = ls at hl ⊢
  have hl : lv_has ls 4 [(0, .ref d), (1, .int (nI N)), (2, .ref mi)] := hl
  refine lv_aload_n hx hb dJ7_copyOf_6403c_0 rfl (lv_at hl 2 rfl) ?_
  refine va_ldcM hx hb hown (hts _ (vA_in _ _ (in_2 _ (zs16 (zs4 (zs4 (zs0))))))) hM dJ7_copyOf_6403c_1 ?_
  refine lv_acmp_ne (rx := some mi) (ry := some mi) (tgt := 13) hx hb dJ7_copyOf_6403c_3 (by decide) (fun hh => absurd rfl hh) (fun _ => ?_)
  refine lv_iload_n hx hb dJ7_copyOf_6403c_6 rfl (lv_at hl 1 rfl) ?_
  refine va_newq (C := "java/lang/Object") (N' := N) hx hb hown (hts _ (vA_in _ _ (in_2 _ (zs16 (zs4 (zs4 (zs1 (zs0)))))))) hE.2.1.2.2.2.1 hK hP hD hS hA (lt_nn (by omega)) (nI_nn (by omega)) (by omega) (Nat.le_of_ble_eq_true rfl) (show 0 + N ≤ 640 by omega) dJ7_copyOf_6403c_7 (fun q kq H hK hP hD hS => ?_)
  have hK : va_K (dC, dI) vwCl [(cO, .object "java/lang/Object"), (kq, .object "java/lang/Object")] s := hK
  obtain rfl : cO = kq := ub_sa_object hK 0 1 rfl rfl
  have hK := hK.sub (tys' := [(cO, .object "java/lang/Object")]) [0] rfl
  have hP : va_P (dC, dI) vwCl [(d, .inl (cO, n, .inr (.inr (.inr (.inr f))))), (q, .inl (cO, N, .inr (.inr (.inr (.inr (fun _ => none))))))] H := hP
  have hD : va_D A [(d, .inl (cO, n, .inr (.inr (.inr (.inr f))))), (q, .inl (cO, N, .inr (.inr (.inr (.inr (fun _ => none))))))] := hD
  refine W.widen (k := 1) (n := 640) (by first | exact Nat.le_of_ble_eq_true rfl | omega) (by first | exact Nat.le_of_ble_eq_true rfl | omega) ?_
  refine lv_goto (tgt := 24) hx hb dJ7_copyOf_6403c_10 (by decide) ?_
  refine lv_astore_n (lv' := [(3, .ref q), (0, .ref d), (1, .int (nI N)), (2, .ref mi)]) hx hb dJ7_copyOf_6403c_24 rfl hl (by decide) rfl (fun ls hl => ?_)
  refine lv_aload_n hx hb dJ7_copyOf_6403c_25 rfl (lv_at hl 1 rfl) ?_
  refine lv_iconst (v := 0) hx hb dJ7_copyOf_6403c_26 (by decide) ?_
  refine lv_aload_n hx hb dJ7_copyOf_6403c_27 rfl (lv_at hl 0 rfl) ?_
  refine lv_iconst (v := 0) hx hb dJ7_copyOf_6403c_28 (by decide) ?_
  refine lv_aload_n hx hb dJ7_copyOf_6403c_29 rfl (lv_at hl 1 rfl) ?_
  refine va_alen (v := nI n) hx hb hK hP 0 0 rfl rfl rfl dJ7_copyOf_6403c_30 ?_
  refine lv_iload_n hx hb dJ7_copyOf_6403c_31 rfl (lv_at hl 2 rfl) ?_
  refine va_mmin hx hb (by rw [hml]; exact hl.1.symm) hown (hts _ (vA_in _ _ (in_2 _ (zs16 (zs4 (zs4 (zs1 (zs1 (zs0))))))))) (hts _ (vA_in _ _ (in_0 _ (zs16 (zs16 (zs4 (zs0))))))) (hts _ (vA_in _ _ (in_0 _ (zs16 (zs16 (zs1 (zs0))))))) (hts _ (vA_in _ _ (in_0 _ (zs16 (zs16 (zs4 (zs1 (zs0)))))))) (Nat.le_of_ble_eq_true rfl) (Nat.le_of_ble_eq_true rfl) (Nat.le_of_ble_eq_true rfl) (Nat.le_of_ble_eq_true rfl) dJ7_copyOf_6403c_32 ?_
  refine lv_topi (fun y ey => ?_)
  obtain rfl : nI n = y := (by rw [ey]; exact (min_nn (by omega) (by omega)).symm)
  have hca := hE.2.2.2
  refine va_copyq (C := C) (E0 := "java/lang/Object") (E1 := "java/lang/Object") hx hb (by rw [hml]; exact hl.1.symm) hown (hts _ (vA_in _ _ (in_2 _ (zs16 (zs4 (zs4 (zs1 (zs1 (zs1 (zs0)))))))))) (hts _ (vA_in _ _ (in_2 _ (zs16 (zs4 (zs4 (zs4 (zs0)))))))) (hts _ (vA_in _ _ (in_2 _ (zs16 (zs4 (zs4 (zs4 (zs1 (zs0))))))))) (hts _ (vA_in _ _ (in_2 _ (zs16 (zs4 (zs4 (zs4 (zs1 (zs1 (zs0)))))))))) hK hP hD hS 0 1 0 0 rfl rfl rfl rfl (sp := 0) (dp := 0) (by decide) (by decide) (lt_nn (by omega)) (by rw [nI_nn (by omega)]; show 0 + n ≤ n; omega) (by rw [nI_nn (by omega)]; show 0 + n ≤ N; omega) (fun i hi y hy => ?_) (fun comp c0 h1 h2 => ?_) (Nat.le_of_ble_eq_true rfl) (Nat.le_of_ble_eq_true rfl) dJ7_copyOf_6403c_35 (fun H locs hP hD hS => ?_)
  · rw [nI_nn (by omega)] at hi
    have hy : f (0 + i) = some y := hy
    rw [Nat.zero_add] at hy
    obtain ⟨cell, g1, g2, g3, -⟩ := (hE.2.2.1 i hi y hy).kept hS.2.1
    exact ⟨cell, g1, g2, g3⟩
  · obtain ⟨c', t', f1, f2, f3⟩ := Cond.castable_spec (va_Nw.use (A := #[]) rfl hca)
    cases f1.symm.trans h2
    cases f2.symm.trans h1
    exact f3
  rw [nI_nn (show n < 2 ^ 31 by omega)] at hP hD
  have hP : va_P (dC, dI) vwCl [(d, .inl (cO, n, .inr (.inr (.inr (.inr f))))), (q, .inl (cO, N, .inr (.inr (.inr (.inr (va_cpy f (fun _ => none) 0 0 n))))))] H := hP
  have hD : va_D A [(d, .inl (cO, n, .inr (.inr (.inr (.inr f))))), (q, .inl (cO, N, .inr (.inr (.inr (.inr (va_cpy f (fun _ => none) 0 0 n))))))] := hD
  refine lv_aload_n hx hb dJ7_copyOf_6403c_38 rfl (lv_at hl 0 rfl) ?_
  exact W.aret (v := .ref q) hx hb hr (Or.inr ⟨_, rfl⟩) (Or.inr ⟨_, rfl⟩) (fun t ht hW => ⟨⟨_, q, rfl, (fun j hj => cpy_nn hj), (by rw [ht]; exact hP), hD⟩, hS.F ht⟩) hS.2.2 dJ7_copyOf_6403c_39

def v_k_copy2 : List Cond := .code yJ7_copyOf_1904c cJ7_copyOf_1904c 2 (some (.array (.object "java/lang/Object"))) :: vA
abbrev rm_k_copy2 : Room := { frames := 3, cells := 1, slots := 640, locals := 120 }
set_option maxHeartbeats 4000000 in
set_option maxRecDepth 100000 in
theorem k_copy2 (l : Launch) (dC : Nat → ClassId) (dI : Nat → Nat → Nat) (cO : ClassId) (d n N eo : Nat) (C : String) (f : Nat → Option Nat) (sz : Nat) (hn : n ≤ N) (hN : N ≤ 640) : Met l yJ7_copyOf_1904c v_k_copy2 rm_k_copy2 (va_Pc [.ref d, .int (nI N)] (fun U => U.heap.size = sz ∧ va_P (dC, dI) vwCl [(d, .inl (cO, n, .inr (.inr (.inr (.inr f)))))]  U.heap ∧ va_K (dC, dI) vwCl [(cO, .object "java/lang/Object")] U ∧ va_D (fun _ => True) [(d, .inl (cO, n, .inr (.inr (.inr (.inr f)))))] ∧ EL eo C n f (va_A [(d, .inl (cO, n, .inr (.inr (.inr (.inr f)))))] sz) U U.heap)) (va_Qr (S := Nat → Option Nat) (fun f' => ∀ j : Nat, j < n → f' j = f j) (fun f' q t => va_P (dC, dI) vwCl [(d, .inl (cO, n, .inr (.inr (.inr (.inr f))))), (q, .inl (cO, N, .inr (.inr (.inr (.inr f')))))] t.heap ∧ va_D (va_A [(d, .inl (cO, n, .inr (.inr (.inr (.inr f)))))] sz) [(d, .inl (cO, n, .inr (.inr (.inr (.inr f))))), (q, .inl (cO, N, .inr (.inr (.inr (.inr f')))))]) (va_A [(d, .inl (cO, n, .inr (.inr (.inr (.inr f)))))] sz)) 1 640 (va_A [(d, .inl (cO, n, .inr (.inr (.inr (.inr f)))))] sz) := by
  refine Met.ofW (cc := cJ7_copyOf_1904c) (maxL := 2) (ret := (some (.array (.object "java/lang/Object")))) (by decide) rfl ?_
  intro p e s m args below meth c s₁ B hml hv
  obtain ⟨rfl, hsz, hP, hK, hD0, hE⟩ := hv
  have hx := B.exec
  have hb := B.bytes
  have hr := B.returns
  have hts := atoms_spec (ws := v_k_copy2) B.pre
  have hown : s.vm.findClass RJ7 = some m.cls := findClass_of_methodNamed B.named
  have hlocks := B.notSynchronized
  subst hsz
  have hD := hD0.self (sz := s.heap.size)
  generalize hAe : va_A [(d, .inl (cO, n, .inr (.inr (.inr (.inr f)))))] s.heap.size = A at hD hE ⊢
  have hA : ∀ q : Nat, s.heap.size ≤ q → A q := fun q h => by rw [← hAe]; exact Or.inr h
  have hinJx4a65c : ∀ w ∈ u_ws RJx4a65c TJx4a65c 3, w ∈ v_k_copy2 := fun w h => vA_in _ w (in_Jx4a65c w h)
  have hS : va_S A s.heap s.heap [] := va_S.rf
  have hl := lv_entry ([.ref d, .int (nI N)]) (n := 2) (Nat.le_of_ble_eq_true rfl)
  rw [lg_entry_eq]
  generalize (lg_sl ([.ref d, .int (nI N)]) ++ List.replicate (2 - (lg_sl ([.ref d, .int (nI N)])).length) Slot.unset).toArray = ls at hl ⊢
  have hl : lv_has ls 2 [(0, .ref d), (1, .int (nI N))] := hl
  obtain ⟨mi, hM⟩ := hE.2.1.2.2.2.2.1
  refine lv_aload_n hx hb dJ7_copyOf_1904c_0 rfl (lv_at hl 0 rfl) ?_
  refine lv_iload_n hx hb dJ7_copyOf_1904c_1 rfl (lv_at hl 1 rfl) ?_
  refine lv_aload_n hx hb dJ7_copyOf_1904c_2 rfl (lv_at hl 0 rfl) ?_
  refine va_getC (C := "[Ljava/lang/Object;") hx hb (by rw [hml]; exact hl.1.symm) hown (hts _ (vA_in _ _ (in_2 _ (zs16 (zs0))))) (va_Dc.use hE.2.1.2.2.2.2.2) (hts _ (vA_in _ _ (in_2 _ (zs16 (zs1 (zs0)))))) (hts _ (vA_in _ _ (in_2 _ (zs16 (zs1 (zs1 (zs0))))))) (hts _ (vA_in _ _ (in_2 _ (zs16 (zs1 (zs1 (zs1 (zs0)))))))) hM ⟨_, hP 0 _ rfl, rfl, va_nmO (hK.2 0 _ rfl).2 (by decide)⟩ (Nat.le_of_ble_eq_true rfl) (Nat.le_of_ble_eq_true rfl) dJ7_copyOf_1904c_3 ?_
  have hPc := hP.sub (ws' := [(d, .inl (cO, n, .inr (.inr (.inr (.inr f)))))]) [0] rfl
  have hDc := hD.sub (ws' := [(d, .inl (cO, n, .inr (.inr (.inr (.inr f)))))]) [0] (by decide) rfl
  have hFc := va_free (wc := [(d, .inl (cO, n, .inr (.inr (.inr (.inr f)))))]) hD hS hA [0] rfl
  refine va_callr (va_runS (As := [.ref d, .int (nI N), .ref mi]) (rest := []) ⟨hx, hb, hml, hown, hts⟩ (k_copy3 l dC dI cO d mi n N eo C f s.heap.size hn hN) (va_cwS 3 hts (gi_S (in_2 _ (zs16 (zs4 (zs0)))) (in_2 _ (zs16 (zs4 (zs1 (zs0))))) (in_2 _ (zs16 (zs4 (zs1 (zs1 (zs0)))))) (in_2 _ (zs16 (zs4 (zs1 (zs1 (zs1 (zs0)))))))) rfl rfl rfl hz_yJ7_copyOf_6403c_3 ⟨Nat.le_of_ble_eq_true rfl, Nat.le_of_ble_eq_true rfl⟩) ⟨fun a U g mk q => by obtain ⟨e0, e1, qP, qK, qD, qE, qM⟩ := q; exact ⟨e0, e1, qP, va_K.moved (u := U) (U := U.calling g mk a) (Vm.Alike.refl U.vm) qK, qD, EL_c qE, va_Mi.moved (u := U) (U := U.calling g mk a) (Vm.Alike.refl U.vm) qM⟩, fun U hU hW => ⟨rfl, by rw [hU], by rw [hU]; exact hPc, va_K.moved hW.alike hK, hDc.weaken (fun _ _ _ _ => trivial), EL_w hU hW hS hFc hE, va_Mi.moved hW.alike hM⟩⟩ rfl rfl hl.1 rfl (lv_room (Nat.le_of_ble_eq_true rfl)) dJ7_copyOf_1904c_6 ⟨Nat.le_of_ble_eq_true rfl, Nat.le_of_ble_eq_true rfl⟩) hS (fun q _ h => hFc q h) hFc (fun f' r t H1 locs ht hvm hw hB hz1 hk1 hS => ?_)
  obtain ⟨hP1, hD1⟩ := hB
  rw [ht] at hP1
  obtain ⟨hP, hD⟩ := va_join (wr := []) (w1 := [(d, .inl (cO, n, .inr (.inr (.inr (.inr f))))), (r, .inl (cO, N, .inr (.inr (.inr (.inr f')))))]) hP hD [0] [] rfl rfl (by decide) (by decide) hk1 hFc hP1 hD1
  generalize H1 = H at hP hS ⊢
  exact W.aret (v := .ref r) hx hb hr (Or.inr ⟨_, rfl⟩) (Or.inr ⟨_, rfl⟩) (fun t ht hW => ⟨⟨f', r, rfl, hw, (by rw [ht]; exact hP), hD⟩, hS.F ht⟩) hS.2.2 dJ7_copyOf_1904c_9

def v_newLength : List Cond := .code yJ8_newLength_cabcc cJ8_newLength_cabcc 4 (some .int) :: vA
abbrev rm_newLength : Room := { frames := 1, cells := 0, slots := 0, locals := 40 }
set_option maxHeartbeats 4000000 in
set_option maxRecDepth 100000 in
theorem q_newLength (l : Launch) (a0 : Int32) (a1 : Int32) (a2 : Int32) (hh0 : 0 ≤ a0.toInt ∧ a0.toInt ≤ 300) (hh1 : 1 ≤ a1.toInt ∧ a1.toInt ≤ 300) (hh2 : 0 ≤ a2.toInt ∧ a2.toInt ≤ 300) : Met l yJ8_newLength_cabcc v_newLength rm_newLength (va_Pc [.int a0, .int a1, .int a2] (fun _ => True)) (va_Qi (S := Unit) (fun r _ => (a0.toInt + 1 ≤ r.toInt) ∧ (r.toInt = a0.toInt + max a1.toInt a2.toInt)) (fun _ _ => True) (fun _ => False)) 0 0 (fun _ => False) := by
  refine Met.ofW (cc := cJ8_newLength_cabcc) (maxL := 4) (ret := (some .int)) (by decide) rfl ?_
  intro p e s m args below meth c s₁ B hml hv
  obtain ⟨hargs, -⟩ := hv
  have hx := B.exec
  have hb := B.bytes
  have hr := B.returns
  have hts := atoms_spec (ws := v_newLength) B.pre
  have hown : s.vm.findClass RJ8 = some m.cls := findClass_of_methodNamed B.named
  have hlocks := B.notSynchronized
  have hS : va_S (fun _ : Nat => False) s.heap s.heap [] := va_S.rf
  have hl := lv_entry ([.int a0, .int a1, .int a2]) (n := 4) (Nat.le_of_ble_eq_true rfl)
  obtain ⟨Q, hQ⟩ : ∃ Q, Q = MQ below (va_Qi (S := Unit) (fun r _ => (a0.toInt + 1 ≤ r.toInt) ∧ (r.toInt = a0.toInt + max a1.toInt a2.toInt)) (fun _ _ => True) (fun _ => False)) args s 0 0 (fun _ => False) := ⟨_, rfl⟩
  rw [← hQ, show entryFrame m args 4 = _ from (congrArg (fun z => entryFrame m z 4) hargs).trans (lg_entry_eq _ _ _)]
  generalize (lg_sl ([.int a0, .int a1, .int a2]) ++ List.replicate (4 - (lg_sl ([.int a0, .int a1, .int a2])).length) Slot.unset).toArray = ls at hl ⊢
  have hl : lv_has ls 4 [(0, .int a0), (1, .int a1), (2, .int a2)] := hl
  refine lv_iload_n hx hb dJ8_newLength_cabcc_0 rfl (lv_at hl 0 rfl) ?_
  refine lv_iload_n hx hb dJ8_newLength_cabcc_1 rfl (lv_at hl 1 rfl) ?_
  refine lv_iload_n hx hb dJ8_newLength_cabcc_2 rfl (lv_at hl 2 rfl) ?_
  refine va_mmax hx hb (by rw [hml]; exact hl.1.symm) hown (hts _ (vA_in _ _ (in_3 _ (zs1 (zs1 (zs1 (zs0))))))) (hts _ (vA_in _ _ (in_0 _ (zs16 (zs16 (zs0)))))) (hts _ (vA_in _ _ (in_0 _ (zs16 (zs16 (zs1 (zs0))))))) (hts _ (vA_in _ _ (in_0 _ (zs16 (zs16 (zs1 (zs1 (zs0)))))))) (Nat.le_of_ble_eq_true rfl) (Nat.le_of_ble_eq_true rfl) (Nat.le_of_ble_eq_true rfl) (Nat.le_of_ble_eq_true rfl) dJ8_newLength_cabcc_3 ?_
  refine lv_topi (fun y1 ey1 => ?_)
  obtain ⟨ty1, iy1⟩ := ti_max (e := 1) (f := 300) hh1 hh2 ey1 (by decide)
  have iy1 : 1 ≤ y1.toInt ∧ y1.toInt ≤ 300 := iy1
  refine lv_iadd hx hb dJ8_newLength_cabcc_6 ?_
  refine lv_topi (fun y2 ey2 => ?_)
  obtain ⟨ty2, iy2⟩ := ti_add (e := 1) (f := 600) hh0 iy1 ey2 (by decide)
  have ty2 : y2.toInt = a0.toInt + y1.toInt := ty2
  have iy2 : 1 ≤ y2.toInt ∧ y2.toInt ≤ 600 := iy2
  refine lv_istore_n (lv' := [(3, .int y2), (0, .int a0), (1, .int a1), (2, .int a2)]) hx hb dJ8_newLength_cabcc_7 rfl hl (by decide) rfl (fun ls hl => ?_)
  refine lv_iconst (v := 0) hx hb dJ8_newLength_cabcc_8 (by decide) ?_
  refine lv_iload_n hx hb dJ8_newLength_cabcc_9 rfl (lv_at hl 0 rfl) ?_
  refine lv_icmp_ge (tgt := 21) hx hb dJ8_newLength_cabcc_10 (by decide) (fun c3 => ?_) (fun c3 => ?_)
  · --10 taken
    have t4 : y2.toInt ≤ 0 := ti_le c3
    have i5 : 1 ≤ y2.toInt ∧ y2.toInt ≤ 0 := iv_le_l t4 iy2 (il_ 0) (by decide)
    exact iv_no i5 (by decide)
  · --10 not
    have t6 : (0 : Int) < y2.toInt := ti_nle c3
    refine lv_iload_n hx hb dJ8_newLength_cabcc_13 rfl (lv_at hl 0 rfl) ?_
    refine lv_ldc hx hb hown (hts _ (vA_in _ _ (in_3 _ (zs1 (zs0))))) dJ8_newLength_cabcc_14 ?_
    refine lv_icmp_gt (tgt := 21) hx hb dJ8_newLength_cabcc_16 (by decide) (fun c9 => absurd (ti_lt c9) (by have h9 := iy2; have h8 : (2147483639 : Int32).toInt = 2147483639 := rfl; omega)) (fun c9 => ?_)
    refine lv_iload_n hx hb dJ8_newLength_cabcc_19 rfl (lv_at hl 0 rfl) ?_
    rw [hQ]
    exact W.iret (v := y2) hx hb hr (fun t ht hW => ⟨⟨y2, (), rfl, ⟨by all_goals omega, by all_goals omega⟩, trivial⟩, hS.F ht⟩) hS.2.2 dJ8_newLength_cabcc_20
def v_k_growI1 : List Cond := .code yJx4a65c_grow_92f84 cJx4a65c_grow_92f84 4 (some (.array (.object "java/lang/Object"))) :: vA
abbrev rm_k_growI1 : Room := { frames := 4, cells := 1, slots := 640, locals := 160 }
set_option maxHeartbeats 4000000 in
set_option maxRecDepth 100000 in
theorem k_growI1 (l : Launch) (dC : Nat → ClassId) (dI : Nat → Nat → Nat) (cO : ClassId) (a d n eo : Nat) (mo : Int32) (C : String) (f : Nat → Option Nat) (sz : Nat) (hn1 : 1 ≤ n) (hn : n ≤ 300) : Met l yJx4a65c_grow_92f84 v_k_growI1 rm_k_growI1 (va_Pc [.ref a, .int (nI (n + 1))] (fun U => U.heap.size = sz ∧ va_P (dC, dI) vwCl [(a, .inr (0, [.int mo, .ref d, .int (nI n)])), (d, .inl (cO, n, .inr (.inr (.inr (.inr f)))))]  U.heap ∧ va_K (dC, dI) vwCl [(cO, .object "java/lang/Object")] U ∧ va_D (fun _ => True) [(a, .inr (0, [.int mo, .ref d, .int (nI n)])), (d, .inl (cO, n, .inr (.inr (.inr (.inr f)))))] ∧ EL eo C n f (va_A [(a, .inr (0, [.int mo, .ref d, .int (nI n)])), (d, .inl (cO, n, .inr (.inr (.inr (.inr f)))))] sz) U U.heap)) (va_Qr (S := Nat × (Nat → Option Nat)) (fun u => n + 1 ≤ u.1 ∧ u.1 ≤ 2 * (n + 1) + 10 ∧ ∀ j : Nat, j < n → u.2 j = f j) (fun u q t => va_P (dC, dI) vwCl [(a, .inr (0, [.int mo, .ref q, .int (nI n)])), (q, .inl (cO, u.1, .inr (.inr (.inr (.inr u.2)))))] t.heap ∧ va_D (va_A [(a, .inr (0, [.int mo, .ref d, .int (nI n)])), (d, .inl (cO, n, .inr (.inr (.inr (.inr f)))))] sz) [(a, .inr (0, [.int mo, .ref q, .int (nI n)])), (q, .inl (cO, u.1, .inr (.inr (.inr (.inr u.2)))))]) (va_A [(a, .inr (0, [.int mo, .ref d, .int (nI n)])), (d, .inl (cO, n, .inr (.inr (.inr (.inr f)))))] sz)) 1 640 (va_A [(a, .inr (0, [.int mo, .ref d, .int (nI n)])), (d, .inl (cO, n, .inr (.inr (.inr (.inr f)))))] sz) := by
  refine Met.ofW (cc := cJx4a65c_grow_92f84) (maxL := 4) (ret := (some (.array (.object "java/lang/Object")))) (by decide) rfl ?_
  intro p e s m args below meth c s₁ B hml hv
  obtain ⟨rfl, hsz, hP, hK, hD0, hE⟩ := hv
  have hx := B.exec
  have hb := B.bytes
  have hr := B.returns
  have hts := atoms_spec (ws := v_k_growI1) B.pre
  have hown : s.vm.findClass RJx4a65c = some m.cls := findClass_of_methodNamed B.named
  have hlocks := B.notSynchronized
  subst hsz
  have hD := hD0.self (sz := s.heap.size)
  generalize hAe : va_A [(a, .inr (0, [.int mo, .ref d, .int (nI n)])), (d, .inl (cO, n, .inr (.inr (.inr (.inr f)))))] s.heap.size = A at hD hE ⊢
  have hA : ∀ q : Nat, s.heap.size ≤ q → A q := fun q h => by rw [← hAe]; exact Or.inr h
  have hinJx4a65c : ∀ w ∈ u_ws RJx4a65c TJx4a65c 3, w ∈ v_k_growI1 := fun w h => vA_in _ w (in_Jx4a65c w h)
  have hS : va_S A s.heap s.heap [] := va_S.rf
  have hl := lv_entry ([.ref a, .int (nI (n + 1))]) (n := 4) (Nat.le_of_ble_eq_true rfl)
  rw [lg_entry_eq]
  generalize (lg_sl ([.ref a, .int (nI (n + 1))]) ++ List.replicate (4 - (lg_sl ([.ref a, .int (nI (n + 1))])).length) Slot.unset).toArray = ls at hl ⊢
  have hl : lv_has ls 4 [(0, .ref a), (1, .int (nI (n + 1)))] := hl
  refine lv_aload_n hx hb dJx4a65c_grow_92f84_0 rfl (lv_at hl 0 rfl) ?_
  refine va_get (D := (dC, dI)) (ci := 0) (v := .ref d) (C := RJx4a65c) (T := TJx4a65c) (N := 3) hx hb hts hinJx4a65c hown hK hP 0 rfl rfl 1 (by decide) (hts _ (vA_in _ _ (in_3 _ (zs16 (zs4 (zs4 (zs0))))))) (fun _ h9 => h9) rfl dJx4a65c_grow_92f84_1 ?_
  refine va_alen (v := nI n) hx hb hK hP 1 0 rfl rfl rfl dJx4a65c_grow_92f84_4 ?_
  refine lv_istore_n (lv' := [(2, .int (nI n)), (0, .ref a), (1, .int (nI (n + 1)))]) hx hb dJx4a65c_grow_92f84_5 rfl hl (by decide) rfl (fun ls hl => ?_)
  refine lv_iload_n hx hb dJx4a65c_grow_92f84_6 rfl (lv_at hl 0 rfl) ?_
  refine lv_if_gt (tgt := 20) hx hb dJx4a65c_grow_92f84_7 (by decide) (fun c1 => ?_) (fun c1 => absurd (gt_nn hn1 (by omega)) c1)
  refine lv_iload_n hx hb dJx4a65c_grow_92f84_20 rfl (lv_at hl 0 rfl) ?_
  refine lv_iload_n hx hb dJx4a65c_grow_92f84_21 rfl (lv_at hl 2 rfl) ?_
  refine lv_iload_n hx hb dJx4a65c_grow_92f84_22 rfl (lv_at hl 0 rfl) ?_
  refine lv_isub hx hb dJx4a65c_grow_92f84_23 ?_
  refine lv_topi (fun y1 e1 => ?_)
  obtain rfl : (1 : Int32) = y1 := (by rw [e1]; exact (sub_nn (by omega)).symm)
  refine lv_iload_n hx hb dJx4a65c_grow_92f84_24 rfl (lv_at hl 0 rfl) ?_
  refine lv_iconst (v := 1) hx hb dJx4a65c_grow_92f84_25 (by decide) ?_
  refine lv_ishr hx hb dJx4a65c_grow_92f84_26 ?_
  refine lv_topi (fun y2 e2 => ?_)
  have i2 : 0 ≤ y2.toInt ∧ y2.toInt ≤ 300 := by rw [e2]; have h9 := shr_nn n (by omega); omega
  have i2b : y2.toInt ≤ (n : Int) := by rw [e2]; exact (shr_nn n (by omega)).2
  have i0 : (nI n).toInt = (n : Int) := nI_toInt (by omega)
  refine th_pi (va_runS (As := [.int (nI n), .int 1, .int y2]) (rest := []) ⟨hx, hb, hml, hown, hts⟩ (q_newLength l (nI n) 1 y2 (by omega) (by decide) (by omega)) (va_cwS 3 hts (gi_S (in_3 _ (zs16 (zs4 (zs4 (zs4 (zs0)))))) (in_3 _ (zs16 (zs4 (zs4 (zs4 (zs1 (zs0))))))) (in_3 _ (zs4 (zs1 (zs1 (zs0))))) (in_3 _ (zs1 (zs1 (zs0))))) rfl rfl rfl hz_yJ8_newLength_cabcc_3 ⟨Nat.le_of_ble_eq_true rfl, Nat.le_of_ble_eq_true rfl⟩) ⟨fun _ _ _ _ q => q, fun _ _ _ => ⟨rfl, trivial⟩⟩ rfl rfl hl.1 rfl (lv_room (Nat.le_of_ble_eq_true rfl)) dJx4a65c_grow_92f84_27 ⟨Nat.le_of_ble_eq_true rfl, Nat.le_of_ble_eq_true rfl⟩) hS (fun r H1 locs1 hw hk1 hS => ?_)
  have hP := ub_keep hP hk1
  generalize H1 = H at hP hS ⊢
  generalize locs1 = locs at hS ⊢
  obtain ⟨hwr, hwl⟩ := hw
  have i1 : (1 : Int32).toInt = 1 := rfl
  obtain ⟨N, hN, hN2⟩ : ∃ N : Nat, r = nI N ∧ (N : Int) = r.toInt := ⟨r.toNatClampNeg, (nI_tn (by omega)).symm, by rw [tn_]; omega⟩
  subst hN
  refine lv_istore_n (lv' := [(3, .int (nI N)), (2, .int (nI n)), (0, .ref a), (1, .int (nI (n + 1)))]) hx hb dJx4a65c_grow_92f84_30 rfl hl (by decide) rfl (fun ls hl => ?_)
  refine lv_aload_n hx hb dJx4a65c_grow_92f84_31 rfl (lv_at hl 2 rfl) ?_
  refine lv_aload_n hx hb dJx4a65c_grow_92f84_32 rfl (lv_at hl 2 rfl) ?_
  refine va_get (D := (dC, dI)) (ci := 0) (v := .ref d) (C := RJx4a65c) (T := TJx4a65c) (N := 3) hx hb hts hinJx4a65c hown hK hP 0 rfl rfl 1 (by decide) (hts _ (vA_in _ _ (in_3 _ (zs16 (zs4 (zs4 (zs0))))))) (fun _ h9 => h9) rfl dJx4a65c_grow_92f84_33 ?_
  refine lv_iload_n hx hb dJx4a65c_grow_92f84_36 rfl (lv_at hl 0 rfl) ?_
  have hPc := hP.sub (ws' := [(d, .inl (cO, n, .inr (.inr (.inr (.inr f)))))]) [1] rfl
  have hDc := hD.sub (ws' := [(d, .inl (cO, n, .inr (.inr (.inr (.inr f)))))]) [1] (by decide) rfl
  have hFc := va_free (wc := [(d, .inl (cO, n, .inr (.inr (.inr (.inr f)))))]) hD hS hA [1] rfl
  refine va_callr (va_runS (As := [.ref d, .int (nI N)]) (rest := [.ref a]) ⟨hx, hb, hml, hown, hts⟩ (k_copy2 l dC dI cO d n N eo C f H.size (by omega) (by omega)) (va_cwS 2 hts (gi_S (in_3 _ (zs16 (zs4 (zs4 (zs4 (zs1 (zs1 (zs0)))))))) (in_3 _ (zs16 (zs4 (zs4 (zs4 (zs1 (zs1 (zs1 (zs0))))))))) (in_2 _ (zs16 (zs4 (zs1 (zs1 (zs0)))))) (in_2 _ (zs4 (zs4 (zs4 (zs1 (zs1 (zs1 (zs0))))))))) rfl rfl rfl hz_yJ7_copyOf_1904c_2 ⟨Nat.le_of_ble_eq_true rfl, Nat.le_of_ble_eq_true rfl⟩) ⟨fun a U g mk q => by obtain ⟨e0, e1, qP, qK, qD, qE⟩ := q; exact ⟨e0, e1, qP, va_K.moved (u := U) (U := U.calling g mk a) (Vm.Alike.refl U.vm) qK, qD, EL_c qE⟩, fun U hU hW => ⟨rfl, by rw [hU], by rw [hU]; exact hPc, va_K.moved hW.alike hK, hDc.weaken (fun _ _ _ _ => trivial), EL_w hU hW hS hFc hE⟩⟩ rfl rfl hl.1 rfl (lv_room (Nat.le_of_ble_eq_true rfl)) dJx4a65c_grow_92f84_37 ⟨Nat.le_of_ble_eq_true rfl, Nat.le_of_ble_eq_true rfl⟩) hS (fun q _ h => hFc q h) hFc (fun f' r t H1 locs ht hvm hw hB hz1 hk1 hS => ?_)
  obtain ⟨hP1, hD1⟩ := hB
  rw [ht] at hP1
  obtain ⟨hP, hD⟩ := va_join (wr := [(a, .inr (0, [.int mo, .ref d, .int (nI n)]))]) (w1 := [(d, .inl (cO, n, .inr (.inr (.inr (.inr f))))), (r, .inl (cO, N, .inr (.inr (.inr (.inr f')))))]) hP hD [1] [0] rfl rfl (by decide) (by decide) hk1 hFc hP1 hD1
  generalize H1 = H at hP hS ⊢
  have hP : va_P (dC, dI) vwCl [(a, .inr (0, [.int mo, .ref d, .int (nI n)])), (d, .inl (cO, n, .inr (.inr (.inr (.inr f))))), (r, .inl (cO, N, .inr (.inr (.inr (.inr f')))))] H := hP
  have hD : va_D A [(a, .inr (0, [.int mo, .ref d, .int (nI n)])), (d, .inl (cO, n, .inr (.inr (.inr (.inr f))))), (r, .inl (cO, N, .inr (.inr (.inr (.inr f')))))] := hD
  refine lv_dup_x1 hx hb dJx4a65c_grow_92f84_40 rfl rfl ?_
  refine va_put (D := (dC, dI)) (ci := 0) (v := .ref r) (ty := .array (.object "java/lang/Object")) (C := RJx4a65c) (T := TJx4a65c) (N := 3) hx hb hts hinJx4a65c tyJx4a65c tyJx4a65c_ok nmJx4a65c hown hK hP hD hS 0 rfl rfl 1 (by decide) (hts _ (vA_in _ _ (in_3 _ (zs16 (zs4 (zs4 (zs0))))))) (fun _ h9 => h9) rfl (by decide +kernel) rfl rfl (Nat.le_of_ble_eq_true rfl) dJx4a65c_grow_92f84_41 (fun H locs hP hD hS => ?_)
  have hP : va_P (dC, dI) vwCl [(a, .inr (0, [.int mo, .ref r, .int (nI n)])), (d, .inl (cO, n, .inr (.inr (.inr (.inr f))))), (r, .inl (cO, N, .inr (.inr (.inr (.inr f')))))] H := hP
  have hD : va_D A [(a, .inr (0, [.int mo, .ref r, .int (nI n)])), (d, .inl (cO, n, .inr (.inr (.inr (.inr f))))), (r, .inl (cO, N, .inr (.inr (.inr (.inr f')))))] := hD
  have hP9 := hP.sub (ws' := [(a, .inr (0, [.int mo, .ref r, .int (nI n)])), (r, .inl (cO, N, .inr (.inr (.inr (.inr f')))))]) [0, 2] rfl
  have hD9 := hD.sub (ws' := [(a, .inr (0, [.int mo, .ref r, .int (nI n)])), (r, .inl (cO, N, .inr (.inr (.inr (.inr f')))))]) [0, 2] (by decide) rfl
  exact W.aret (v := .ref r) hx hb hr (Or.inr ⟨_, rfl⟩) (Or.inr ⟨_, rfl⟩) (fun t ht hW => ⟨⟨(N, f'), r, rfl, ⟨by show n + 1 ≤ N; omega, by show N ≤ _; omega, hw⟩, (by rw [ht]; exact hP9), hD9⟩, hS.F ht⟩) hS.2.2 dJx4a65c_grow_92f84_44

def v_k_growI0 : List Cond := .code yJx4a65c_grow_92f84 cJx4a65c_grow_92f84 4 (some (.array (.object "java/lang/Object"))) :: vA
abbrev rm_k_growI0 : Room := { frames := 4, cells := 1, slots := 640, locals := 160 }
set_option maxHeartbeats 4000000 in
set_option maxRecDepth 100000 in
theorem k_growI0 (l : Launch) (dC : Nat → ClassId) (dI : Nat → Nat → Nat) (cO : ClassId) (a eo : Nat) (mo : Int32) (C : String) (f : Nat → Option Nat) (sz : Nat)  : Met l yJx4a65c_grow_92f84 v_k_growI0 rm_k_growI0 (va_Pc [.ref a, .int 1] (fun U => U.heap.size = sz ∧ va_P (dC, dI) vwCl [(a, .inr (0, [.int mo, .ref eo, .int 0]))]  U.heap ∧ va_K (dC, dI) vwCl [(cO, .object "java/lang/Object")] U ∧ va_D (fun _ => True) [(a, .inr (0, [.int mo, .ref eo, .int 0]))] ∧ EL eo C 0 f (va_A [(a, .inr (0, [.int mo, .ref eo, .int 0]))] sz) U U.heap)) (va_Qr (S := Nat × (Nat → Option Nat)) (fun u => 1 ≤ u.1 ∧ u.1 ≤ 12) (fun u q t => va_P (dC, dI) vwCl [(a, .inr (0, [.int mo, .ref q, .int 0])), (q, .inl (cO, u.1, .inr (.inr (.inr (.inr u.2)))))] t.heap ∧ va_D (va_A [(a, .inr (0, [.int mo, .ref eo, .int 0]))] sz) [(a, .inr (0, [.int mo, .ref q, .int 0])), (q, .inl (cO, u.1, .inr (.inr (.inr (.inr u.2)))))]) (va_A [(a, .inr (0, [.int mo, .ref eo, .int 0]))] sz)) 1 640 (va_A [(a, .inr (0, [.int mo, .ref eo, .int 0]))] sz) := by
  refine Met.ofW (cc := cJx4a65c_grow_92f84) (maxL := 4) (ret := (some (.array (.object "java/lang/Object")))) (by decide) rfl ?_
  intro p e s m args below meth c s₁ B hml hv
  obtain ⟨rfl, hsz, hP, hK, hD0, hE⟩ := hv
  have hx := B.exec
  have hb := B.bytes
  have hr := B.returns
  have hts := atoms_spec (ws := v_k_growI0) B.pre
  have hown : s.vm.findClass RJx4a65c = some m.cls := findClass_of_methodNamed B.named
  have hlocks := B.notSynchronized
  subst hsz
  have hD := hD0.self (sz := s.heap.size)
  generalize hAe : va_A [(a, .inr (0, [.int mo, .ref eo, .int 0]))] s.heap.size = A at hD hE ⊢
  have hA : ∀ q : Nat, s.heap.size ≤ q → A q := fun q h => by rw [← hAe]; exact Or.inr h
  have hinJx4a65c : ∀ w ∈ u_ws RJx4a65c TJx4a65c 3, w ∈ v_k_growI0 := fun w h => vA_in _ w (in_Jx4a65c w h)
  have hS : va_S A s.heap s.heap [] := va_S.rf
  have hl := lv_entry ([.ref a, .int 1]) (n := 4) (Nat.le_of_ble_eq_true rfl)
  rw [lg_entry_eq]
  generalize (lg_sl ([.ref a, .int 1]) ++ List.replicate (4 - (lg_sl ([.ref a, .int 1])).length) Slot.unset).toArray = ls at hl ⊢
  have hl : lv_has ls 4 [(0, .ref a), (1, .int 1)] := hl
  have hZ := hE.1
  refine lv_aload_n hx hb dJx4a65c_grow_92f84_0 rfl (lv_at hl 0 rfl) ?_
  refine va_get (D := (dC, dI)) (ci := 0) (v := .ref eo) (C := RJx4a65c) (T := TJx4a65c) (N := 3) hx hb hts hinJx4a65c hown hK hP 0 rfl rfl 1 (by decide) (hts _ (vA_in _ _ (in_3 _ (zs16 (zs4 (zs4 (zs0))))))) (fun _ h9 => h9) rfl dJx4a65c_grow_92f84_1 ?_
  refine va_tlen (v := 0) hx hb hZ.2 hS rfl dJx4a65c_grow_92f84_4 ?_
  refine lv_istore_n (lv' := [(2, .int 0), (0, .ref a), (1, .int 1)]) hx hb dJx4a65c_grow_92f84_5 rfl hl (by decide) rfl (fun ls hl => ?_)
  refine lv_iload_n hx hb dJx4a65c_grow_92f84_6 rfl (lv_at hl 0 rfl) ?_
  refine lv_if_gt (tgt := 20) hx hb dJx4a65c_grow_92f84_7 (by decide) (fun c1 => absurd c1 (by decide)) (fun c1 => ?_)
  refine lv_aload_n hx hb dJx4a65c_grow_92f84_10 rfl (lv_at hl 1 rfl) ?_
  refine va_get (D := (dC, dI)) (ci := 0) (v := .ref eo) (C := RJx4a65c) (T := TJx4a65c) (N := 3) hx hb hts hinJx4a65c hown hK hP 0 rfl rfl 1 (by decide) (hts _ (vA_in _ _ (in_3 _ (zs16 (zs4 (zs4 (zs0))))))) (fun _ h9 => h9) rfl dJx4a65c_grow_92f84_11 ?_
  refine va_gets hx hb hZ.1 hS hown (hts _ (vA_in _ _ (in_3 _ (zs16 (zs4 (zs4 (zs1 (zs0)))))))) (fun _ h9 => h9) dJx4a65c_grow_92f84_14 ?_
  refine lv_acmp_eq (rx := some eo) (ry := some eo) (tgt := 45) hx hb dJx4a65c_grow_92f84_17 (by decide) (fun _ => ?_) (fun hh => absurd rfl hh)
  refine lv_aload_n hx hb dJx4a65c_grow_92f84_45 rfl (lv_at hl 1 rfl) ?_
  refine lv_bipush (v := 10) hx hb dJx4a65c_grow_92f84_46 (by decide) ?_
  refine lv_iload_n hx hb dJx4a65c_grow_92f84_48 rfl (lv_at hl 2 rfl) ?_
  refine va_mmax hx hb (by rw [hml]; exact hl.1.symm) hown (hts _ (vA_in _ _ (in_3 _ (zs16 (zs4 (zs4 (zs1 (zs1 (zs0))))))))) (hts _ (vA_in _ _ (in_0 _ (zs16 (zs16 (zs0)))))) (hts _ (vA_in _ _ (in_0 _ (zs16 (zs16 (zs1 (zs0))))))) (hts _ (vA_in _ _ (in_0 _ (zs16 (zs16 (zs1 (zs1 (zs0)))))))) (Nat.le_of_ble_eq_true rfl) (Nat.le_of_ble_eq_true rfl) (Nat.le_of_ble_eq_true rfl) (Nat.le_of_ble_eq_true rfl) dJx4a65c_grow_92f84_49 ?_
  refine lv_topi (fun y2 ey2 => ?_)
  obtain rfl : (10 : Int32) = y2 := (ey2.trans (by decide)).symm
  refine va_newq (C := "java/lang/Object") (N' := 10) hx hb hown (hts _ (vA_in _ _ (in_3 _ (zs16 (zs4 (zs4 (zs1 (zs1 (zs1 (zs0)))))))))) hE.2.1.2.2.2.1 hK hP hD hS hA (by decide) (by decide) (Nat.le_of_ble_eq_true rfl) (Nat.le_of_ble_eq_true rfl) (Nat.le_of_ble_eq_true rfl) dJx4a65c_grow_92f84_52 (fun q kq H hK hP hD hS => ?_)
  have hK : va_K (dC, dI) vwCl [(cO, .object "java/lang/Object"), (kq, .object "java/lang/Object")] s := hK
  obtain rfl : cO = kq := ub_sa_object hK 0 1 rfl rfl
  have hK := hK.sub (tys' := [(cO, .object "java/lang/Object")]) [0] rfl
  have hP : va_P (dC, dI) vwCl [(a, .inr (0, [.int mo, .ref eo, .int 0])), (q, .inl (cO, 10, .inr (.inr (.inr (.inr (fun _ => none))))))] H := hP
  have hD : va_D A [(a, .inr (0, [.int mo, .ref eo, .int 0])), (q, .inl (cO, 10, .inr (.inr (.inr (.inr (fun _ => none))))))] := hD
  refine W.widen (k := 1) (n := 640) (by first | exact Nat.le_of_ble_eq_true rfl | omega) (by first | exact Nat.le_of_ble_eq_true rfl | omega) ?_
  refine lv_dup_x1 hx hb dJx4a65c_grow_92f84_55 rfl rfl ?_
  refine va_put (D := (dC, dI)) (ci := 0) (v := .ref q) (ty := .array (.object "java/lang/Object")) (C := RJx4a65c) (T := TJx4a65c) (N := 3) hx hb hts hinJx4a65c tyJx4a65c tyJx4a65c_ok nmJx4a65c hown hK hP hD hS 0 rfl rfl 1 (by decide) (hts _ (vA_in _ _ (in_3 _ (zs16 (zs4 (zs4 (zs0))))))) (fun _ h9 => h9) rfl (by decide +kernel) rfl rfl (Nat.le_of_ble_eq_true rfl) dJx4a65c_grow_92f84_56 (fun H locs hP hD hS => ?_)
  have hP : va_P (dC, dI) vwCl [(a, .inr (0, [.int mo, .ref q, .int 0])), (q, .inl (cO, 10, .inr (.inr (.inr (.inr (fun _ => none))))))] H := hP
  have hD : va_D A [(a, .inr (0, [.int mo, .ref q, .int 0])), (q, .inl (cO, 10, .inr (.inr (.inr (.inr (fun _ => none))))))] := hD
  exact W.aret (v := .ref q) hx hb hr (Or.inr ⟨_, rfl⟩) (Or.inr ⟨_, rfl⟩) (fun t ht hW => ⟨⟨(10, fun _ => none), q, rfl, ⟨by decide, by decide⟩, (by rw [ht]; exact hP), hD⟩, hS.F ht⟩) hS.2.2 dJx4a65c_grow_92f84_59

def v_k_grow1 : List Cond := .code yJx4a65c_grow_d5877 cJx4a65c_grow_d5877 1 (some (.array (.object "java/lang/Object"))) :: vA
abbrev rm_k_grow1 : Room := { frames := 5, cells := 1, slots := 640, locals := 200 }
set_option maxHeartbeats 4000000 in
set_option maxRecDepth 100000 in
theorem k_grow1 (l : Launch) (dC : Nat → ClassId) (dI : Nat → Nat → Nat) (cO : ClassId) (a d n eo : Nat) (mo : Int32) (C : String) (f : Nat → Option Nat) (sz : Nat) (hn1 : 1 ≤ n) (hn : n ≤ 300) : Met l yJx4a65c_grow_d5877 v_k_grow1 rm_k_grow1 (va_Pc [.ref a] (fun U => U.heap.size = sz ∧ va_P (dC, dI) vwCl [(a, .inr (0, [.int mo, .ref d, .int (nI n)])), (d, .inl (cO, n, .inr (.inr (.inr (.inr f)))))]  U.heap ∧ va_K (dC, dI) vwCl [(cO, .object "java/lang/Object")] U ∧ va_D (fun _ => True) [(a, .inr (0, [.int mo, .ref d, .int (nI n)])), (d, .inl (cO, n, .inr (.inr (.inr (.inr f)))))] ∧ EL eo C n f (va_A [(a, .inr (0, [.int mo, .ref d, .int (nI n)])), (d, .inl (cO, n, .inr (.inr (.inr (.inr f)))))] sz) U U.heap)) (va_Qr (S := Nat × (Nat → Option Nat)) (fun u => n + 1 ≤ u.1 ∧ u.1 ≤ 2 * (n + 1) + 10 ∧ ∀ j : Nat, j < n → u.2 j = f j) (fun u q t => va_P (dC, dI) vwCl [(a, .inr (0, [.int mo, .ref q, .int (nI n)])), (q, .inl (cO, u.1, .inr (.inr (.inr (.inr u.2)))))] t.heap ∧ va_D (va_A [(a, .inr (0, [.int mo, .ref d, .int (nI n)])), (d, .inl (cO, n, .inr (.inr (.inr (.inr f)))))] sz) [(a, .inr (0, [.int mo, .ref q, .int (nI n)])), (q, .inl (cO, u.1, .inr (.inr (.inr (.inr u.2)))))]) (va_A [(a, .inr (0, [.int mo, .ref d, .int (nI n)])), (d, .inl (cO, n, .inr (.inr (.inr (.inr f)))))] sz)) 1 640 (va_A [(a, .inr (0, [.int mo, .ref d, .int (nI n)])), (d, .inl (cO, n, .inr (.inr (.inr (.inr f)))))] sz) := by
  refine Met.ofW (cc := cJx4a65c_grow_d5877) (maxL := 1) (ret := (some (.array (.object "java/lang/Object")))) (by decide) rfl ?_
  intro p e s m args below meth c s₁ B hml hv
  obtain ⟨rfl, hsz, hP, hK, hD0, hE⟩ := hv
  have hx := B.exec
  have hb := B.bytes
  have hr := B.returns
  have hts := atoms_spec (ws := v_k_grow1) B.pre
  have hown : s.vm.findClass RJx4a65c = some m.cls := findClass_of_methodNamed B.named
  have hlocks := B.notSynchronized
  subst hsz
  have hD := hD0.self (sz := s.heap.size)
  generalize hAe : va_A [(a, .inr (0, [.int mo, .ref d, .int (nI n)])), (d, .inl (cO, n, .inr (.inr (.inr (.inr f)))))] s.heap.size = A at hD hE ⊢
  have hA : ∀ q : Nat, s.heap.size ≤ q → A q := fun q h => by rw [← hAe]; exact Or.inr h
  have hinJx4a65c : ∀ w ∈ u_ws RJx4a65c TJx4a65c 3, w ∈ v_k_grow1 := fun w h => vA_in _ w (in_Jx4a65c w h)
  have hS : va_S A s.heap s.heap [] := va_S.rf
  have hl := lv_entry ([.ref a]) (n := 1) (Nat.le_of_ble_eq_true rfl)
  rw [lg_entry_eq]
  generalize (lg_sl ([.ref a]) ++ List.replicate (1 - (lg_sl ([.ref a])).length) Slot.unset).toArray = ls at hl ⊢
  have hl : lv_has ls 1 [(0, .ref a)] := hl
  refine lv_aload_n hx hb dJx4a65c_grow_d5877_0 rfl (lv_at hl 0 rfl) ?_
  refine lv_aload_n hx hb dJx4a65c_grow_d5877_1 rfl (lv_at hl 0 rfl) ?_
  refine va_get (D := (dC, dI)) (ci := 0) (v := .int (nI n)) (C := RJx4a65c) (T := TJx4a65c) (N := 3) hx hb hts hinJx4a65c hown hK hP 0 rfl rfl 2 (by decide) (hts _ (vA_in _ _ (in_3 _ (zs4 (zs4 (zs4 (zs1 (zs1 (zs0))))))))) (fun _ h9 => h9) rfl dJx4a65c_grow_d5877_2 ?_
  refine lv_iconst (v := 1) hx hb dJx4a65c_grow_d5877_5 (by decide) ?_
  refine lv_iadd hx hb dJx4a65c_grow_d5877_6 ?_
  refine lv_topi (fun y1 e1 => ?_)
  obtain rfl : (nI (n + 1)) = y1 := (by rw [e1]; exact nIs_ n)
  have hPc := hP.sub (ws' := [(a, .inr (0, [.int mo, .ref d, .int (nI n)])), (d, .inl (cO, n, .inr (.inr (.inr (.inr f)))))]) [0, 1] rfl
  have hDc := hD.sub (ws' := [(a, .inr (0, [.int mo, .ref d, .int (nI n)])), (d, .inl (cO, n, .inr (.inr (.inr (.inr f)))))]) [0, 1] (by decide) rfl
  have hFc := va_free (wc := [(a, .inr (0, [.int mo, .ref d, .int (nI n)])), (d, .inl (cO, n, .inr (.inr (.inr (.inr f)))))]) hD hS hA [0, 1] rfl
  refine va_callr (va_runV (As := [.int (nI (n + 1))]) (rest := []) ⟨hx, hb, hml, hown, hts⟩ (k_growI1 l dC dI cO a d n eo mo C f s.heap.size hn1 hn) (cwV 1 hts (gi_V (in_3 _ (zs16 (zs4 (zs0)))) (in_3 _ (zs16 (zs4 (zs1 (zs0))))) (in_3 _ (zs16 (zs4 (zs1 (zs1 (zs0)))))) (in_3 _ (zs16 (zs1 (zs1 (zs0))))) (in_3 _ (zs16 (zs4 (zs1 (zs1 (zs1 (zs0)))))))) rfl rfl rfl ⟨rfl, hz_yJx4a65c_grow_92f84_1⟩ ⟨Nat.le_of_ble_eq_true rfl, Nat.le_of_ble_eq_true rfl⟩) ⟨fun a U g mk q => by obtain ⟨e0, e1, qP, qK, qD, qE⟩ := q; exact ⟨e0, e1, qP, va_K.moved (u := U) (U := U.calling g mk a) (Vm.Alike.refl U.vm) qK, qD, EL_c qE⟩, va_recv hK hP (ci := 0) (q0 := 0) rfl rfl, fun U hU hW => ⟨rfl, by rw [hU], by rw [hU]; exact hPc, va_K.moved hW.alike hK, hDc.weaken (fun _ _ _ _ => trivial), EL_w hU hW hS hFc hE⟩⟩ rfl rfl hl.1 rfl (lv_room (Nat.le_of_ble_eq_true rfl)) dJx4a65c_grow_d5877_7 ⟨Nat.le_of_ble_eq_true rfl, Nat.le_of_ble_eq_true rfl⟩) hS (fun q _ h => hFc q h) hFc (fun u r t H1 locs ht hvm hw hB hz1 hk1 hS => ?_)
  obtain ⟨hP1, hD1⟩ := hB
  rw [ht] at hP1
  obtain ⟨hP, hD⟩ := va_join (wr := []) (w1 := [(a, .inr (0, [.int mo, .ref r, .int (nI n)])), (r, .inl (cO, u.1, .inr (.inr (.inr (.inr u.2)))))]) hP hD [0, 1] [] rfl rfl (by decide) (by decide) hk1 hFc hP1 hD1
  generalize H1 = H at hP hS ⊢
  exact W.aret (v := .ref r) hx hb hr (Or.inr ⟨_, rfl⟩) (Or.inr ⟨_, rfl⟩) (fun t ht hW => ⟨⟨u, r, rfl, hw, (by rw [ht]; exact hP), hD⟩, hS.F ht⟩) hS.2.2 dJx4a65c_grow_d5877_10

def v_k_grow0 : List Cond := .code yJx4a65c_grow_d5877 cJx4a65c_grow_d5877 1 (some (.array (.object "java/lang/Object"))) :: vA
abbrev rm_k_grow0 : Room := { frames := 5, cells := 1, slots := 640, locals := 200 }
set_option maxHeartbeats 4000000 in
set_option maxRecDepth 100000 in
theorem k_grow0 (l : Launch) (dC : Nat → ClassId) (dI : Nat → Nat → Nat) (cO : ClassId) (a eo : Nat) (mo : Int32) (C : String) (f : Nat → Option Nat) (sz : Nat)  : Met l yJx4a65c_grow_d5877 v_k_grow0 rm_k_grow0 (va_Pc [.ref a] (fun U => U.heap.size = sz ∧ va_P (dC, dI) vwCl [(a, .inr (0, [.int mo, .ref eo, .int 0]))]  U.heap ∧ va_K (dC, dI) vwCl [(cO, .object "java/lang/Object")] U ∧ va_D (fun _ => True) [(a, .inr (0, [.int mo, .ref eo, .int 0]))] ∧ EL eo C 0 f (va_A [(a, .inr (0, [.int mo, .ref eo, .int 0]))] sz) U U.heap)) (va_Qr (S := Nat × (Nat → Option Nat)) (fun u => 1 ≤ u.1 ∧ u.1 ≤ 12) (fun u q t => va_P (dC, dI) vwCl [(a, .inr (0, [.int mo, .ref q, .int 0])), (q, .inl (cO, u.1, .inr (.inr (.inr (.inr u.2)))))] t.heap ∧ va_D (va_A [(a, .inr (0, [.int mo, .ref eo, .int 0]))] sz) [(a, .inr (0, [.int mo, .ref q, .int 0])), (q, .inl (cO, u.1, .inr (.inr (.inr (.inr u.2)))))]) (va_A [(a, .inr (0, [.int mo, .ref eo, .int 0]))] sz)) 1 640 (va_A [(a, .inr (0, [.int mo, .ref eo, .int 0]))] sz) := by
  refine Met.ofW (cc := cJx4a65c_grow_d5877) (maxL := 1) (ret := (some (.array (.object "java/lang/Object")))) (by decide) rfl ?_
  intro p e s m args below meth c s₁ B hml hv
  obtain ⟨rfl, hsz, hP, hK, hD0, hE⟩ := hv
  have hx := B.exec
  have hb := B.bytes
  have hr := B.returns
  have hts := atoms_spec (ws := v_k_grow0) B.pre
  have hown : s.vm.findClass RJx4a65c = some m.cls := findClass_of_methodNamed B.named
  have hlocks := B.notSynchronized
  subst hsz
  have hD := hD0.self (sz := s.heap.size)
  generalize hAe : va_A [(a, .inr (0, [.int mo, .ref eo, .int 0]))] s.heap.size = A at hD hE ⊢
  have hA : ∀ q : Nat, s.heap.size ≤ q → A q := fun q h => by rw [← hAe]; exact Or.inr h
  have hinJx4a65c : ∀ w ∈ u_ws RJx4a65c TJx4a65c 3, w ∈ v_k_grow0 := fun w h => vA_in _ w (in_Jx4a65c w h)
  have hS : va_S A s.heap s.heap [] := va_S.rf
  have hl := lv_entry ([.ref a]) (n := 1) (Nat.le_of_ble_eq_true rfl)
  rw [lg_entry_eq]
  generalize (lg_sl ([.ref a]) ++ List.replicate (1 - (lg_sl ([.ref a])).length) Slot.unset).toArray = ls at hl ⊢
  have hl : lv_has ls 1 [(0, .ref a)] := hl
  refine lv_aload_n hx hb dJx4a65c_grow_d5877_0 rfl (lv_at hl 0 rfl) ?_
  refine lv_aload_n hx hb dJx4a65c_grow_d5877_1 rfl (lv_at hl 0 rfl) ?_
  refine va_get (D := (dC, dI)) (ci := 0) (v := .int 0) (C := RJx4a65c) (T := TJx4a65c) (N := 3) hx hb hts hinJx4a65c hown hK hP 0 rfl rfl 2 (by decide) (hts _ (vA_in _ _ (in_3 _ (zs4 (zs4 (zs4 (zs1 (zs1 (zs0))))))))) (fun _ h9 => h9) rfl dJx4a65c_grow_d5877_2 ?_
  refine lv_iconst (v := 1) hx hb dJx4a65c_grow_d5877_5 (by decide) ?_
  refine lv_iadd hx hb dJx4a65c_grow_d5877_6 ?_
  refine lv_topi (fun y1 e1 => ?_)
  obtain rfl : (1 : Int32) = y1 := (by rw [e1]; decide)
  have hPc := hP.sub (ws' := [(a, .inr (0, [.int mo, .ref eo, .int 0]))]) [0] rfl
  have hDc := hD.sub (ws' := [(a, .inr (0, [.int mo, .ref eo, .int 0]))]) [0] (by decide) rfl
  have hFc := va_free (wc := [(a, .inr (0, [.int mo, .ref eo, .int 0]))]) hD hS hA [0] rfl
  refine va_callr (va_runV (As := [.int 1]) (rest := []) ⟨hx, hb, hml, hown, hts⟩ (k_growI0 l dC dI cO a eo mo C f s.heap.size) (cwV 1 hts (gi_V (in_3 _ (zs16 (zs4 (zs0)))) (in_3 _ (zs16 (zs4 (zs1 (zs0))))) (in_3 _ (zs16 (zs4 (zs1 (zs1 (zs0)))))) (in_3 _ (zs16 (zs1 (zs1 (zs0))))) (in_3 _ (zs16 (zs4 (zs1 (zs1 (zs1 (zs0)))))))) rfl rfl rfl ⟨rfl, hz_yJx4a65c_grow_92f84_1⟩ ⟨Nat.le_of_ble_eq_true rfl, Nat.le_of_ble_eq_true rfl⟩) ⟨fun a U g mk q => by obtain ⟨e0, e1, qP, qK, qD, qE⟩ := q; exact ⟨e0, e1, qP, va_K.moved (u := U) (U := U.calling g mk a) (Vm.Alike.refl U.vm) qK, qD, EL_c qE⟩, va_recv hK hP (ci := 0) (q0 := 0) rfl rfl, fun U hU hW => ⟨rfl, by rw [hU], by rw [hU]; exact hPc, va_K.moved hW.alike hK, hDc.weaken (fun _ _ _ _ => trivial), EL_w hU hW hS hFc hE⟩⟩ rfl rfl hl.1 rfl (lv_room (Nat.le_of_ble_eq_true rfl)) dJx4a65c_grow_d5877_7 ⟨Nat.le_of_ble_eq_true rfl, Nat.le_of_ble_eq_true rfl⟩) hS (fun q _ h => hFc q h) hFc (fun u r t H1 locs ht hvm hw hB hz1 hk1 hS => ?_)
  obtain ⟨hP1, hD1⟩ := hB
  rw [ht] at hP1
  obtain ⟨hP, hD⟩ := va_join (wr := []) (w1 := [(a, .inr (0, [.int mo, .ref r, .int 0])), (r, .inl (cO, u.1, .inr (.inr (.inr (.inr u.2)))))]) hP hD [0] [] rfl rfl (by decide) (by decide) hk1 hFc hP1 hD1
  generalize H1 = H at hP hS ⊢
  exact W.aret (v := .ref r) hx hb hr (Or.inr ⟨_, rfl⟩) (Or.inr ⟨_, rfl⟩) (fun t ht hW => ⟨⟨u, r, rfl, hw, (by rw [ht]; exact hP), hD⟩, hS.F ht⟩) hS.2.2 dJx4a65c_grow_d5877_10

def v_k_add3A : List Cond := .code yJx4a65c_add_72be8 cJx4a65c_add_72be8 4 none :: vA
abbrev rm_k_add3A : Room := { frames := 6, cells := 1, slots := 640, locals := 240 }
set_option maxHeartbeats 4000000 in
set_option maxRecDepth 100000 in
theorem k_add3A (l : Launch) (dC : Nat → ClassId) (dI : Nat → Nat → Nat) (cO : ClassId) (a d v n cap eo ci : Nat) (mo : Int32) (C : String) (T : u_T) (NC : Nat) (vs : List Value) (f : Nat → Option Nat) (sz : Nat) (hn : n ≤ 300) (hcap : n + 1 ≤ cap) (hcap2 : cap ≤ 2 * (n + 1) + 10) (hci : vwCl[ci]? = some (C, T, NC)) : Met l yJx4a65c_add_72be8 v_k_add3A rm_k_add3A (va_Pc [.ref a, .ref v, .ref d, .int (nI n)] (fun U => U.heap.size = sz ∧ va_P (dC, dI) vwCl [(a, .inr (0, [.int mo, .ref d, .int (nI n)])), (d, .inl (cO, cap, .inr (.inr (.inr (.inr f))))), (v, .inr (ci, vs))]  U.heap ∧ va_K (dC, dI) vwCl [(cO, .object "java/lang/Object")] U ∧ va_D (fun _ => True) [(a, .inr (0, [.int mo, .ref d, .int (nI n)])), (d, .inl (cO, cap, .inr (.inr (.inr (.inr f))))), (v, .inr (ci, vs))] ∧ EL eo C n f (va_A [(a, .inr (0, [.int mo, .ref d, .int (nI n)])), (d, .inl (cO, cap, .inr (.inr (.inr (.inr f))))), (v, .inr (ci, vs))] sz) U U.heap)) (va_Qv (S := Nat × Nat × (Nat → Option Nat)) (fun u => n + 1 ≤ u.2.1 ∧ u.2.1 ≤ 2 * (n + 1) + 10 ∧ (∀ j : Nat, j < n → u.2.2 j = f j) ∧ u.2.2 n = some v) (fun u t => va_P (dC, dI) vwCl [(a, .inr (0, [.int mo, .ref u.1, .int (nI (n + 1))])), (u.1, .inl (cO, u.2.1, .inr (.inr (.inr (.inr u.2.2))))), (v, .inr (ci, vs))] t.heap ∧ va_D (va_A [(a, .inr (0, [.int mo, .ref d, .int (nI n)])), (d, .inl (cO, cap, .inr (.inr (.inr (.inr f))))), (v, .inr (ci, vs))] sz) [(a, .inr (0, [.int mo, .ref u.1, .int (nI (n + 1))])), (u.1, .inl (cO, u.2.1, .inr (.inr (.inr (.inr u.2.2))))), (v, .inr (ci, vs))]) (va_A [(a, .inr (0, [.int mo, .ref d, .int (nI n)])), (d, .inl (cO, cap, .inr (.inr (.inr (.inr f))))), (v, .inr (ci, vs))] sz)) 1 640 (va_A [(a, .inr (0, [.int mo, .ref d, .int (nI n)])), (d, .inl (cO, cap, .inr (.inr (.inr (.inr f))))), (v, .inr (ci, vs))] sz) := by
  refine Met.ofW (cc := cJx4a65c_add_72be8) (maxL := 4) (ret := none) (by decide) rfl ?_
  intro p e s m args below meth c s₁ B hml hv
  obtain ⟨rfl, hsz, hP, hK, hD0, hE⟩ := hv
  have hx := B.exec
  have hb := B.bytes
  have hr := B.returns
  have hts := atoms_spec (ws := v_k_add3A) B.pre
  have hown : s.vm.findClass RJx4a65c = some m.cls := findClass_of_methodNamed B.named
  have hlocks := B.notSynchronized
  subst hsz
  have hD := hD0.self (sz := s.heap.size)
  generalize hAe : va_A [(a, .inr (0, [.int mo, .ref d, .int (nI n)])), (d, .inl (cO, cap, .inr (.inr (.inr (.inr f))))), (v, .inr (ci, vs))] s.heap.size = A at hD hE ⊢
  have hA : ∀ q : Nat, s.heap.size ≤ q → A q := fun q h => by rw [← hAe]; exact Or.inr h
  have hinJx4a65c : ∀ w ∈ u_ws RJx4a65c TJx4a65c 3, w ∈ v_k_add3A := fun w h => vA_in _ w (in_Jx4a65c w h)
  have hS : va_S A s.heap s.heap [] := va_S.rf
  have hl := lv_entry ([.ref a, .ref v, .ref d, .int (nI n)]) (n := 4) (Nat.le_of_ble_eq_true rfl)
  rw [lg_entry_eq]
  generalize (lg_sl ([.ref a, .ref v, .ref d, .int (nI n)]) ++ List.replicate (4 - (lg_sl ([.ref a, .ref v, .ref d, .int (nI n)])).length) Slot.unset).toArray = ls at hl ⊢
  have hl : lv_has ls 4 [(0, .ref a), (1, .ref v), (2, .ref d), (3, .int (nI n))] := hl
  refine lv_iload_n hx hb dJx4a65c_add_72be8_0 rfl (lv_at hl 3 rfl) ?_
  refine lv_aload_n hx hb dJx4a65c_add_72be8_1 rfl (lv_at hl 2 rfl) ?_
  refine va_alen (v := nI cap) hx hb hK hP 1 0 rfl rfl rfl dJx4a65c_add_72be8_2 ?_
  refine lv_icmp_ne (tgt := 11) hx hb dJx4a65c_add_72be8_3 (by decide) (fun c1 => ?_) (fun c1 => absurd (nI_inj c1 (by omega) (by omega)) (by omega))
  refine W.widen (k := 1) (n := 640) (by first | exact Nat.le_of_ble_eq_true rfl | omega) (by first | exact Nat.le_of_ble_eq_true rfl | omega) ?_
  refine lv_aload_n hx hb dJx4a65c_add_72be8_11 rfl (lv_at hl 2 rfl) ?_
  refine lv_iload_n hx hb dJx4a65c_add_72be8_12 rfl (lv_at hl 3 rfl) ?_
  refine lv_aload_n hx hb dJx4a65c_add_72be8_13 rfl (lv_at hl 1 rfl) ?_
  have hca := hE.2.2.2
  refine va_astqO hx hb hK hP hD hS 1 0 2 ci rfl rfl hca rfl hci (vp_in_iff.mpr ⟨by have i0 : (nI n).toInt = (n : Int) := nI_toInt (by omega); omega, by have i0 : (nI n).toInt = (n : Int) := nI_toInt (by omega); omega⟩) dJx4a65c_add_72be8_14 (fun H locs hP hD hS => ?_)
  have hP : va_P (dC, dI) vwCl [(a, .inr (0, [.int mo, .ref d, .int (nI n)])), (d, .inl (cO, cap, .inr (.inr (.inr (.inr (va_up f ((nI n) : Int32).toNatClampNeg (some v))))))), (v, .inr (ci, vs))] H := hP
  have hD : va_D A [(a, .inr (0, [.int mo, .ref d, .int (nI n)])), (d, .inl (cO, cap, .inr (.inr (.inr (.inr (va_up f ((nI n) : Int32).toNatClampNeg (some v))))))), (v, .inr (ci, vs))] := hD
  refine lv_aload_n hx hb dJx4a65c_add_72be8_15 rfl (lv_at hl 0 rfl) ?_
  refine lv_iload_n hx hb dJx4a65c_add_72be8_16 rfl (lv_at hl 3 rfl) ?_
  refine lv_iconst (v := 1) hx hb dJx4a65c_add_72be8_17 (by decide) ?_
  refine lv_iadd hx hb dJx4a65c_add_72be8_18 ?_
  refine lv_topi (fun y1 e1 => ?_)
  obtain rfl : (nI (n + 1)) = y1 := (by rw [e1]; exact nIs_ n)
  refine va_put (D := (dC, dI)) (ci := 0) (v := .int (nI (n + 1))) (ty := .int) (C := RJx4a65c) (T := TJx4a65c) (N := 3) hx hb hts hinJx4a65c tyJx4a65c tyJx4a65c_ok nmJx4a65c hown hK hP hD hS 0 rfl rfl 2 (by decide) (hts _ (vA_in _ _ (in_3 _ (zs4 (zs4 (zs4 (zs1 (zs1 (zs0))))))))) (fun _ h9 => h9) rfl (by decide +kernel) rfl rfl (Nat.le_of_ble_eq_true rfl) dJx4a65c_add_72be8_19 (fun H locs hP hD hS => ?_)
  have hP : va_P (dC, dI) vwCl [(a, .inr (0, [.int mo, .ref d, .int (nI (n + 1))])), (d, .inl (cO, cap, .inr (.inr (.inr (.inr (va_up f ((nI n) : Int32).toNatClampNeg (some v))))))), (v, .inr (ci, vs))] H := hP
  have hD : va_D A [(a, .inr (0, [.int mo, .ref d, .int (nI (n + 1))])), (d, .inl (cO, cap, .inr (.inr (.inr (.inr (va_up f ((nI n) : Int32).toNatClampNeg (some v))))))), (v, .inr (ci, vs))] := hD
  have hP9 := hP.sub (ws' := [(a, .inr (0, [.int mo, .ref d, .int (nI (n + 1))])), (d, .inl (cO, cap, .inr (.inr (.inr (.inr (va_up f ((nI n) : Int32).toNatClampNeg (some v))))))), (v, .inr (ci, vs))]) [0, 1, 2] rfl
  have hD9 := hD.sub (ws' := [(a, .inr (0, [.int mo, .ref d, .int (nI (n + 1))])), (d, .inl (cO, cap, .inr (.inr (.inr (.inr (va_up f ((nI n) : Int32).toNatClampNeg (some v))))))), (v, .inr (ci, vs))]) [0, 1, 2] (by decide) rfl
  exact W.vret hx hb hr (fun t ht hW => ⟨⟨(d, cap, (va_up f ((nI n) : Int32).toNatClampNeg (some v))), rfl, ⟨hcap, hcap2, fun j hj => up_nn hj (by omega), up_ns (by omega)⟩, (by rw [ht]; exact hP9), hD9⟩, hS.F ht⟩) hS.2.2 dJx4a65c_add_72be8_22

def v_k_add3B : List Cond := .code yJx4a65c_add_72be8 cJx4a65c_add_72be8 4 none :: vA
abbrev rm_k_add3B : Room := { frames := 6, cells := 1, slots := 640, locals := 240 }
set_option maxHeartbeats 4000000 in
set_option maxRecDepth 100000 in
theorem k_add3B (l : Launch) (dC : Nat → ClassId) (dI : Nat → Nat → Nat) (cO : ClassId) (a d v n eo ci : Nat) (mo : Int32) (C : String) (T : u_T) (NC : Nat) (vs : List Value) (f : Nat → Option Nat) (sz : Nat) (hn1 : 1 ≤ n) (hn : n ≤ 300) (hci : vwCl[ci]? = some (C, T, NC)) : Met l yJx4a65c_add_72be8 v_k_add3B rm_k_add3B (va_Pc [.ref a, .ref v, .ref d, .int (nI n)] (fun U => U.heap.size = sz ∧ va_P (dC, dI) vwCl [(a, .inr (0, [.int mo, .ref d, .int (nI n)])), (d, .inl (cO, n, .inr (.inr (.inr (.inr f))))), (v, .inr (ci, vs))]  U.heap ∧ va_K (dC, dI) vwCl [(cO, .object "java/lang/Object")] U ∧ va_D (fun _ => True) [(a, .inr (0, [.int mo, .ref d, .int (nI n)])), (d, .inl (cO, n, .inr (.inr (.inr (.inr f))))), (v, .inr (ci, vs))] ∧ EL eo C n f (va_A [(a, .inr (0, [.int mo, .ref d, .int (nI n)])), (d, .inl (cO, n, .inr (.inr (.inr (.inr f))))), (v, .inr (ci, vs))] sz) U U.heap)) (va_Qv (S := Nat × Nat × (Nat → Option Nat)) (fun u => n + 1 ≤ u.2.1 ∧ u.2.1 ≤ 2 * (n + 1) + 10 ∧ (∀ j : Nat, j < n → u.2.2 j = f j) ∧ u.2.2 n = some v) (fun u t => va_P (dC, dI) vwCl [(a, .inr (0, [.int mo, .ref u.1, .int (nI (n + 1))])), (u.1, .inl (cO, u.2.1, .inr (.inr (.inr (.inr u.2.2))))), (v, .inr (ci, vs))] t.heap ∧ va_D (va_A [(a, .inr (0, [.int mo, .ref d, .int (nI n)])), (d, .inl (cO, n, .inr (.inr (.inr (.inr f))))), (v, .inr (ci, vs))] sz) [(a, .inr (0, [.int mo, .ref u.1, .int (nI (n + 1))])), (u.1, .inl (cO, u.2.1, .inr (.inr (.inr (.inr u.2.2))))), (v, .inr (ci, vs))]) (va_A [(a, .inr (0, [.int mo, .ref d, .int (nI n)])), (d, .inl (cO, n, .inr (.inr (.inr (.inr f))))), (v, .inr (ci, vs))] sz)) 1 640 (va_A [(a, .inr (0, [.int mo, .ref d, .int (nI n)])), (d, .inl (cO, n, .inr (.inr (.inr (.inr f))))), (v, .inr (ci, vs))] sz) := by
  refine Met.ofW (cc := cJx4a65c_add_72be8) (maxL := 4) (ret := none) (by decide) rfl ?_
  intro p e s m args below meth c s₁ B hml hv
  obtain ⟨rfl, hsz, hP, hK, hD0, hE⟩ := hv
  have hx := B.exec
  have hb := B.bytes
  have hr := B.returns
  have hts := atoms_spec (ws := v_k_add3B) B.pre
  have hown : s.vm.findClass RJx4a65c = some m.cls := findClass_of_methodNamed B.named
  have hlocks := B.notSynchronized
  subst hsz
  have hD := hD0.self (sz := s.heap.size)
  generalize hAe : va_A [(a, .inr (0, [.int mo, .ref d, .int (nI n)])), (d, .inl (cO, n, .inr (.inr (.inr (.inr f))))), (v, .inr (ci, vs))] s.heap.size = A at hD hE ⊢
  have hA : ∀ q : Nat, s.heap.size ≤ q → A q := fun q h => by rw [← hAe]; exact Or.inr h
  have hinJx4a65c : ∀ w ∈ u_ws RJx4a65c TJx4a65c 3, w ∈ v_k_add3B := fun w h => vA_in _ w (in_Jx4a65c w h)
  have hS : va_S A s.heap s.heap [] := va_S.rf
  have hl := lv_entry ([.ref a, .ref v, .ref d, .int (nI n)]) (n := 4) (Nat.le_of_ble_eq_true rfl)
  rw [lg_entry_eq]
  generalize (lg_sl ([.ref a, .ref v, .ref d, .int (nI n)]) ++ List.replicate (4 - (lg_sl ([.ref a, .ref v, .ref d, .int (nI n)])).length) Slot.unset).toArray = ls at hl ⊢
  have hl : lv_has ls 4 [(0, .ref a), (1, .ref v), (2, .ref d), (3, .int (nI n))] := hl
  refine lv_iload_n hx hb dJx4a65c_add_72be8_0 rfl (lv_at hl 3 rfl) ?_
  refine lv_aload_n hx hb dJx4a65c_add_72be8_1 rfl (lv_at hl 2 rfl) ?_
  refine va_alen (v := nI n) hx hb hK hP 1 0 rfl rfl rfl dJx4a65c_add_72be8_2 ?_
  refine lv_icmp_ne (tgt := 11) hx hb dJx4a65c_add_72be8_3 (by decide) (fun c1 => absurd rfl c1) (fun c1 => ?_)
  refine lv_aload_n hx hb dJx4a65c_add_72be8_6 rfl (lv_at hl 0 rfl) ?_
  have hPc := hP.sub (ws' := [(a, .inr (0, [.int mo, .ref d, .int (nI n)])), (d, .inl (cO, n, .inr (.inr (.inr (.inr f)))))]) [0, 1] rfl
  have hDc := hD.sub (ws' := [(a, .inr (0, [.int mo, .ref d, .int (nI n)])), (d, .inl (cO, n, .inr (.inr (.inr (.inr f)))))]) [0, 1] (by decide) rfl
  have hFc := va_free (wc := [(a, .inr (0, [.int mo, .ref d, .int (nI n)])), (d, .inl (cO, n, .inr (.inr (.inr (.inr f)))))]) hD hS hA [0, 1] rfl
  refine va_callr (va_runV (As := []) (rest := []) ⟨hx, hb, hml, hown, hts⟩ (k_grow1 l dC dI cO a d n eo mo C f s.heap.size hn1 hn) (cwV 0 hts (gi_V (in_3 _ (zs4 (zs4 (zs4 (zs1 (zs1 (zs1 (zs0)))))))) (in_3 _ (zs16 (zs0))) (in_3 _ (zs16 (zs1 (zs0)))) (in_3 _ (zs16 (zs1 (zs1 (zs0))))) (in_3 _ (zs16 (zs1 (zs1 (zs1 (zs0))))))) rfl rfl rfl ⟨rfl, hz_yJx4a65c_grow_d5877_0⟩ ⟨Nat.le_of_ble_eq_true rfl, Nat.le_of_ble_eq_true rfl⟩) ⟨fun a U g mk q => by obtain ⟨e0, e1, qP, qK, qD, qE⟩ := q; exact ⟨e0, e1, qP, va_K.moved (u := U) (U := U.calling g mk a) (Vm.Alike.refl U.vm) qK, qD, EL_c qE⟩, va_recv hK hP (ci := 0) (q0 := 0) rfl rfl, fun U hU hW => ⟨rfl, by rw [hU], by rw [hU]; exact hPc, va_K.moved hW.alike hK, hDc.weaken (fun _ _ _ _ => trivial), EL_w hU hW hS hFc hE⟩⟩ rfl rfl hl.1 rfl (lv_room (Nat.le_of_ble_eq_true rfl)) dJx4a65c_add_72be8_7 ⟨Nat.le_of_ble_eq_true rfl, Nat.le_of_ble_eq_true rfl⟩) hS (fun q _ h => hFc q h) hFc (fun u r t H1 locs ht hvm hw hB hz1 hk1 hS => ?_)
  obtain ⟨hP1, hD1⟩ := hB
  rw [ht] at hP1
  obtain ⟨hP, hD⟩ := va_join (wr := [(v, .inr (ci, vs))]) (w1 := [(a, .inr (0, [.int mo, .ref r, .int (nI n)])), (r, .inl (cO, u.1, .inr (.inr (.inr (.inr u.2)))))]) hP hD [0, 1] [2] rfl rfl (by decide) (by decide) hk1 hFc hP1 hD1
  generalize H1 = H at hP hS ⊢
  obtain ⟨N, f2⟩ := u
  obtain ⟨b1, b2, b3⟩ := hw
  have b1 : n + 1 ≤ N := b1
  have b2 : N ≤ 2 * (n + 1) + 10 := b2
  have b3 : ∀ j : Nat, j < n → f2 j = f j := b3
  have hP : va_P (dC, dI) vwCl [(v, .inr (ci, vs)), (a, .inr (0, [.int mo, .ref r, .int (nI n)])), (r, .inl (cO, N, .inr (.inr (.inr (.inr f2)))))] H := hP
  have hD : va_D A [(v, .inr (ci, vs)), (a, .inr (0, [.int mo, .ref r, .int (nI n)])), (r, .inl (cO, N, .inr (.inr (.inr (.inr f2)))))] := hD
  have hP : va_P (dC, dI) vwCl [(a, .inr (0, [.int mo, .ref r, .int (nI n)])), (r, .inl (cO, N, .inr (.inr (.inr (.inr f2))))), (v, .inr (ci, vs))] H := hP.sub (ws' := [(a, .inr (0, [.int mo, .ref r, .int (nI n)])), (r, .inl (cO, N, .inr (.inr (.inr (.inr f2))))), (v, .inr (ci, vs))]) [1, 2, 0] rfl
  have hD : va_D A [(a, .inr (0, [.int mo, .ref r, .int (nI n)])), (r, .inl (cO, N, .inr (.inr (.inr (.inr f2))))), (v, .inr (ci, vs))] := hD.sub (ws' := [(a, .inr (0, [.int mo, .ref r, .int (nI n)])), (r, .inl (cO, N, .inr (.inr (.inr (.inr f2))))), (v, .inr (ci, vs))]) [1, 2, 0] (by decide) rfl
  refine lv_astore_n (lv' := [(2, .ref r), (0, .ref a), (1, .ref v), (3, .int (nI n))]) hx hb dJx4a65c_add_72be8_10 rfl hl (by decide) rfl (fun ls hl => ?_)
  refine lv_aload_n hx hb dJx4a65c_add_72be8_11 rfl (lv_at hl 0 rfl) ?_
  refine lv_iload_n hx hb dJx4a65c_add_72be8_12 rfl (lv_at hl 3 rfl) ?_
  refine lv_aload_n hx hb dJx4a65c_add_72be8_13 rfl (lv_at hl 2 rfl) ?_
  have hca := hE.2.2.2
  refine va_astqO hx hb hK hP hD hS 1 0 2 ci rfl rfl hca rfl hci (vp_in_iff.mpr ⟨by have i0 : (nI n).toInt = (n : Int) := nI_toInt (by omega); omega, by have i0 : (nI n).toInt = (n : Int) := nI_toInt (by omega); omega⟩) dJx4a65c_add_72be8_14 (fun H locs hP hD hS => ?_)
  have hP : va_P (dC, dI) vwCl [(a, .inr (0, [.int mo, .ref r, .int (nI n)])), (r, .inl (cO, N, .inr (.inr (.inr (.inr (va_up f2 ((nI n) : Int32).toNatClampNeg (some v))))))), (v, .inr (ci, vs))] H := hP
  have hD : va_D A [(a, .inr (0, [.int mo, .ref r, .int (nI n)])), (r, .inl (cO, N, .inr (.inr (.inr (.inr (va_up f2 ((nI n) : Int32).toNatClampNeg (some v))))))), (v, .inr (ci, vs))] := hD
  refine lv_aload_n hx hb dJx4a65c_add_72be8_15 rfl (lv_at hl 1 rfl) ?_
  refine lv_iload_n hx hb dJx4a65c_add_72be8_16 rfl (lv_at hl 3 rfl) ?_
  refine lv_iconst (v := 1) hx hb dJx4a65c_add_72be8_17 (by decide) ?_
  refine lv_iadd hx hb dJx4a65c_add_72be8_18 ?_
  refine lv_topi (fun y1 e1 => ?_)
  obtain rfl : (nI (n + 1)) = y1 := (by rw [e1]; exact nIs_ n)
  refine va_put (D := (dC, dI)) (ci := 0) (v := .int (nI (n + 1))) (ty := .int) (C := RJx4a65c) (T := TJx4a65c) (N := 3) hx hb hts hinJx4a65c tyJx4a65c tyJx4a65c_ok nmJx4a65c hown hK hP hD hS 0 rfl rfl 2 (by decide) (hts _ (vA_in _ _ (in_3 _ (zs4 (zs4 (zs4 (zs1 (zs1 (zs0))))))))) (fun _ h9 => h9) rfl (by decide +kernel) rfl rfl (Nat.le_of_ble_eq_true rfl) dJx4a65c_add_72be8_19 (fun H locs hP hD hS => ?_)
  have hP : va_P (dC, dI) vwCl [(a, .inr (0, [.int mo, .ref r, .int (nI (n + 1))])), (r, .inl (cO, N, .inr (.inr (.inr (.inr (va_up f2 ((nI n) : Int32).toNatClampNeg (some v))))))), (v, .inr (ci, vs))] H := hP
  have hD : va_D A [(a, .inr (0, [.int mo, .ref r, .int (nI (n + 1))])), (r, .inl (cO, N, .inr (.inr (.inr (.inr (va_up f2 ((nI n) : Int32).toNatClampNeg (some v))))))), (v, .inr (ci, vs))] := hD
  have hP9 := hP.sub (ws' := [(a, .inr (0, [.int mo, .ref r, .int (nI (n + 1))])), (r, .inl (cO, N, .inr (.inr (.inr (.inr (va_up f2 ((nI n) : Int32).toNatClampNeg (some v))))))), (v, .inr (ci, vs))]) [0, 1, 2] rfl
  have hD9 := hD.sub (ws' := [(a, .inr (0, [.int mo, .ref r, .int (nI (n + 1))])), (r, .inl (cO, N, .inr (.inr (.inr (.inr (va_up f2 ((nI n) : Int32).toNatClampNeg (some v))))))), (v, .inr (ci, vs))]) [0, 1, 2] (by decide) rfl
  exact W.vret hx hb hr (fun t ht hW => ⟨⟨(r, N, (va_up f2 ((nI n) : Int32).toNatClampNeg (some v))), rfl, ⟨b1, b2, fun j hj => (up_nn hj (by omega)).trans (b3 j hj), up_ns (by omega)⟩, (by rw [ht]; exact hP9), hD9⟩, hS.F ht⟩) hS.2.2 dJx4a65c_add_72be8_22

def v_k_add3C : List Cond := .code yJx4a65c_add_72be8 cJx4a65c_add_72be8 4 none :: vA
abbrev rm_k_add3C : Room := { frames := 6, cells := 1, slots := 640, locals := 240 }
set_option maxHeartbeats 4000000 in
set_option maxRecDepth 100000 in
theorem k_add3C (l : Launch) (dC : Nat → ClassId) (dI : Nat → Nat → Nat) (cO : ClassId) (a v eo ci : Nat) (mo : Int32) (C : String) (T : u_T) (NC : Nat) (vs : List Value) (f : Nat → Option Nat) (sz : Nat) (hci : vwCl[ci]? = some (C, T, NC)) : Met l yJx4a65c_add_72be8 v_k_add3C rm_k_add3C (va_Pc [.ref a, .ref v, .ref eo, .int 0] (fun U => U.heap.size = sz ∧ va_P (dC, dI) vwCl [(a, .inr (0, [.int mo, .ref eo, .int 0])), (v, .inr (ci, vs))]  U.heap ∧ va_K (dC, dI) vwCl [(cO, .object "java/lang/Object")] U ∧ va_D (fun _ => True) [(a, .inr (0, [.int mo, .ref eo, .int 0])), (v, .inr (ci, vs))] ∧ EL eo C 0 f (va_A [(a, .inr (0, [.int mo, .ref eo, .int 0])), (v, .inr (ci, vs))] sz) U U.heap)) (va_Qv (S := Nat × Nat × (Nat → Option Nat)) (fun u => 0 + 1 ≤ u.2.1 ∧ u.2.1 ≤ 2 * (0 + 1) + 10 ∧ (∀ j : Nat, j < 0 → u.2.2 j = f j) ∧ u.2.2 0 = some v) (fun u t => va_P (dC, dI) vwCl [(a, .inr (0, [.int mo, .ref u.1, .int 1])), (u.1, .inl (cO, u.2.1, .inr (.inr (.inr (.inr u.2.2))))), (v, .inr (ci, vs))] t.heap ∧ va_D (va_A [(a, .inr (0, [.int mo, .ref eo, .int 0])), (v, .inr (ci, vs))] sz) [(a, .inr (0, [.int mo, .ref u.1, .int 1])), (u.1, .inl (cO, u.2.1, .inr (.inr (.inr (.inr u.2.2))))), (v, .inr (ci, vs))]) (va_A [(a, .inr (0, [.int mo, .ref eo, .int 0])), (v, .inr (ci, vs))] sz)) 1 640 (va_A [(a, .inr (0, [.int mo, .ref eo, .int 0])), (v, .inr (ci, vs))] sz) := by
  refine Met.ofW (cc := cJx4a65c_add_72be8) (maxL := 4) (ret := none) (by decide) rfl ?_
  intro p e s m args below meth c s₁ B hml hv
  obtain ⟨rfl, hsz, hP, hK, hD0, hE⟩ := hv
  have hx := B.exec
  have hb := B.bytes
  have hr := B.returns
  have hts := atoms_spec (ws := v_k_add3C) B.pre
  have hown : s.vm.findClass RJx4a65c = some m.cls := findClass_of_methodNamed B.named
  have hlocks := B.notSynchronized
  subst hsz
  have hD := hD0.self (sz := s.heap.size)
  generalize hAe : va_A [(a, .inr (0, [.int mo, .ref eo, .int 0])), (v, .inr (ci, vs))] s.heap.size = A at hD hE ⊢
  have hA : ∀ q : Nat, s.heap.size ≤ q → A q := fun q h => by rw [← hAe]; exact Or.inr h
  have hinJx4a65c : ∀ w ∈ u_ws RJx4a65c TJx4a65c 3, w ∈ v_k_add3C := fun w h => vA_in _ w (in_Jx4a65c w h)
  have hS : va_S A s.heap s.heap [] := va_S.rf
  have hl := lv_entry ([.ref a, .ref v, .ref eo, .int 0]) (n := 4) (Nat.le_of_ble_eq_true rfl)
  rw [lg_entry_eq]
  generalize (lg_sl ([.ref a, .ref v, .ref eo, .int 0]) ++ List.replicate (4 - (lg_sl ([.ref a, .ref v, .ref eo, .int 0])).length) Slot.unset).toArray = ls at hl ⊢
  have hl : lv_has ls 4 [(0, .ref a), (1, .ref v), (2, .ref eo), (3, .int 0)] := hl
  have hZ := hE.1
  refine lv_iload_n hx hb dJx4a65c_add_72be8_0 rfl (lv_at hl 3 rfl) ?_
  refine lv_aload_n hx hb dJx4a65c_add_72be8_1 rfl (lv_at hl 2 rfl) ?_
  refine va_tlen (v := 0) hx hb hZ.2 hS rfl dJx4a65c_add_72be8_2 ?_
  refine lv_icmp_ne (tgt := 11) hx hb dJx4a65c_add_72be8_3 (by decide) (fun c1 => absurd rfl c1) (fun c1 => ?_)
  refine lv_aload_n hx hb dJx4a65c_add_72be8_6 rfl (lv_at hl 0 rfl) ?_
  have hPc := hP.sub (ws' := [(a, .inr (0, [.int mo, .ref eo, .int 0]))]) [0] rfl
  have hDc := hD.sub (ws' := [(a, .inr (0, [.int mo, .ref eo, .int 0]))]) [0] (by decide) rfl
  have hFc := va_free (wc := [(a, .inr (0, [.int mo, .ref eo, .int 0]))]) hD hS hA [0] rfl
  refine va_callr (va_runV (As := []) (rest := []) ⟨hx, hb, hml, hown, hts⟩ (k_grow0 l dC dI cO a eo mo C f s.heap.size) (cwV 0 hts (gi_V (in_3 _ (zs4 (zs4 (zs4 (zs1 (zs1 (zs1 (zs0)))))))) (in_3 _ (zs16 (zs0))) (in_3 _ (zs16 (zs1 (zs0)))) (in_3 _ (zs16 (zs1 (zs1 (zs0))))) (in_3 _ (zs16 (zs1 (zs1 (zs1 (zs0))))))) rfl rfl rfl ⟨rfl, hz_yJx4a65c_grow_d5877_0⟩ ⟨Nat.le_of_ble_eq_true rfl, Nat.le_of_ble_eq_true rfl⟩) ⟨fun a U g mk q => by obtain ⟨e0, e1, qP, qK, qD, qE⟩ := q; exact ⟨e0, e1, qP, va_K.moved (u := U) (U := U.calling g mk a) (Vm.Alike.refl U.vm) qK, qD, EL_c qE⟩, va_recv hK hP (ci := 0) (q0 := 0) rfl rfl, fun U hU hW => ⟨rfl, by rw [hU], by rw [hU]; exact hPc, va_K.moved hW.alike hK, hDc.weaken (fun _ _ _ _ => trivial), EL_w hU hW hS hFc hE⟩⟩ rfl rfl hl.1 rfl (lv_room (Nat.le_of_ble_eq_true rfl)) dJx4a65c_add_72be8_7 ⟨Nat.le_of_ble_eq_true rfl, Nat.le_of_ble_eq_true rfl⟩) hS (fun q _ h => hFc q h) hFc (fun u r t H1 locs ht hvm hw hB hz1 hk1 hS => ?_)
  obtain ⟨hP1, hD1⟩ := hB
  rw [ht] at hP1
  obtain ⟨hP, hD⟩ := va_join (wr := [(v, .inr (ci, vs))]) (w1 := [(a, .inr (0, [.int mo, .ref r, .int 0])), (r, .inl (cO, u.1, .inr (.inr (.inr (.inr u.2)))))]) hP hD [0] [1] rfl rfl (by decide) (by decide) hk1 hFc hP1 hD1
  generalize H1 = H at hP hS ⊢
  obtain ⟨N, f2⟩ := u
  obtain ⟨b1, b2⟩ := hw
  have b1 : 1 ≤ N := b1
  have b2 : N ≤ 12 := b2
  have hP : va_P (dC, dI) vwCl [(v, .inr (ci, vs)), (a, .inr (0, [.int mo, .ref r, .int 0])), (r, .inl (cO, N, .inr (.inr (.inr (.inr f2)))))] H := hP
  have hD : va_D A [(v, .inr (ci, vs)), (a, .inr (0, [.int mo, .ref r, .int 0])), (r, .inl (cO, N, .inr (.inr (.inr (.inr f2)))))] := hD
  have hP : va_P (dC, dI) vwCl [(a, .inr (0, [.int mo, .ref r, .int 0])), (r, .inl (cO, N, .inr (.inr (.inr (.inr f2))))), (v, .inr (ci, vs))] H := hP.sub (ws' := [(a, .inr (0, [.int mo, .ref r, .int 0])), (r, .inl (cO, N, .inr (.inr (.inr (.inr f2))))), (v, .inr (ci, vs))]) [1, 2, 0] rfl
  have hD : va_D A [(a, .inr (0, [.int mo, .ref r, .int 0])), (r, .inl (cO, N, .inr (.inr (.inr (.inr f2))))), (v, .inr (ci, vs))] := hD.sub (ws' := [(a, .inr (0, [.int mo, .ref r, .int 0])), (r, .inl (cO, N, .inr (.inr (.inr (.inr f2))))), (v, .inr (ci, vs))]) [1, 2, 0] (by decide) rfl
  refine lv_astore_n (lv' := [(2, .ref r), (0, .ref a), (1, .ref v), (3, .int 0)]) hx hb dJx4a65c_add_72be8_10 rfl hl (by decide) rfl (fun ls hl => ?_)
  refine lv_aload_n hx hb dJx4a65c_add_72be8_11 rfl (lv_at hl 0 rfl) ?_
  refine lv_iload_n hx hb dJx4a65c_add_72be8_12 rfl (lv_at hl 3 rfl) ?_
  refine lv_aload_n hx hb dJx4a65c_add_72be8_13 rfl (lv_at hl 2 rfl) ?_
  have hca := hE.2.2.2
  refine va_astqO hx hb hK hP hD hS 1 0 2 ci rfl rfl hca rfl hci (vp_in_iff.mpr ⟨by have i0 : (0 : Int32).toInt = 0 := rfl; omega, by have i0 : (0 : Int32).toInt = 0 := rfl; omega⟩) dJx4a65c_add_72be8_14 (fun H locs hP hD hS => ?_)
  have hP : va_P (dC, dI) vwCl [(a, .inr (0, [.int mo, .ref r, .int 0])), (r, .inl (cO, N, .inr (.inr (.inr (.inr (va_up f2 (0 : Int32).toNatClampNeg (some v))))))), (v, .inr (ci, vs))] H := hP
  have hD : va_D A [(a, .inr (0, [.int mo, .ref r, .int 0])), (r, .inl (cO, N, .inr (.inr (.inr (.inr (va_up f2 (0 : Int32).toNatClampNeg (some v))))))), (v, .inr (ci, vs))] := hD
  refine lv_aload_n hx hb dJx4a65c_add_72be8_15 rfl (lv_at hl 1 rfl) ?_
  refine lv_iload_n hx hb dJx4a65c_add_72be8_16 rfl (lv_at hl 3 rfl) ?_
  refine lv_iconst (v := 1) hx hb dJx4a65c_add_72be8_17 (by decide) ?_
  refine lv_iadd hx hb dJx4a65c_add_72be8_18 ?_
  refine lv_topi (fun y1 e1 => ?_)
  obtain rfl : (1 : Int32) = y1 := (by rw [e1]; decide)
  refine va_put (D := (dC, dI)) (ci := 0) (v := .int 1) (ty := .int) (C := RJx4a65c) (T := TJx4a65c) (N := 3) hx hb hts hinJx4a65c tyJx4a65c tyJx4a65c_ok nmJx4a65c hown hK hP hD hS 0 rfl rfl 2 (by decide) (hts _ (vA_in _ _ (in_3 _ (zs4 (zs4 (zs4 (zs1 (zs1 (zs0))))))))) (fun _ h9 => h9) rfl (by decide +kernel) rfl rfl (Nat.le_of_ble_eq_true rfl) dJx4a65c_add_72be8_19 (fun H locs hP hD hS => ?_)
  have hP : va_P (dC, dI) vwCl [(a, .inr (0, [.int mo, .ref r, .int 1])), (r, .inl (cO, N, .inr (.inr (.inr (.inr (va_up f2 (0 : Int32).toNatClampNeg (some v))))))), (v, .inr (ci, vs))] H := hP
  have hD : va_D A [(a, .inr (0, [.int mo, .ref r, .int 1])), (r, .inl (cO, N, .inr (.inr (.inr (.inr (va_up f2 (0 : Int32).toNatClampNeg (some v))))))), (v, .inr (ci, vs))] := hD
  have hP9 := hP.sub (ws' := [(a, .inr (0, [.int mo, .ref r, .int 1])), (r, .inl (cO, N, .inr (.inr (.inr (.inr (va_up f2 (0 : Int32).toNatClampNeg (some v))))))), (v, .inr (ci, vs))]) [0, 1, 2] rfl
  have hD9 := hD.sub (ws' := [(a, .inr (0, [.int mo, .ref r, .int 1])), (r, .inl (cO, N, .inr (.inr (.inr (.inr (va_up f2 (0 : Int32).toNatClampNeg (some v))))))), (v, .inr (ci, vs))]) [0, 1, 2] (by decide) rfl
  exact W.vret hx hb hr (fun t ht hW => ⟨⟨(r, N, (va_up f2 (0 : Int32).toNatClampNeg (some v))), rfl, ⟨by omega, by omega, fun j hj => absurd hj (by omega), (show va_up f2 0 (some v) 0 = some v from va_up_self _ _ _)⟩, (by rw [ht]; exact hP9), hD9⟩, hS.F ht⟩) hS.2.2 dJx4a65c_add_72be8_22

def v_k_addA : List Cond := .code yJx4a65c_add_9ea2d cJx4a65c_add_9ea2d 2 (some .boolean) :: vA
abbrev rm_k_addA : Room := { frames := 7, cells := 1, slots := 640, locals := 280 }
set_option maxHeartbeats 4000000 in
set_option maxRecDepth 100000 in
theorem k_addA (l : Launch) (dC : Nat → ClassId) (dI : Nat → Nat → Nat) (cO : ClassId) (a d v n cap eo ci : Nat) (mo : Int32) (C : String) (T : u_T) (NC : Nat) (vs : List Value) (f : Nat → Option Nat) (sz : Nat) (hn : n ≤ 300) (hcap : n + 1 ≤ cap) (hcap2 : cap ≤ 2 * (n + 1) + 10) (hci : vwCl[ci]? = some (C, T, NC)) : Met l yJx4a65c_add_9ea2d v_k_addA rm_k_addA (va_Pc [.ref a, .ref v] (fun U => U.heap.size = sz ∧ va_P (dC, dI) vwCl [(a, .inr (0, [.int mo, .ref d, .int (nI n)])), (d, .inl (cO, cap, .inr (.inr (.inr (.inr f))))), (v, .inr (ci, vs))]  U.heap ∧ va_K (dC, dI) vwCl [(cO, .object "java/lang/Object")] U ∧ va_D (fun _ => True) [(a, .inr (0, [.int mo, .ref d, .int (nI n)])), (d, .inl (cO, cap, .inr (.inr (.inr (.inr f))))), (v, .inr (ci, vs))] ∧ EL eo C n f (va_A [(a, .inr (0, [.int mo, .ref d, .int (nI n)])), (d, .inl (cO, cap, .inr (.inr (.inr (.inr f))))), (v, .inr (ci, vs))] sz) U U.heap)) (va_Qi (S := Nat × Nat × (Nat → Option Nat)) (fun r u => r = 1 ∧ (fun u => n + 1 ≤ u.2.1 ∧ u.2.1 ≤ 2 * (n + 1) + 10 ∧ (∀ j : Nat, j < n → u.2.2 j = f j) ∧ u.2.2 n = some v) u) (fun u t => va_P (dC, dI) vwCl [(a, .inr (0, [.int (mo + 1), .ref u.1, .int (nI (n + 1))])), (u.1, .inl (cO, u.2.1, .inr (.inr (.inr (.inr u.2.2))))), (v, .inr (ci, vs))] t.heap ∧ va_D (va_A [(a, .inr (0, [.int mo, .ref d, .int (nI n)])), (d, .inl (cO, cap, .inr (.inr (.inr (.inr f))))), (v, .inr (ci, vs))] sz) [(a, .inr (0, [.int (mo + 1), .ref u.1, .int (nI (n + 1))])), (u.1, .inl (cO, u.2.1, .inr (.inr (.inr (.inr u.2.2))))), (v, .inr (ci, vs))]) (va_A [(a, .inr (0, [.int mo, .ref d, .int (nI n)])), (d, .inl (cO, cap, .inr (.inr (.inr (.inr f))))), (v, .inr (ci, vs))] sz)) 1 640 (va_A [(a, .inr (0, [.int mo, .ref d, .int (nI n)])), (d, .inl (cO, cap, .inr (.inr (.inr (.inr f))))), (v, .inr (ci, vs))] sz) := by
  refine Met.ofW (cc := cJx4a65c_add_9ea2d) (maxL := 2) (ret := (some .boolean)) (by decide) rfl ?_
  intro p e s m args below meth c s₁ B hml hv
  obtain ⟨rfl, hsz, hP, hK, hD0, hE⟩ := hv
  have hx := B.exec
  have hb := B.bytes
  have hr := B.returns
  have hts := atoms_spec (ws := v_k_addA) B.pre
  have hown : s.vm.findClass RJx4a65c = some m.cls := findClass_of_methodNamed B.named
  have hlocks := B.notSynchronized
  subst hsz
  have hD := hD0.self (sz := s.heap.size)
  generalize hAe : va_A [(a, .inr (0, [.int mo, .ref d, .int (nI n)])), (d, .inl (cO, cap, .inr (.inr (.inr (.inr f))))), (v, .inr (ci, vs))] s.heap.size = A at hD hE ⊢
  have hA : ∀ q : Nat, s.heap.size ≤ q → A q := fun q h => by rw [← hAe]; exact Or.inr h
  have hinJx4a65c : ∀ w ∈ u_ws RJx4a65c TJx4a65c 3, w ∈ v_k_addA := fun w h => vA_in _ w (in_Jx4a65c w h)
  have hS : va_S A s.heap s.heap [] := va_S.rf
  have hl := lv_entry ([.ref a, .ref v]) (n := 2) (Nat.le_of_ble_eq_true rfl)
  rw [lg_entry_eq]
  generalize (lg_sl ([.ref a, .ref v]) ++ List.replicate (2 - (lg_sl ([.ref a, .ref v])).length) Slot.unset).toArray = ls at hl ⊢
  have hl : lv_has ls 2 [(0, .ref a), (1, .ref v)] := hl
  refine lv_aload_n hx hb dJx4a65c_add_9ea2d_0 rfl (lv_at hl 0 rfl) ?_
  refine lv_dup hx hb dJx4a65c_add_9ea2d_1 rfl ?_
  refine va_get (D := (dC, dI)) (ci := 0) (v := .int mo) (C := RJx4a65c) (T := TJx4a65c) (N := 3) hx hb hts hinJx4a65c hown hK hP 0 rfl rfl 0 (by decide) (hts _ (vA_in _ _ (in_3 _ (zs16 (zs16 (zs1 (zs0))))))) (fun x h9 => u_same (hts _ (vA_in _ _ (in_3 _ (zs16 (zs16 (zs1 (zs1 (zs0)))))))) x h9) rfl dJx4a65c_add_9ea2d_2 ?_
  refine lv_iconst (v := 1) hx hb dJx4a65c_add_9ea2d_5 (by decide) ?_
  refine lv_iadd hx hb dJx4a65c_add_9ea2d_6 ?_
  refine va_put (D := (dC, dI)) (ci := 0) (v := .int (mo + 1)) (ty := .int) (C := RJx4a65c) (T := TJx4a65c) (N := 3) hx hb hts hinJx4a65c tyJx4a65c tyJx4a65c_ok nmJx4a65c hown hK hP hD hS 0 rfl rfl 0 (by decide) (hts _ (vA_in _ _ (in_3 _ (zs16 (zs16 (zs1 (zs0))))))) (fun x h9 => u_same (hts _ (vA_in _ _ (in_3 _ (zs16 (zs16 (zs1 (zs1 (zs0)))))))) x h9) rfl (by decide +kernel) rfl rfl (Nat.le_of_ble_eq_true rfl) dJx4a65c_add_9ea2d_7 (fun H locs hP hD hS => ?_)
  have hP : va_P (dC, dI) vwCl [(a, .inr (0, [.int (mo + 1), .ref d, .int (nI n)])), (d, .inl (cO, cap, .inr (.inr (.inr (.inr f))))), (v, .inr (ci, vs))] H := hP
  have hD : va_D A [(a, .inr (0, [.int (mo + 1), .ref d, .int (nI n)])), (d, .inl (cO, cap, .inr (.inr (.inr (.inr f))))), (v, .inr (ci, vs))] := hD
  refine lv_aload_n hx hb dJx4a65c_add_9ea2d_10 rfl (lv_at hl 0 rfl) ?_
  refine lv_aload_n hx hb dJx4a65c_add_9ea2d_11 rfl (lv_at hl 1 rfl) ?_
  refine lv_aload_n hx hb dJx4a65c_add_9ea2d_12 rfl (lv_at hl 0 rfl) ?_
  refine va_get (D := (dC, dI)) (ci := 0) (v := .ref d) (C := RJx4a65c) (T := TJx4a65c) (N := 3) hx hb hts hinJx4a65c hown hK hP 0 rfl rfl 1 (by decide) (hts _ (vA_in _ _ (in_3 _ (zs16 (zs4 (zs4 (zs0))))))) (fun _ h9 => h9) rfl dJx4a65c_add_9ea2d_13 ?_
  refine lv_aload_n hx hb dJx4a65c_add_9ea2d_16 rfl (lv_at hl 0 rfl) ?_
  refine va_get (D := (dC, dI)) (ci := 0) (v := .int (nI n)) (C := RJx4a65c) (T := TJx4a65c) (N := 3) hx hb hts hinJx4a65c hown hK hP 0 rfl rfl 2 (by decide) (hts _ (vA_in _ _ (in_3 _ (zs4 (zs4 (zs4 (zs1 (zs1 (zs0))))))))) (fun _ h9 => h9) rfl dJx4a65c_add_9ea2d_17 ?_
  have hPc := hP.sub (ws' := [(a, .inr (0, [.int (mo + 1), .ref d, .int (nI n)])), (d, .inl (cO, cap, .inr (.inr (.inr (.inr f))))), (v, .inr (ci, vs))]) [0, 1, 2] rfl
  have hDc := hD.sub (ws' := [(a, .inr (0, [.int (mo + 1), .ref d, .int (nI n)])), (d, .inl (cO, cap, .inr (.inr (.inr (.inr f))))), (v, .inr (ci, vs))]) [0, 1, 2] (by decide) rfl
  have hFc := va_free (wc := [(a, .inr (0, [.int (mo + 1), .ref d, .int (nI n)])), (d, .inl (cO, cap, .inr (.inr (.inr (.inr f))))), (v, .inr (ci, vs))]) hD hS hA [0, 1, 2] rfl
  refine va_callv (va_runV (As := [.ref v, .ref d, .int (nI n)]) (rest := []) ⟨hx, hb, hml, hown, hts⟩ (k_add3A l dC dI cO a d v n cap eo ci (mo + 1) C T NC vs f H.size hn hcap hcap2 hci) (cwV 3 hts (gi_V (in_3 _ (zs16 (zs16 (zs1 (zs1 (zs1 (zs0))))))) (in_3 _ (zs16 (zs16 (zs4 (zs0))))) (in_3 _ (zs16 (zs16 (zs4 (zs1 (zs0)))))) (in_3 _ (zs16 (zs1 (zs1 (zs0))))) (in_3 _ (zs4 (zs4 (zs4 (zs1 (zs0))))))) rfl rfl rfl ⟨rfl, hz_yJx4a65c_add_72be8_3⟩ ⟨Nat.le_of_ble_eq_true rfl, Nat.le_of_ble_eq_true rfl⟩) ⟨fun a U g mk q => by obtain ⟨e0, e1, qP, qK, qD, qE⟩ := q; exact ⟨e0, e1, qP, va_K.moved (u := U) (U := U.calling g mk a) (Vm.Alike.refl U.vm) qK, qD, EL_c qE⟩, va_recv hK hP (ci := 0) (q0 := 0) rfl rfl, fun U hU hW => ⟨rfl, by rw [hU], by rw [hU]; exact hPc, va_K.moved hW.alike hK, hDc.weaken (fun _ _ _ _ => trivial), EL_w hU hW hS hFc hE⟩⟩ rfl rfl hl.1 rfl (lv_room (Nat.le_of_ble_eq_true rfl)) dJx4a65c_add_9ea2d_20 ⟨Nat.le_of_ble_eq_true rfl, Nat.le_of_ble_eq_true rfl⟩) hS (fun q _ h => hFc q h) hFc (fun u t H1 locs ht hvm hw hB hz1 hk1 hS => ?_)
  obtain ⟨hP1, hD1⟩ := hB
  rw [ht] at hP1
  obtain ⟨hP, hD⟩ := va_join (wr := []) (w1 := [(a, .inr (0, [.int (mo + 1), .ref u.1, .int (nI (n + 1))])), (u.1, .inl (cO, u.2.1, .inr (.inr (.inr (.inr u.2.2))))), (v, .inr (ci, vs))]) hP hD [0, 1, 2] [] rfl rfl (by decide) (by decide) hk1 hFc hP1 hD1
  generalize H1 = H at hP hS ⊢
  refine lv_iconst (v := 1) hx hb dJx4a65c_add_9ea2d_23 (by decide) ?_
  exact W.zret (v := 1) hx hb hr rfl (fun t ht hW => ⟨⟨1, u, rfl, ⟨rfl, hw⟩, (by rw [ht]; exact hP), hD⟩, hS.F ht⟩) hS.2.2 dJx4a65c_add_9ea2d_24

def v_k_addB : List Cond := .code yJx4a65c_add_9ea2d cJx4a65c_add_9ea2d 2 (some .boolean) :: vA
abbrev rm_k_addB : Room := { frames := 7, cells := 1, slots := 640, locals := 280 }
set_option maxHeartbeats 4000000 in
set_option maxRecDepth 100000 in
theorem k_addB (l : Launch) (dC : Nat → ClassId) (dI : Nat → Nat → Nat) (cO : ClassId) (a d v n eo ci : Nat) (mo : Int32) (C : String) (T : u_T) (NC : Nat) (vs : List Value) (f : Nat → Option Nat) (sz : Nat) (hn1 : 1 ≤ n) (hn : n ≤ 300) (hci : vwCl[ci]? = some (C, T, NC)) : Met l yJx4a65c_add_9ea2d v_k_addB rm_k_addB (va_Pc [.ref a, .ref v] (fun U => U.heap.size = sz ∧ va_P (dC, dI) vwCl [(a, .inr (0, [.int mo, .ref d, .int (nI n)])), (d, .inl (cO, n, .inr (.inr (.inr (.inr f))))), (v, .inr (ci, vs))]  U.heap ∧ va_K (dC, dI) vwCl [(cO, .object "java/lang/Object")] U ∧ va_D (fun _ => True) [(a, .inr (0, [.int mo, .ref d, .int (nI n)])), (d, .inl (cO, n, .inr (.inr (.inr (.inr f))))), (v, .inr (ci, vs))] ∧ EL eo C n f (va_A [(a, .inr (0, [.int mo, .ref d, .int (nI n)])), (d, .inl (cO, n, .inr (.inr (.inr (.inr f))))), (v, .inr (ci, vs))] sz) U U.heap)) (va_Qi (S := Nat × Nat × (Nat → Option Nat)) (fun r u => r = 1 ∧ (fun u => n + 1 ≤ u.2.1 ∧ u.2.1 ≤ 2 * (n + 1) + 10 ∧ (∀ j : Nat, j < n → u.2.2 j = f j) ∧ u.2.2 n = some v) u) (fun u t => va_P (dC, dI) vwCl [(a, .inr (0, [.int (mo + 1), .ref u.1, .int (nI (n + 1))])), (u.1, .inl (cO, u.2.1, .inr (.inr (.inr (.inr u.2.2))))), (v, .inr (ci, vs))] t.heap ∧ va_D (va_A [(a, .inr (0, [.int mo, .ref d, .int (nI n)])), (d, .inl (cO, n, .inr (.inr (.inr (.inr f))))), (v, .inr (ci, vs))] sz) [(a, .inr (0, [.int (mo + 1), .ref u.1, .int (nI (n + 1))])), (u.1, .inl (cO, u.2.1, .inr (.inr (.inr (.inr u.2.2))))), (v, .inr (ci, vs))]) (va_A [(a, .inr (0, [.int mo, .ref d, .int (nI n)])), (d, .inl (cO, n, .inr (.inr (.inr (.inr f))))), (v, .inr (ci, vs))] sz)) 1 640 (va_A [(a, .inr (0, [.int mo, .ref d, .int (nI n)])), (d, .inl (cO, n, .inr (.inr (.inr (.inr f))))), (v, .inr (ci, vs))] sz) := by
  refine Met.ofW (cc := cJx4a65c_add_9ea2d) (maxL := 2) (ret := (some .boolean)) (by decide) rfl ?_
  intro p e s m args below meth c s₁ B hml hv
  obtain ⟨rfl, hsz, hP, hK, hD0, hE⟩ := hv
  have hx := B.exec
  have hb := B.bytes
  have hr := B.returns
  have hts := atoms_spec (ws := v_k_addB) B.pre
  have hown : s.vm.findClass RJx4a65c = some m.cls := findClass_of_methodNamed B.named
  have hlocks := B.notSynchronized
  subst hsz
  have hD := hD0.self (sz := s.heap.size)
  generalize hAe : va_A [(a, .inr (0, [.int mo, .ref d, .int (nI n)])), (d, .inl (cO, n, .inr (.inr (.inr (.inr f))))), (v, .inr (ci, vs))] s.heap.size = A at hD hE ⊢
  have hA : ∀ q : Nat, s.heap.size ≤ q → A q := fun q h => by rw [← hAe]; exact Or.inr h
  have hinJx4a65c : ∀ w ∈ u_ws RJx4a65c TJx4a65c 3, w ∈ v_k_addB := fun w h => vA_in _ w (in_Jx4a65c w h)
  have hS : va_S A s.heap s.heap [] := va_S.rf
  have hl := lv_entry ([.ref a, .ref v]) (n := 2) (Nat.le_of_ble_eq_true rfl)
  rw [lg_entry_eq]
  generalize (lg_sl ([.ref a, .ref v]) ++ List.replicate (2 - (lg_sl ([.ref a, .ref v])).length) Slot.unset).toArray = ls at hl ⊢
  have hl : lv_has ls 2 [(0, .ref a), (1, .ref v)] := hl
  refine lv_aload_n hx hb dJx4a65c_add_9ea2d_0 rfl (lv_at hl 0 rfl) ?_
  refine lv_dup hx hb dJx4a65c_add_9ea2d_1 rfl ?_
  refine va_get (D := (dC, dI)) (ci := 0) (v := .int mo) (C := RJx4a65c) (T := TJx4a65c) (N := 3) hx hb hts hinJx4a65c hown hK hP 0 rfl rfl 0 (by decide) (hts _ (vA_in _ _ (in_3 _ (zs16 (zs16 (zs1 (zs0))))))) (fun x h9 => u_same (hts _ (vA_in _ _ (in_3 _ (zs16 (zs16 (zs1 (zs1 (zs0)))))))) x h9) rfl dJx4a65c_add_9ea2d_2 ?_
  refine lv_iconst (v := 1) hx hb dJx4a65c_add_9ea2d_5 (by decide) ?_
  refine lv_iadd hx hb dJx4a65c_add_9ea2d_6 ?_
  refine va_put (D := (dC, dI)) (ci := 0) (v := .int (mo + 1)) (ty := .int) (C := RJx4a65c) (T := TJx4a65c) (N := 3) hx hb hts hinJx4a65c tyJx4a65c tyJx4a65c_ok nmJx4a65c hown hK hP hD hS 0 rfl rfl 0 (by decide) (hts _ (vA_in _ _ (in_3 _ (zs16 (zs16 (zs1 (zs0))))))) (fun x h9 => u_same (hts _ (vA_in _ _ (in_3 _ (zs16 (zs16 (zs1 (zs1 (zs0)))))))) x h9) rfl (by decide +kernel) rfl rfl (Nat.le_of_ble_eq_true rfl) dJx4a65c_add_9ea2d_7 (fun H locs hP hD hS => ?_)
  have hP : va_P (dC, dI) vwCl [(a, .inr (0, [.int (mo + 1), .ref d, .int (nI n)])), (d, .inl (cO, n, .inr (.inr (.inr (.inr f))))), (v, .inr (ci, vs))] H := hP
  have hD : va_D A [(a, .inr (0, [.int (mo + 1), .ref d, .int (nI n)])), (d, .inl (cO, n, .inr (.inr (.inr (.inr f))))), (v, .inr (ci, vs))] := hD
  refine lv_aload_n hx hb dJx4a65c_add_9ea2d_10 rfl (lv_at hl 0 rfl) ?_
  refine lv_aload_n hx hb dJx4a65c_add_9ea2d_11 rfl (lv_at hl 1 rfl) ?_
  refine lv_aload_n hx hb dJx4a65c_add_9ea2d_12 rfl (lv_at hl 0 rfl) ?_
  refine va_get (D := (dC, dI)) (ci := 0) (v := .ref d) (C := RJx4a65c) (T := TJx4a65c) (N := 3) hx hb hts hinJx4a65c hown hK hP 0 rfl rfl 1 (by decide) (hts _ (vA_in _ _ (in_3 _ (zs16 (zs4 (zs4 (zs0))))))) (fun _ h9 => h9) rfl dJx4a65c_add_9ea2d_13 ?_
  refine lv_aload_n hx hb dJx4a65c_add_9ea2d_16 rfl (lv_at hl 0 rfl) ?_
  refine va_get (D := (dC, dI)) (ci := 0) (v := .int (nI n)) (C := RJx4a65c) (T := TJx4a65c) (N := 3) hx hb hts hinJx4a65c hown hK hP 0 rfl rfl 2 (by decide) (hts _ (vA_in _ _ (in_3 _ (zs4 (zs4 (zs4 (zs1 (zs1 (zs0))))))))) (fun _ h9 => h9) rfl dJx4a65c_add_9ea2d_17 ?_
  have hPc := hP.sub (ws' := [(a, .inr (0, [.int (mo + 1), .ref d, .int (nI n)])), (d, .inl (cO, n, .inr (.inr (.inr (.inr f))))), (v, .inr (ci, vs))]) [0, 1, 2] rfl
  have hDc := hD.sub (ws' := [(a, .inr (0, [.int (mo + 1), .ref d, .int (nI n)])), (d, .inl (cO, n, .inr (.inr (.inr (.inr f))))), (v, .inr (ci, vs))]) [0, 1, 2] (by decide) rfl
  have hFc := va_free (wc := [(a, .inr (0, [.int (mo + 1), .ref d, .int (nI n)])), (d, .inl (cO, n, .inr (.inr (.inr (.inr f))))), (v, .inr (ci, vs))]) hD hS hA [0, 1, 2] rfl
  refine va_callv (va_runV (As := [.ref v, .ref d, .int (nI n)]) (rest := []) ⟨hx, hb, hml, hown, hts⟩ (k_add3B l dC dI cO a d v n eo ci (mo + 1) C T NC vs f H.size hn1 hn hci) (cwV 3 hts (gi_V (in_3 _ (zs16 (zs16 (zs1 (zs1 (zs1 (zs0))))))) (in_3 _ (zs16 (zs16 (zs4 (zs0))))) (in_3 _ (zs16 (zs16 (zs4 (zs1 (zs0)))))) (in_3 _ (zs16 (zs1 (zs1 (zs0))))) (in_3 _ (zs4 (zs4 (zs4 (zs1 (zs0))))))) rfl rfl rfl ⟨rfl, hz_yJx4a65c_add_72be8_3⟩ ⟨Nat.le_of_ble_eq_true rfl, Nat.le_of_ble_eq_true rfl⟩) ⟨fun a U g mk q => by obtain ⟨e0, e1, qP, qK, qD, qE⟩ := q; exact ⟨e0, e1, qP, va_K.moved (u := U) (U := U.calling g mk a) (Vm.Alike.refl U.vm) qK, qD, EL_c qE⟩, va_recv hK hP (ci := 0) (q0 := 0) rfl rfl, fun U hU hW => ⟨rfl, by rw [hU], by rw [hU]; exact hPc, va_K.moved hW.alike hK, hDc.weaken (fun _ _ _ _ => trivial), EL_w hU hW hS hFc hE⟩⟩ rfl rfl hl.1 rfl (lv_room (Nat.le_of_ble_eq_true rfl)) dJx4a65c_add_9ea2d_20 ⟨Nat.le_of_ble_eq_true rfl, Nat.le_of_ble_eq_true rfl⟩) hS (fun q _ h => hFc q h) hFc (fun u t H1 locs ht hvm hw hB hz1 hk1 hS => ?_)
  obtain ⟨hP1, hD1⟩ := hB
  rw [ht] at hP1
  obtain ⟨hP, hD⟩ := va_join (wr := []) (w1 := [(a, .inr (0, [.int (mo + 1), .ref u.1, .int (nI (n + 1))])), (u.1, .inl (cO, u.2.1, .inr (.inr (.inr (.inr u.2.2))))), (v, .inr (ci, vs))]) hP hD [0, 1, 2] [] rfl rfl (by decide) (by decide) hk1 hFc hP1 hD1
  generalize H1 = H at hP hS ⊢
  refine lv_iconst (v := 1) hx hb dJx4a65c_add_9ea2d_23 (by decide) ?_
  exact W.zret (v := 1) hx hb hr rfl (fun t ht hW => ⟨⟨1, u, rfl, ⟨rfl, hw⟩, (by rw [ht]; exact hP), hD⟩, hS.F ht⟩) hS.2.2 dJx4a65c_add_9ea2d_24

def v_k_addC : List Cond := .code yJx4a65c_add_9ea2d cJx4a65c_add_9ea2d 2 (some .boolean) :: vA
abbrev rm_k_addC : Room := { frames := 7, cells := 1, slots := 640, locals := 280 }
set_option maxHeartbeats 4000000 in
set_option maxRecDepth 100000 in
theorem k_addC (l : Launch) (dC : Nat → ClassId) (dI : Nat → Nat → Nat) (cO : ClassId) (a v eo ci : Nat) (mo : Int32) (C : String) (T : u_T) (NC : Nat) (vs : List Value) (f : Nat → Option Nat) (sz : Nat) (hci : vwCl[ci]? = some (C, T, NC)) : Met l yJx4a65c_add_9ea2d v_k_addC rm_k_addC (va_Pc [.ref a, .ref v] (fun U => U.heap.size = sz ∧ va_P (dC, dI) vwCl [(a, .inr (0, [.int mo, .ref eo, .int 0])), (v, .inr (ci, vs))]  U.heap ∧ va_K (dC, dI) vwCl [(cO, .object "java/lang/Object")] U ∧ va_D (fun _ => True) [(a, .inr (0, [.int mo, .ref eo, .int 0])), (v, .inr (ci, vs))] ∧ EL eo C 0 f (va_A [(a, .inr (0, [.int mo, .ref eo, .int 0])), (v, .inr (ci, vs))] sz) U U.heap)) (va_Qi (S := Nat × Nat × (Nat → Option Nat)) (fun r u => r = 1 ∧ (fun u => 0 + 1 ≤ u.2.1 ∧ u.2.1 ≤ 2 * (0 + 1) + 10 ∧ (∀ j : Nat, j < 0 → u.2.2 j = f j) ∧ u.2.2 0 = some v) u) (fun u t => va_P (dC, dI) vwCl [(a, .inr (0, [.int (mo + 1), .ref u.1, .int 1])), (u.1, .inl (cO, u.2.1, .inr (.inr (.inr (.inr u.2.2))))), (v, .inr (ci, vs))] t.heap ∧ va_D (va_A [(a, .inr (0, [.int mo, .ref eo, .int 0])), (v, .inr (ci, vs))] sz) [(a, .inr (0, [.int (mo + 1), .ref u.1, .int 1])), (u.1, .inl (cO, u.2.1, .inr (.inr (.inr (.inr u.2.2))))), (v, .inr (ci, vs))]) (va_A [(a, .inr (0, [.int mo, .ref eo, .int 0])), (v, .inr (ci, vs))] sz)) 1 640 (va_A [(a, .inr (0, [.int mo, .ref eo, .int 0])), (v, .inr (ci, vs))] sz) := by
  refine Met.ofW (cc := cJx4a65c_add_9ea2d) (maxL := 2) (ret := (some .boolean)) (by decide) rfl ?_
  intro p e s m args below meth c s₁ B hml hv
  obtain ⟨rfl, hsz, hP, hK, hD0, hE⟩ := hv
  have hx := B.exec
  have hb := B.bytes
  have hr := B.returns
  have hts := atoms_spec (ws := v_k_addC) B.pre
  have hown : s.vm.findClass RJx4a65c = some m.cls := findClass_of_methodNamed B.named
  have hlocks := B.notSynchronized
  subst hsz
  have hD := hD0.self (sz := s.heap.size)
  generalize hAe : va_A [(a, .inr (0, [.int mo, .ref eo, .int 0])), (v, .inr (ci, vs))] s.heap.size = A at hD hE ⊢
  have hA : ∀ q : Nat, s.heap.size ≤ q → A q := fun q h => by rw [← hAe]; exact Or.inr h
  have hinJx4a65c : ∀ w ∈ u_ws RJx4a65c TJx4a65c 3, w ∈ v_k_addC := fun w h => vA_in _ w (in_Jx4a65c w h)
  have hS : va_S A s.heap s.heap [] := va_S.rf
  have hl := lv_entry ([.ref a, .ref v]) (n := 2) (Nat.le_of_ble_eq_true rfl)
  rw [lg_entry_eq]
  generalize (lg_sl ([.ref a, .ref v]) ++ List.replicate (2 - (lg_sl ([.ref a, .ref v])).length) Slot.unset).toArray = ls at hl ⊢
  have hl : lv_has ls 2 [(0, .ref a), (1, .ref v)] := hl
  refine lv_aload_n hx hb dJx4a65c_add_9ea2d_0 rfl (lv_at hl 0 rfl) ?_
  refine lv_dup hx hb dJx4a65c_add_9ea2d_1 rfl ?_
  refine va_get (D := (dC, dI)) (ci := 0) (v := .int mo) (C := RJx4a65c) (T := TJx4a65c) (N := 3) hx hb hts hinJx4a65c hown hK hP 0 rfl rfl 0 (by decide) (hts _ (vA_in _ _ (in_3 _ (zs16 (zs16 (zs1 (zs0))))))) (fun x h9 => u_same (hts _ (vA_in _ _ (in_3 _ (zs16 (zs16 (zs1 (zs1 (zs0)))))))) x h9) rfl dJx4a65c_add_9ea2d_2 ?_
  refine lv_iconst (v := 1) hx hb dJx4a65c_add_9ea2d_5 (by decide) ?_
  refine lv_iadd hx hb dJx4a65c_add_9ea2d_6 ?_
  refine va_put (D := (dC, dI)) (ci := 0) (v := .int (mo + 1)) (ty := .int) (C := RJx4a65c) (T := TJx4a65c) (N := 3) hx hb hts hinJx4a65c tyJx4a65c tyJx4a65c_ok nmJx4a65c hown hK hP hD hS 0 rfl rfl 0 (by decide) (hts _ (vA_in _ _ (in_3 _ (zs16 (zs16 (zs1 (zs0))))))) (fun x h9 => u_same (hts _ (vA_in _ _ (in_3 _ (zs16 (zs16 (zs1 (zs1 (zs0)))))))) x h9) rfl (by decide +kernel) rfl rfl (Nat.le_of_ble_eq_true rfl) dJx4a65c_add_9ea2d_7 (fun H locs hP hD hS => ?_)
  have hP : va_P (dC, dI) vwCl [(a, .inr (0, [.int (mo + 1), .ref eo, .int 0])), (v, .inr (ci, vs))] H := hP
  have hD : va_D A [(a, .inr (0, [.int (mo + 1), .ref eo, .int 0])), (v, .inr (ci, vs))] := hD
  refine lv_aload_n hx hb dJx4a65c_add_9ea2d_10 rfl (lv_at hl 0 rfl) ?_
  refine lv_aload_n hx hb dJx4a65c_add_9ea2d_11 rfl (lv_at hl 1 rfl) ?_
  refine lv_aload_n hx hb dJx4a65c_add_9ea2d_12 rfl (lv_at hl 0 rfl) ?_
  refine va_get (D := (dC, dI)) (ci := 0) (v := .ref eo) (C := RJx4a65c) (T := TJx4a65c) (N := 3) hx hb hts hinJx4a65c hown hK hP 0 rfl rfl 1 (by decide) (hts _ (vA_in _ _ (in_3 _ (zs16 (zs4 (zs4 (zs0))))))) (fun _ h9 => h9) rfl dJx4a65c_add_9ea2d_13 ?_
  refine lv_aload_n hx hb dJx4a65c_add_9ea2d_16 rfl (lv_at hl 0 rfl) ?_
  refine va_get (D := (dC, dI)) (ci := 0) (v := .int 0) (C := RJx4a65c) (T := TJx4a65c) (N := 3) hx hb hts hinJx4a65c hown hK hP 0 rfl rfl 2 (by decide) (hts _ (vA_in _ _ (in_3 _ (zs4 (zs4 (zs4 (zs1 (zs1 (zs0))))))))) (fun _ h9 => h9) rfl dJx4a65c_add_9ea2d_17 ?_
  have hPc := hP.sub (ws' := [(a, .inr (0, [.int (mo + 1), .ref eo, .int 0])), (v, .inr (ci, vs))]) [0, 1] rfl
  have hDc := hD.sub (ws' := [(a, .inr (0, [.int (mo + 1), .ref eo, .int 0])), (v, .inr (ci, vs))]) [0, 1] (by decide) rfl
  have hFc := va_free (wc := [(a, .inr (0, [.int (mo + 1), .ref eo, .int 0])), (v, .inr (ci, vs))]) hD hS hA [0, 1] rfl
  refine va_callv (va_runV (As := [.ref v, .ref eo, .int 0]) (rest := []) ⟨hx, hb, hml, hown, hts⟩ (k_add3C l dC dI cO a v eo ci (mo + 1) C T NC vs f H.size hci) (cwV 3 hts (gi_V (in_3 _ (zs16 (zs16 (zs1 (zs1 (zs1 (zs0))))))) (in_3 _ (zs16 (zs16 (zs4 (zs0))))) (in_3 _ (zs16 (zs16 (zs4 (zs1 (zs0)))))) (in_3 _ (zs16 (zs1 (zs1 (zs0))))) (in_3 _ (zs4 (zs4 (zs4 (zs1 (zs0))))))) rfl rfl rfl ⟨rfl, hz_yJx4a65c_add_72be8_3⟩ ⟨Nat.le_of_ble_eq_true rfl, Nat.le_of_ble_eq_true rfl⟩) ⟨fun a U g mk q => by obtain ⟨e0, e1, qP, qK, qD, qE⟩ := q; exact ⟨e0, e1, qP, va_K.moved (u := U) (U := U.calling g mk a) (Vm.Alike.refl U.vm) qK, qD, EL_c qE⟩, va_recv hK hP (ci := 0) (q0 := 0) rfl rfl, fun U hU hW => ⟨rfl, by rw [hU], by rw [hU]; exact hPc, va_K.moved hW.alike hK, hDc.weaken (fun _ _ _ _ => trivial), EL_w hU hW hS hFc hE⟩⟩ rfl rfl hl.1 rfl (lv_room (Nat.le_of_ble_eq_true rfl)) dJx4a65c_add_9ea2d_20 ⟨Nat.le_of_ble_eq_true rfl, Nat.le_of_ble_eq_true rfl⟩) hS (fun q _ h => hFc q h) hFc (fun u t H1 locs ht hvm hw hB hz1 hk1 hS => ?_)
  obtain ⟨hP1, hD1⟩ := hB
  rw [ht] at hP1
  obtain ⟨hP, hD⟩ := va_join (wr := []) (w1 := [(a, .inr (0, [.int (mo + 1), .ref u.1, .int 1])), (u.1, .inl (cO, u.2.1, .inr (.inr (.inr (.inr u.2.2))))), (v, .inr (ci, vs))]) hP hD [0, 1] [] rfl rfl (by decide) (by decide) hk1 hFc hP1 hD1
  generalize H1 = H at hP hS ⊢
  refine lv_iconst (v := 1) hx hb dJx4a65c_add_9ea2d_23 (by decide) ?_
  exact W.zret (v := 1) hx hb hr rfl (fun t ht hW => ⟨⟨1, u, rfl, ⟨rfl, hw⟩, (by rw [ht]; exact hP), hD⟩, hS.F ht⟩) hS.2.2 dJx4a65c_add_9ea2d_24

