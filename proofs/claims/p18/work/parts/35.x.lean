def tyX1 : Nat → FieldType := fun k => match k with
  | 0 => .int
  | 1 => .int
  | 2 => .int
  | 3 => .int
  | 4 => .int
  | _ => .int
theorem nmX1 : ∀ a, a < 6 → ∀ b, b < 6 → a ≠ b → (TX1 a).2.1 ≠ (TX1 b).2.1 := by decide +kernel
theorem tyX1_ok : ∀ k, k < 6 → parseFieldDescriptor (TX1 k).2.2.1 = some (tyX1 k) := by decide +kernel
def tyX4 : Nat → FieldType := fun k => match k with
  | 0 => .int
  | 1 => .int
  | 2 => .int
  | 3 => .int
  | 4 => .int
  | 5 => .int
  | 6 => .int
  | 7 => .int
  | 8 => .int
  | _ => .int
theorem nmX4 : ∀ a, a < 10 → ∀ b, b < 10 → a ≠ b → (TX4 a).2.1 ≠ (TX4 b).2.1 := by decide +kernel
theorem tyX4_ok : ∀ k, k < 10 → parseFieldDescriptor (TX4 k).2.2.1 = some (tyX4 k) := by decide +kernel
def tyX6 : Nat → FieldType := fun k => match k with
  | 0 => .int
  | 1 => .int
  | 2 => .int
  | 3 => .int
  | _ => .int
theorem nmX6 : ∀ a, a < 5 → ∀ b, b < 5 → a ≠ b → (TX6 a).2.1 ≠ (TX6 b).2.1 := by decide +kernel
theorem tyX6_ok : ∀ k, k < 5 → parseFieldDescriptor (TX6 k).2.2.1 = some (tyX6 k) := by decide +kernel
def tyX11 : Nat → FieldType := fun k => match k with
  | 0 => .int
  | 1 => .int
  | 2 => .int
  | 3 => .int
  | 4 => .int
  | 5 => .int
  | 6 => .int
  | _ => .int
theorem nmX11 : ∀ a, a < 8 → ∀ b, b < 8 → a ≠ b → (TX11 a).2.1 ≠ (TX11 b).2.1 := by decide +kernel
theorem tyX11_ok : ∀ k, k < 8 → parseFieldDescriptor (TX11 k).2.2.1 = some (tyX11 k) := by decide +kernel
set_option maxRecDepth 100000 in
theorem zh_dX1_init_0_0 : zc cX1_init 0 [42, 183, 0, 1, 42, 27, 181, 0, 7, 42, 28, 181, 0, 13, 42, 29] = true := by decide +kernel
set_option maxRecDepth 100000 in
theorem zh_dX1_init_16_16 : zc cX1_init 16 [181, 0, 16, 42, 21, 4, 181, 0, 19, 42, 21, 5, 181, 0, 22, 42] = true := by decide +kernel
set_option maxRecDepth 100000 in
theorem zh_dX1_init_32_32 : zc cX1_init 32 [21, 6, 181, 0, 25, 177] = true := by decide +kernel
set_option maxRecDepth 100000 in
theorem zh_dX4_init_0_0 : zc cX4_init 0 [42, 183, 0, 3, 42, 2, 181, 0, 9, 42, 2, 181, 0, 15, 42, 2] = true := by decide +kernel
set_option maxRecDepth 100000 in
theorem zh_dX4_init_16_16 : zc cX4_init 16 [181, 0, 18, 42, 27, 181, 0, 21, 42, 28, 181, 0, 24, 42, 29, 181] = true := by decide +kernel
set_option maxRecDepth 100000 in
theorem zh_dX4_init_31_32 : zc cX4_init 32 [0, 27, 42, 21, 4, 181, 0, 30, 42, 21, 5, 181, 0, 33, 177] = true := by decide +kernel
set_option maxRecDepth 100000 in
theorem zh_dX6_init_0_0 : zc cX6_init 0 [42, 183, 0, 1, 42, 27, 181, 0, 7, 42, 28, 181, 0, 13, 42, 29] = true := by decide +kernel
set_option maxRecDepth 100000 in
theorem zh_dX6_init_16_16 : zc cX6_init 16 [181, 0, 16, 42, 21, 4, 181, 0, 19, 42, 21, 5, 181, 0, 22, 177] = true := by decide +kernel
set_option maxRecDepth 100000 in
theorem zh_dX11_init_0_0 : zc cX11_init 0 [42, 183, 0, 1, 42, 27, 181, 0, 7, 42, 28, 181, 0, 13, 42, 29] = true := by decide +kernel
set_option maxRecDepth 100000 in
theorem zh_dX11_init_16_16 : zc cX11_init 16 [181, 0, 16, 177] = true := by decide +kernel
set_option maxRecDepth 100000 in
theorem zh_dX11_say_0_0 : zc cX11_say 0 [42, 27, 181, 0, 19, 42, 28, 181, 0, 22, 42, 29, 181, 0, 25, 42] = true := by decide +kernel
set_option maxRecDepth 100000 in
theorem zh_dX11_say_16_16 : zc cX11_say 16 [21, 4, 181, 0, 28, 42, 21, 5, 181, 0, 31, 177] = true := by decide +kernel
theorem dX1_init_0 : decode cX1_init 0 = .ok (.aload_n 0, 1) := zo_42 (zi_at zh_dX1_init_0_0 0 rfl)
theorem dX1_init_1 : decode cX1_init 1 = .ok (.invokespecial 1, 3) := zo_183 (zi_at zh_dX1_init_0_0 1 rfl) (zi_at zh_dX1_init_0_0 2 rfl) (zi_at zh_dX1_init_0_0 3 rfl) rfl
theorem dX1_init_4 : decode cX1_init 4 = .ok (.aload_n 0, 1) := zo_42 (zi_at zh_dX1_init_0_0 4 rfl)
theorem dX1_init_5 : decode cX1_init 5 = .ok (.iload_n 1, 1) := zo_27 (zi_at zh_dX1_init_0_0 5 rfl)
theorem dX1_init_6 : decode cX1_init 6 = .ok (.putfield 7, 3) := zo_181 (zi_at zh_dX1_init_0_0 6 rfl) (zi_at zh_dX1_init_0_0 7 rfl) (zi_at zh_dX1_init_0_0 8 rfl) rfl
theorem dX1_init_9 : decode cX1_init 9 = .ok (.aload_n 0, 1) := zo_42 (zi_at zh_dX1_init_0_0 9 rfl)
theorem dX1_init_10 : decode cX1_init 10 = .ok (.iload_n 2, 1) := zo_28 (zi_at zh_dX1_init_0_0 10 rfl)
theorem dX1_init_11 : decode cX1_init 11 = .ok (.putfield 13, 3) := zo_181 (zi_at zh_dX1_init_0_0 11 rfl) (zi_at zh_dX1_init_0_0 12 rfl) (zi_at zh_dX1_init_0_0 13 rfl) rfl
theorem dX1_init_14 : decode cX1_init 14 = .ok (.aload_n 0, 1) := zo_42 (zi_at zh_dX1_init_0_0 14 rfl)
theorem dX1_init_15 : decode cX1_init 15 = .ok (.iload_n 3, 1) := zo_29 (zi_at zh_dX1_init_0_0 15 rfl)
theorem dX1_init_16 : decode cX1_init 16 = .ok (.putfield 16, 3) := zo_181 (zi_at zh_dX1_init_16_16 0 rfl) (zi_at zh_dX1_init_16_16 1 rfl) (zi_at zh_dX1_init_16_16 2 rfl) rfl
theorem dX1_init_19 : decode cX1_init 19 = .ok (.aload_n 0, 1) := zo_42 (zi_at zh_dX1_init_16_16 3 rfl)
theorem dX1_init_20 : decode cX1_init 20 = .ok (.iload 4, 2) := zo_21 (zi_at zh_dX1_init_16_16 4 rfl) (zi_at zh_dX1_init_16_16 5 rfl)
theorem dX1_init_22 : decode cX1_init 22 = .ok (.putfield 19, 3) := zo_181 (zi_at zh_dX1_init_16_16 6 rfl) (zi_at zh_dX1_init_16_16 7 rfl) (zi_at zh_dX1_init_16_16 8 rfl) rfl
theorem dX1_init_25 : decode cX1_init 25 = .ok (.aload_n 0, 1) := zo_42 (zi_at zh_dX1_init_16_16 9 rfl)
theorem dX1_init_26 : decode cX1_init 26 = .ok (.iload 5, 2) := zo_21 (zi_at zh_dX1_init_16_16 10 rfl) (zi_at zh_dX1_init_16_16 11 rfl)
theorem dX1_init_28 : decode cX1_init 28 = .ok (.putfield 22, 3) := zo_181 (zi_at zh_dX1_init_16_16 12 rfl) (zi_at zh_dX1_init_16_16 13 rfl) (zi_at zh_dX1_init_16_16 14 rfl) rfl
theorem dX1_init_31 : decode cX1_init 31 = .ok (.aload_n 0, 1) := zo_42 (zi_at zh_dX1_init_16_16 15 rfl)
theorem dX1_init_32 : decode cX1_init 32 = .ok (.iload 6, 2) := zo_21 (zi_at zh_dX1_init_32_32 0 rfl) (zi_at zh_dX1_init_32_32 1 rfl)
theorem dX1_init_34 : decode cX1_init 34 = .ok (.putfield 25, 3) := zo_181 (zi_at zh_dX1_init_32_32 2 rfl) (zi_at zh_dX1_init_32_32 3 rfl) (zi_at zh_dX1_init_32_32 4 rfl) rfl
theorem dX1_init_37 : decode cX1_init 37 = .ok (.return_, 1) := zo_177 (zi_at zh_dX1_init_32_32 5 rfl)
theorem dX4_init_0 : decode cX4_init 0 = .ok (.aload_n 0, 1) := zo_42 (zi_at zh_dX4_init_0_0 0 rfl)
theorem dX4_init_1 : decode cX4_init 1 = .ok (.invokespecial 3, 3) := zo_183 (zi_at zh_dX4_init_0_0 1 rfl) (zi_at zh_dX4_init_0_0 2 rfl) (zi_at zh_dX4_init_0_0 3 rfl) rfl
theorem dX4_init_4 : decode cX4_init 4 = .ok (.aload_n 0, 1) := zo_42 (zi_at zh_dX4_init_0_0 4 rfl)
theorem dX4_init_5 : decode cX4_init 5 = .ok (.iconst (-1), 1) := zo_2 (zi_at zh_dX4_init_0_0 5 rfl)
theorem dX4_init_6 : decode cX4_init 6 = .ok (.putfield 9, 3) := zo_181 (zi_at zh_dX4_init_0_0 6 rfl) (zi_at zh_dX4_init_0_0 7 rfl) (zi_at zh_dX4_init_0_0 8 rfl) rfl
theorem dX4_init_9 : decode cX4_init 9 = .ok (.aload_n 0, 1) := zo_42 (zi_at zh_dX4_init_0_0 9 rfl)
theorem dX4_init_10 : decode cX4_init 10 = .ok (.iconst (-1), 1) := zo_2 (zi_at zh_dX4_init_0_0 10 rfl)
theorem dX4_init_11 : decode cX4_init 11 = .ok (.putfield 15, 3) := zo_181 (zi_at zh_dX4_init_0_0 11 rfl) (zi_at zh_dX4_init_0_0 12 rfl) (zi_at zh_dX4_init_0_0 13 rfl) rfl
theorem dX4_init_14 : decode cX4_init 14 = .ok (.aload_n 0, 1) := zo_42 (zi_at zh_dX4_init_0_0 14 rfl)
theorem dX4_init_15 : decode cX4_init 15 = .ok (.iconst (-1), 1) := zo_2 (zi_at zh_dX4_init_0_0 15 rfl)
theorem dX4_init_16 : decode cX4_init 16 = .ok (.putfield 18, 3) := zo_181 (zi_at zh_dX4_init_16_16 0 rfl) (zi_at zh_dX4_init_16_16 1 rfl) (zi_at zh_dX4_init_16_16 2 rfl) rfl
theorem dX4_init_19 : decode cX4_init 19 = .ok (.aload_n 0, 1) := zo_42 (zi_at zh_dX4_init_16_16 3 rfl)
theorem dX4_init_20 : decode cX4_init 20 = .ok (.iload_n 1, 1) := zo_27 (zi_at zh_dX4_init_16_16 4 rfl)
theorem dX4_init_21 : decode cX4_init 21 = .ok (.putfield 21, 3) := zo_181 (zi_at zh_dX4_init_16_16 5 rfl) (zi_at zh_dX4_init_16_16 6 rfl) (zi_at zh_dX4_init_16_16 7 rfl) rfl
theorem dX4_init_24 : decode cX4_init 24 = .ok (.aload_n 0, 1) := zo_42 (zi_at zh_dX4_init_16_16 8 rfl)
theorem dX4_init_25 : decode cX4_init 25 = .ok (.iload_n 2, 1) := zo_28 (zi_at zh_dX4_init_16_16 9 rfl)
theorem dX4_init_26 : decode cX4_init 26 = .ok (.putfield 24, 3) := zo_181 (zi_at zh_dX4_init_16_16 10 rfl) (zi_at zh_dX4_init_16_16 11 rfl) (zi_at zh_dX4_init_16_16 12 rfl) rfl
theorem dX4_init_29 : decode cX4_init 29 = .ok (.aload_n 0, 1) := zo_42 (zi_at zh_dX4_init_16_16 13 rfl)
theorem dX4_init_30 : decode cX4_init 30 = .ok (.iload_n 3, 1) := zo_29 (zi_at zh_dX4_init_16_16 14 rfl)
theorem dX4_init_31 : decode cX4_init 31 = .ok (.putfield 27, 3) := zo_181 (zi_at zh_dX4_init_16_16 15 rfl) (zi_at zh_dX4_init_31_32 0 rfl) (zi_at zh_dX4_init_31_32 1 rfl) rfl
theorem dX4_init_34 : decode cX4_init 34 = .ok (.aload_n 0, 1) := zo_42 (zi_at zh_dX4_init_31_32 2 rfl)
theorem dX4_init_35 : decode cX4_init 35 = .ok (.iload 4, 2) := zo_21 (zi_at zh_dX4_init_31_32 3 rfl) (zi_at zh_dX4_init_31_32 4 rfl)
theorem dX4_init_37 : decode cX4_init 37 = .ok (.putfield 30, 3) := zo_181 (zi_at zh_dX4_init_31_32 5 rfl) (zi_at zh_dX4_init_31_32 6 rfl) (zi_at zh_dX4_init_31_32 7 rfl) rfl
theorem dX4_init_40 : decode cX4_init 40 = .ok (.aload_n 0, 1) := zo_42 (zi_at zh_dX4_init_31_32 8 rfl)
theorem dX4_init_41 : decode cX4_init 41 = .ok (.iload 5, 2) := zo_21 (zi_at zh_dX4_init_31_32 9 rfl) (zi_at zh_dX4_init_31_32 10 rfl)
theorem dX4_init_43 : decode cX4_init 43 = .ok (.putfield 33, 3) := zo_181 (zi_at zh_dX4_init_31_32 11 rfl) (zi_at zh_dX4_init_31_32 12 rfl) (zi_at zh_dX4_init_31_32 13 rfl) rfl
theorem dX4_init_46 : decode cX4_init 46 = .ok (.return_, 1) := zo_177 (zi_at zh_dX4_init_31_32 14 rfl)
theorem dX6_init_0 : decode cX6_init 0 = .ok (.aload_n 0, 1) := zo_42 (zi_at zh_dX6_init_0_0 0 rfl)
theorem dX6_init_1 : decode cX6_init 1 = .ok (.invokespecial 1, 3) := zo_183 (zi_at zh_dX6_init_0_0 1 rfl) (zi_at zh_dX6_init_0_0 2 rfl) (zi_at zh_dX6_init_0_0 3 rfl) rfl
theorem dX6_init_4 : decode cX6_init 4 = .ok (.aload_n 0, 1) := zo_42 (zi_at zh_dX6_init_0_0 4 rfl)
theorem dX6_init_5 : decode cX6_init 5 = .ok (.iload_n 1, 1) := zo_27 (zi_at zh_dX6_init_0_0 5 rfl)
theorem dX6_init_6 : decode cX6_init 6 = .ok (.putfield 7, 3) := zo_181 (zi_at zh_dX6_init_0_0 6 rfl) (zi_at zh_dX6_init_0_0 7 rfl) (zi_at zh_dX6_init_0_0 8 rfl) rfl
theorem dX6_init_9 : decode cX6_init 9 = .ok (.aload_n 0, 1) := zo_42 (zi_at zh_dX6_init_0_0 9 rfl)
theorem dX6_init_10 : decode cX6_init 10 = .ok (.iload_n 2, 1) := zo_28 (zi_at zh_dX6_init_0_0 10 rfl)
theorem dX6_init_11 : decode cX6_init 11 = .ok (.putfield 13, 3) := zo_181 (zi_at zh_dX6_init_0_0 11 rfl) (zi_at zh_dX6_init_0_0 12 rfl) (zi_at zh_dX6_init_0_0 13 rfl) rfl
theorem dX6_init_14 : decode cX6_init 14 = .ok (.aload_n 0, 1) := zo_42 (zi_at zh_dX6_init_0_0 14 rfl)
theorem dX6_init_15 : decode cX6_init 15 = .ok (.iload_n 3, 1) := zo_29 (zi_at zh_dX6_init_0_0 15 rfl)
theorem dX6_init_16 : decode cX6_init 16 = .ok (.putfield 16, 3) := zo_181 (zi_at zh_dX6_init_16_16 0 rfl) (zi_at zh_dX6_init_16_16 1 rfl) (zi_at zh_dX6_init_16_16 2 rfl) rfl
theorem dX6_init_19 : decode cX6_init 19 = .ok (.aload_n 0, 1) := zo_42 (zi_at zh_dX6_init_16_16 3 rfl)
theorem dX6_init_20 : decode cX6_init 20 = .ok (.iload 4, 2) := zo_21 (zi_at zh_dX6_init_16_16 4 rfl) (zi_at zh_dX6_init_16_16 5 rfl)
theorem dX6_init_22 : decode cX6_init 22 = .ok (.putfield 19, 3) := zo_181 (zi_at zh_dX6_init_16_16 6 rfl) (zi_at zh_dX6_init_16_16 7 rfl) (zi_at zh_dX6_init_16_16 8 rfl) rfl
theorem dX6_init_25 : decode cX6_init 25 = .ok (.aload_n 0, 1) := zo_42 (zi_at zh_dX6_init_16_16 9 rfl)
theorem dX6_init_26 : decode cX6_init 26 = .ok (.iload 5, 2) := zo_21 (zi_at zh_dX6_init_16_16 10 rfl) (zi_at zh_dX6_init_16_16 11 rfl)
theorem dX6_init_28 : decode cX6_init 28 = .ok (.putfield 22, 3) := zo_181 (zi_at zh_dX6_init_16_16 12 rfl) (zi_at zh_dX6_init_16_16 13 rfl) (zi_at zh_dX6_init_16_16 14 rfl) rfl
theorem dX6_init_31 : decode cX6_init 31 = .ok (.return_, 1) := zo_177 (zi_at zh_dX6_init_16_16 15 rfl)
theorem dX11_init_0 : decode cX11_init 0 = .ok (.aload_n 0, 1) := zo_42 (zi_at zh_dX11_init_0_0 0 rfl)
theorem dX11_init_1 : decode cX11_init 1 = .ok (.invokespecial 1, 3) := zo_183 (zi_at zh_dX11_init_0_0 1 rfl) (zi_at zh_dX11_init_0_0 2 rfl) (zi_at zh_dX11_init_0_0 3 rfl) rfl
theorem dX11_init_4 : decode cX11_init 4 = .ok (.aload_n 0, 1) := zo_42 (zi_at zh_dX11_init_0_0 4 rfl)
theorem dX11_init_5 : decode cX11_init 5 = .ok (.iload_n 1, 1) := zo_27 (zi_at zh_dX11_init_0_0 5 rfl)
theorem dX11_init_6 : decode cX11_init 6 = .ok (.putfield 7, 3) := zo_181 (zi_at zh_dX11_init_0_0 6 rfl) (zi_at zh_dX11_init_0_0 7 rfl) (zi_at zh_dX11_init_0_0 8 rfl) rfl
theorem dX11_init_9 : decode cX11_init 9 = .ok (.aload_n 0, 1) := zo_42 (zi_at zh_dX11_init_0_0 9 rfl)
theorem dX11_init_10 : decode cX11_init 10 = .ok (.iload_n 2, 1) := zo_28 (zi_at zh_dX11_init_0_0 10 rfl)
theorem dX11_init_11 : decode cX11_init 11 = .ok (.putfield 13, 3) := zo_181 (zi_at zh_dX11_init_0_0 11 rfl) (zi_at zh_dX11_init_0_0 12 rfl) (zi_at zh_dX11_init_0_0 13 rfl) rfl
theorem dX11_init_14 : decode cX11_init 14 = .ok (.aload_n 0, 1) := zo_42 (zi_at zh_dX11_init_0_0 14 rfl)
theorem dX11_init_15 : decode cX11_init 15 = .ok (.iload_n 3, 1) := zo_29 (zi_at zh_dX11_init_0_0 15 rfl)
theorem dX11_init_16 : decode cX11_init 16 = .ok (.putfield 16, 3) := zo_181 (zi_at zh_dX11_init_16_16 0 rfl) (zi_at zh_dX11_init_16_16 1 rfl) (zi_at zh_dX11_init_16_16 2 rfl) rfl
theorem dX11_init_19 : decode cX11_init 19 = .ok (.return_, 1) := zo_177 (zi_at zh_dX11_init_16_16 3 rfl)
theorem dX11_say_0 : decode cX11_say 0 = .ok (.aload_n 0, 1) := zo_42 (zi_at zh_dX11_say_0_0 0 rfl)
theorem dX11_say_1 : decode cX11_say 1 = .ok (.iload_n 1, 1) := zo_27 (zi_at zh_dX11_say_0_0 1 rfl)
theorem dX11_say_2 : decode cX11_say 2 = .ok (.putfield 19, 3) := zo_181 (zi_at zh_dX11_say_0_0 2 rfl) (zi_at zh_dX11_say_0_0 3 rfl) (zi_at zh_dX11_say_0_0 4 rfl) rfl
theorem dX11_say_5 : decode cX11_say 5 = .ok (.aload_n 0, 1) := zo_42 (zi_at zh_dX11_say_0_0 5 rfl)
theorem dX11_say_6 : decode cX11_say 6 = .ok (.iload_n 2, 1) := zo_28 (zi_at zh_dX11_say_0_0 6 rfl)
theorem dX11_say_7 : decode cX11_say 7 = .ok (.putfield 22, 3) := zo_181 (zi_at zh_dX11_say_0_0 7 rfl) (zi_at zh_dX11_say_0_0 8 rfl) (zi_at zh_dX11_say_0_0 9 rfl) rfl
theorem dX11_say_10 : decode cX11_say 10 = .ok (.aload_n 0, 1) := zo_42 (zi_at zh_dX11_say_0_0 10 rfl)
theorem dX11_say_11 : decode cX11_say 11 = .ok (.iload_n 3, 1) := zo_29 (zi_at zh_dX11_say_0_0 11 rfl)
theorem dX11_say_12 : decode cX11_say 12 = .ok (.putfield 25, 3) := zo_181 (zi_at zh_dX11_say_0_0 12 rfl) (zi_at zh_dX11_say_0_0 13 rfl) (zi_at zh_dX11_say_0_0 14 rfl) rfl
theorem dX11_say_15 : decode cX11_say 15 = .ok (.aload_n 0, 1) := zo_42 (zi_at zh_dX11_say_0_0 15 rfl)
theorem dX11_say_16 : decode cX11_say 16 = .ok (.iload 4, 2) := zo_21 (zi_at zh_dX11_say_16_16 0 rfl) (zi_at zh_dX11_say_16_16 1 rfl)
theorem dX11_say_18 : decode cX11_say 18 = .ok (.putfield 28, 3) := zo_181 (zi_at zh_dX11_say_16_16 2 rfl) (zi_at zh_dX11_say_16_16 3 rfl) (zi_at zh_dX11_say_16_16 4 rfl) rfl
theorem dX11_say_21 : decode cX11_say 21 = .ok (.aload_n 0, 1) := zo_42 (zi_at zh_dX11_say_16_16 5 rfl)
theorem dX11_say_22 : decode cX11_say 22 = .ok (.iload 5, 2) := zo_21 (zi_at zh_dX11_say_16_16 6 rfl) (zi_at zh_dX11_say_16_16 7 rfl)
theorem dX11_say_24 : decode cX11_say 24 = .ok (.putfield 31, 3) := zo_181 (zi_at zh_dX11_say_16_16 8 rfl) (zi_at zh_dX11_say_16_16 9 rfl) (zi_at zh_dX11_say_16_16 10 rfl) rfl
theorem dX11_say_27 : decode cX11_say 27 = .ok (.return_, 1) := zo_177 (zi_at zh_dX11_say_16_16 11 rfl)

def v_x_Cert : List Cond := .code yX1_init cX1_init 7 none :: vA
set_option maxHeartbeats 4000000 in
set_option maxRecDepth 100000 in
theorem x_Cert (l : Launch) (dC : Nat → ClassId) (dI : Nat → Nat → Nat) (q : Nat) (b0 : Int32) (b1 : Int32) (b2 : Int32) (b3 : Int32) (b4 : Int32) (b5 : Int32) (sz : Nat)  : Met l yX1_init v_x_Cert ({ frames := 1, cells := 0, slots := 0, locals := 40 }) (va_Pc [.ref q, .int b0, .int b1, .int b2, .int b3, .int b4, .int b5] (fun U => U.heap.size = sz ∧ va_P (dC, dI) vwCl [(q, .inr (2, [.int 0, .int 0, .int 0, .int 0, .int 0, .int 0]))] U.heap ∧ va_K (dC, dI) vwCl [] U ∧ va_D (fun _ => True) [(q, .inr (2, [.int 0, .int 0, .int 0, .int 0, .int 0, .int 0]))])) (va_Qv (S := Unit) (fun _ => True) (fun u t => va_P (dC, dI) vwCl [(q, .inr (2, [.int b0, .int b1, .int b2, .int b3, .int b4, .int b5]))] t.heap ∧ va_K (dC, dI) vwCl [] t ∧ va_D (va_A [(q, .inr (2, [.int 0, .int 0, .int 0, .int 0, .int 0, .int 0]))] sz) [(q, .inr (2, [.int b0, .int b1, .int b2, .int b3, .int b4, .int b5]))]) (va_A [(q, .inr (2, [.int 0, .int 0, .int 0, .int 0, .int 0, .int 0]))] sz)) 0 0 (va_A [(q, .inr (2, [.int 0, .int 0, .int 0, .int 0, .int 0, .int 0]))] sz) := by
  refine Met.ofW (cc := cX1_init) (maxL := 7) (ret := none) (by decide) rfl ?_
  intro p e s m args below meth c s₁ B hml hv
  obtain ⟨rfl, hsz, hP, hK, hD0⟩ := hv
  have hx := B.exec
  have hb := B.bytes
  have hr := B.returns
  have hts := atoms_spec (ws := v_x_Cert) B.pre
  have hown : s.vm.findClass RX1 = some m.cls := findClass_of_methodNamed B.named
  have hlocks := B.notSynchronized
  have hin : meth.name = "<init>" := (name_of_methodNamed B.named B.method).1
  subst hsz
  have hD := hD0.self (sz := s.heap.size)
  generalize hAe : va_A [(q, .inr (2, [.int 0, .int 0, .int 0, .int 0, .int 0, .int 0]))] s.heap.size = A at hD ⊢
  have hA : ∀ q : Nat, s.heap.size ≤ q → A q := fun q h => by rw [← hAe]; exact Or.inr h
  have hS : va_S A s.heap s.heap [] := va_S.rf
  have hP : va_P (dC, dI) vwCl [(q, .inr (2, [.int 0, .int 0, .int 0, .int 0, .int 0, .int 0]))] s.heap := hP
  have hl := lv_entry ([.ref q, .int b0, .int b1, .int b2, .int b3, .int b4, .int b5]) (n := 7) (Nat.le_of_ble_eq_true rfl)
  rw [lg_entry_eq]
  generalize (lg_sl ([.ref q, .int b0, .int b1, .int b2, .int b3, .int b4, .int b5]) ++ List.replicate (7 - (lg_sl ([.ref q, .int b0, .int b1, .int b2, .int b3, .int b4, .int b5])).length) Slot.unset).toArray = ls at hl ⊢
  have hl : lv_has ls 7 [(0, .ref q), (1, .int b0), (2, .int b1), (3, .int b2), (4, .int b3), (5, .int b4), (6, .int b5)] := hl
  refine lv_aload_n hx hb dX1_init_0 rfl (lv_at hl 0 rfl) ?_
  refine W.objInit hx hb hown (hts _ (vA_in _ _ (in_10 _ (zs16 (zs16 (zs4 (zs0))))))) (hts _ (vA_in _ _ (in_4 _ (zs16 (zs1 (zs0)))))) (hts _ (vA_in _ _ (in_4 _ (zs16 (zs1 (zs1 (zs0))))))) rfl (by rw [hml]; exact hl.1) rfl dX1_init_1 (Nat.le_of_ble_eq_true rfl) (Nat.le_of_ble_eq_true rfl) ?_
  refine W.eq (g2 := F0 m 4 ls []) rfl ?_
  refine lv_aload_n hx hb dX1_init_4 rfl (lv_at hl 0 rfl) ?_
  refine lv_iload_n hx hb dX1_init_5 rfl (lv_at hl 1 rfl) ?_
  refine va_putF (D := (dC, dI)) (ci := 2) (v := .int b0) (ty := .int) (C := RX1) (T := TX1) (N := 6) hx hb hts (fun w h => vA_in _ w (in_X1 w h)) tyX1 tyX1_ok nmX1 hown hK hP hD hS 0 rfl rfl 0 (by decide) (hts _ (vA_in _ _ (in_10 _ (zs16 (zs16 (zs4 (zs1 (zs0)))))))) (fun _ h9 => h9) rfl hin rfl (by decide +kernel) rfl rfl (Nat.le_of_ble_eq_true rfl) dX1_init_6 (fun H locs hP hD hS => ?_)
  have hP : va_P (dC, dI) vwCl [(q, .inr (2, [.int b0, .int 0, .int 0, .int 0, .int 0, .int 0]))] H := hP
  have hD : va_D A [(q, .inr (2, [.int b0, .int 0, .int 0, .int 0, .int 0, .int 0]))] := hD
  refine lv_aload_n hx hb dX1_init_9 rfl (lv_at hl 0 rfl) ?_
  refine lv_iload_n hx hb dX1_init_10 rfl (lv_at hl 2 rfl) ?_
  refine va_putF (D := (dC, dI)) (ci := 2) (v := .int b1) (ty := .int) (C := RX1) (T := TX1) (N := 6) hx hb hts (fun w h => vA_in _ w (in_X1 w h)) tyX1 tyX1_ok nmX1 hown hK hP hD hS 0 rfl rfl 1 (by decide) (hts _ (vA_in _ _ (in_10 _ (zs16 (zs16 (zs4 (zs1 (zs1 (zs0))))))))) (fun _ h9 => h9) rfl hin rfl (by decide +kernel) rfl rfl (Nat.le_of_ble_eq_true rfl) dX1_init_11 (fun H locs hP hD hS => ?_)
  have hP : va_P (dC, dI) vwCl [(q, .inr (2, [.int b0, .int b1, .int 0, .int 0, .int 0, .int 0]))] H := hP
  have hD : va_D A [(q, .inr (2, [.int b0, .int b1, .int 0, .int 0, .int 0, .int 0]))] := hD
  refine lv_aload_n hx hb dX1_init_14 rfl (lv_at hl 0 rfl) ?_
  refine lv_iload_n hx hb dX1_init_15 rfl (lv_at hl 3 rfl) ?_
  refine va_putF (D := (dC, dI)) (ci := 2) (v := .int b2) (ty := .int) (C := RX1) (T := TX1) (N := 6) hx hb hts (fun w h => vA_in _ w (in_X1 w h)) tyX1 tyX1_ok nmX1 hown hK hP hD hS 0 rfl rfl 2 (by decide) (hts _ (vA_in _ _ (in_10 _ (zs16 (zs16 (zs4 (zs1 (zs1 (zs1 (zs0)))))))))) (fun _ h9 => h9) rfl hin rfl (by decide +kernel) rfl rfl (Nat.le_of_ble_eq_true rfl) dX1_init_16 (fun H locs hP hD hS => ?_)
  have hP : va_P (dC, dI) vwCl [(q, .inr (2, [.int b0, .int b1, .int b2, .int 0, .int 0, .int 0]))] H := hP
  have hD : va_D A [(q, .inr (2, [.int b0, .int b1, .int b2, .int 0, .int 0, .int 0]))] := hD
  refine lv_aload_n hx hb dX1_init_19 rfl (lv_at hl 0 rfl) ?_
  refine lv_iload hx hb dX1_init_20 (lv_at hl 4 rfl) ?_
  refine va_putF (D := (dC, dI)) (ci := 2) (v := .int b3) (ty := .int) (C := RX1) (T := TX1) (N := 6) hx hb hts (fun w h => vA_in _ w (in_X1 w h)) tyX1 tyX1_ok nmX1 hown hK hP hD hS 0 rfl rfl 3 (by decide) (hts _ (vA_in _ _ (in_11 _ zs0))) (fun _ h9 => h9) rfl hin rfl (by decide +kernel) rfl rfl (Nat.le_of_ble_eq_true rfl) dX1_init_22 (fun H locs hP hD hS => ?_)
  have hP : va_P (dC, dI) vwCl [(q, .inr (2, [.int b0, .int b1, .int b2, .int b3, .int 0, .int 0]))] H := hP
  have hD : va_D A [(q, .inr (2, [.int b0, .int b1, .int b2, .int b3, .int 0, .int 0]))] := hD
  refine lv_aload_n hx hb dX1_init_25 rfl (lv_at hl 0 rfl) ?_
  refine lv_iload hx hb dX1_init_26 (lv_at hl 5 rfl) ?_
  refine va_putF (D := (dC, dI)) (ci := 2) (v := .int b4) (ty := .int) (C := RX1) (T := TX1) (N := 6) hx hb hts (fun w h => vA_in _ w (in_X1 w h)) tyX1 tyX1_ok nmX1 hown hK hP hD hS 0 rfl rfl 4 (by decide) (hts _ (vA_in _ _ (in_11 _ (zs1 (zs0))))) (fun _ h9 => h9) rfl hin rfl (by decide +kernel) rfl rfl (Nat.le_of_ble_eq_true rfl) dX1_init_28 (fun H locs hP hD hS => ?_)
  have hP : va_P (dC, dI) vwCl [(q, .inr (2, [.int b0, .int b1, .int b2, .int b3, .int b4, .int 0]))] H := hP
  have hD : va_D A [(q, .inr (2, [.int b0, .int b1, .int b2, .int b3, .int b4, .int 0]))] := hD
  refine lv_aload_n hx hb dX1_init_31 rfl (lv_at hl 0 rfl) ?_
  refine lv_iload hx hb dX1_init_32 (lv_at hl 6 rfl) ?_
  refine va_putF (D := (dC, dI)) (ci := 2) (v := .int b5) (ty := .int) (C := RX1) (T := TX1) (N := 6) hx hb hts (fun w h => vA_in _ w (in_X1 w h)) tyX1 tyX1_ok nmX1 hown hK hP hD hS 0 rfl rfl 5 (by decide) (hts _ (vA_in _ _ (in_11 _ (zs1 (zs1 (zs0)))))) (fun _ h9 => h9) rfl hin rfl (by decide +kernel) rfl rfl (Nat.le_of_ble_eq_true rfl) dX1_init_34 (fun H locs hP hD hS => ?_)
  have hP : va_P (dC, dI) vwCl [(q, .inr (2, [.int b0, .int b1, .int b2, .int b3, .int b4, .int b5]))] H := hP
  have hD : va_D A [(q, .inr (2, [.int b0, .int b1, .int b2, .int b3, .int b4, .int b5]))] := hD
  have hP9 := hP.sub (ws' := [(q, .inr (2, [.int b0, .int b1, .int b2, .int b3, .int b4, .int b5]))]) [0] rfl
  have hD9 := hD.sub (ws' := [(q, .inr (2, [.int b0, .int b1, .int b2, .int b3, .int b4, .int b5]))]) [0] (by decide) rfl
  have hK9 := hK.sub (tys' := []) [] rfl
  exact W.vret hx hb hr (fun t ht hW => ⟨⟨(), rfl, trivial, (by rw [ht]; exact hP9), va_K.moved hW.alike hK9, hD9⟩, hS.F ht⟩) hS.2.2 dX1_init_37
def v_x_Result : List Cond := .code yX6_init cX6_init 6 none :: vA
set_option maxHeartbeats 4000000 in
set_option maxRecDepth 100000 in
theorem x_Result (l : Launch) (dC : Nat → ClassId) (dI : Nat → Nat → Nat) (q : Nat) (b0 : Int32) (b1 : Int32) (b2 : Int32) (b3 : Int32) (b4 : Int32) (sz : Nat)  : Met l yX6_init v_x_Result ({ frames := 1, cells := 0, slots := 0, locals := 40 }) (va_Pc [.ref q, .int b0, .int b1, .int b2, .int b3, .int b4] (fun U => U.heap.size = sz ∧ va_P (dC, dI) vwCl [(q, .inr (7, [.int 0, .int 0, .int 0, .int 0, .int 0]))] U.heap ∧ va_K (dC, dI) vwCl [] U ∧ va_D (fun _ => True) [(q, .inr (7, [.int 0, .int 0, .int 0, .int 0, .int 0]))])) (va_Qv (S := Unit) (fun _ => True) (fun u t => va_P (dC, dI) vwCl [(q, .inr (7, [.int b0, .int b1, .int b2, .int b3, .int b4]))] t.heap ∧ va_K (dC, dI) vwCl [] t ∧ va_D (va_A [(q, .inr (7, [.int 0, .int 0, .int 0, .int 0, .int 0]))] sz) [(q, .inr (7, [.int b0, .int b1, .int b2, .int b3, .int b4]))]) (va_A [(q, .inr (7, [.int 0, .int 0, .int 0, .int 0, .int 0]))] sz)) 0 0 (va_A [(q, .inr (7, [.int 0, .int 0, .int 0, .int 0, .int 0]))] sz) := by
  refine Met.ofW (cc := cX6_init) (maxL := 6) (ret := none) (by decide) rfl ?_
  intro p e s m args below meth c s₁ B hml hv
  obtain ⟨rfl, hsz, hP, hK, hD0⟩ := hv
  have hx := B.exec
  have hb := B.bytes
  have hr := B.returns
  have hts := atoms_spec (ws := v_x_Result) B.pre
  have hown : s.vm.findClass RX6 = some m.cls := findClass_of_methodNamed B.named
  have hlocks := B.notSynchronized
  have hin : meth.name = "<init>" := (name_of_methodNamed B.named B.method).1
  subst hsz
  have hD := hD0.self (sz := s.heap.size)
  generalize hAe : va_A [(q, .inr (7, [.int 0, .int 0, .int 0, .int 0, .int 0]))] s.heap.size = A at hD ⊢
  have hA : ∀ q : Nat, s.heap.size ≤ q → A q := fun q h => by rw [← hAe]; exact Or.inr h
  have hS : va_S A s.heap s.heap [] := va_S.rf
  have hP : va_P (dC, dI) vwCl [(q, .inr (7, [.int 0, .int 0, .int 0, .int 0, .int 0]))] s.heap := hP
  have hl := lv_entry ([.ref q, .int b0, .int b1, .int b2, .int b3, .int b4]) (n := 6) (Nat.le_of_ble_eq_true rfl)
  rw [lg_entry_eq]
  generalize (lg_sl ([.ref q, .int b0, .int b1, .int b2, .int b3, .int b4]) ++ List.replicate (6 - (lg_sl ([.ref q, .int b0, .int b1, .int b2, .int b3, .int b4])).length) Slot.unset).toArray = ls at hl ⊢
  have hl : lv_has ls 6 [(0, .ref q), (1, .int b0), (2, .int b1), (3, .int b2), (4, .int b3), (5, .int b4)] := hl
  refine lv_aload_n hx hb dX6_init_0 rfl (lv_at hl 0 rfl) ?_
  refine W.objInit hx hb hown (hts _ (vA_in _ _ (in_22 _ (zs16 (zs4 (zs4 (zs4 (zs1 (zs0))))))))) (hts _ (vA_in _ _ (in_4 _ (zs16 (zs1 (zs0)))))) (hts _ (vA_in _ _ (in_4 _ (zs16 (zs1 (zs1 (zs0))))))) rfl (by rw [hml]; exact hl.1) rfl dX6_init_1 (Nat.le_of_ble_eq_true rfl) (Nat.le_of_ble_eq_true rfl) ?_
  refine W.eq (g2 := F0 m 4 ls []) rfl ?_
  refine lv_aload_n hx hb dX6_init_4 rfl (lv_at hl 0 rfl) ?_
  refine lv_iload_n hx hb dX6_init_5 rfl (lv_at hl 1 rfl) ?_
  refine va_putF (D := (dC, dI)) (ci := 7) (v := .int b0) (ty := .int) (C := RX6) (T := TX6) (N := 5) hx hb hts (fun w h => vA_in _ w (in_X6 w h)) tyX6 tyX6_ok nmX6 hown hK hP hD hS 0 rfl rfl 0 (by decide) (hts _ (vA_in _ _ (in_22 _ (zs16 (zs4 (zs4 (zs4 (zs1 (zs1 (zs0)))))))))) (fun _ h9 => h9) rfl hin rfl (by decide +kernel) rfl rfl (Nat.le_of_ble_eq_true rfl) dX6_init_6 (fun H locs hP hD hS => ?_)
  have hP : va_P (dC, dI) vwCl [(q, .inr (7, [.int b0, .int 0, .int 0, .int 0, .int 0]))] H := hP
  have hD : va_D A [(q, .inr (7, [.int b0, .int 0, .int 0, .int 0, .int 0]))] := hD
  refine lv_aload_n hx hb dX6_init_9 rfl (lv_at hl 0 rfl) ?_
  refine lv_iload_n hx hb dX6_init_10 rfl (lv_at hl 2 rfl) ?_
  refine va_putF (D := (dC, dI)) (ci := 7) (v := .int b1) (ty := .int) (C := RX6) (T := TX6) (N := 5) hx hb hts (fun w h => vA_in _ w (in_X6 w h)) tyX6 tyX6_ok nmX6 hown hK hP hD hS 0 rfl rfl 1 (by decide) (hts _ (vA_in _ _ (in_22 _ (zs16 (zs4 (zs4 (zs4 (zs1 (zs1 (zs1 (zs0))))))))))) (fun _ h9 => h9) rfl hin rfl (by decide +kernel) rfl rfl (Nat.le_of_ble_eq_true rfl) dX6_init_11 (fun H locs hP hD hS => ?_)
  have hP : va_P (dC, dI) vwCl [(q, .inr (7, [.int b0, .int b1, .int 0, .int 0, .int 0]))] H := hP
  have hD : va_D A [(q, .inr (7, [.int b0, .int b1, .int 0, .int 0, .int 0]))] := hD
  refine lv_aload_n hx hb dX6_init_14 rfl (lv_at hl 0 rfl) ?_
  refine lv_iload_n hx hb dX6_init_15 rfl (lv_at hl 3 rfl) ?_
  refine va_putF (D := (dC, dI)) (ci := 7) (v := .int b2) (ty := .int) (C := RX6) (T := TX6) (N := 5) hx hb hts (fun w h => vA_in _ w (in_X6 w h)) tyX6 tyX6_ok nmX6 hown hK hP hD hS 0 rfl rfl 2 (by decide) (hts _ (vA_in _ _ (in_22 _ (zs16 (zs16 (zs0)))))) (fun _ h9 => h9) rfl hin rfl (by decide +kernel) rfl rfl (Nat.le_of_ble_eq_true rfl) dX6_init_16 (fun H locs hP hD hS => ?_)
  have hP : va_P (dC, dI) vwCl [(q, .inr (7, [.int b0, .int b1, .int b2, .int 0, .int 0]))] H := hP
  have hD : va_D A [(q, .inr (7, [.int b0, .int b1, .int b2, .int 0, .int 0]))] := hD
  refine lv_aload_n hx hb dX6_init_19 rfl (lv_at hl 0 rfl) ?_
  refine lv_iload hx hb dX6_init_20 (lv_at hl 4 rfl) ?_
  refine va_putF (D := (dC, dI)) (ci := 7) (v := .int b3) (ty := .int) (C := RX6) (T := TX6) (N := 5) hx hb hts (fun w h => vA_in _ w (in_X6 w h)) tyX6 tyX6_ok nmX6 hown hK hP hD hS 0 rfl rfl 3 (by decide) (hts _ (vA_in _ _ (in_22 _ (zs16 (zs16 (zs1 (zs0))))))) (fun _ h9 => h9) rfl hin rfl (by decide +kernel) rfl rfl (Nat.le_of_ble_eq_true rfl) dX6_init_22 (fun H locs hP hD hS => ?_)
  have hP : va_P (dC, dI) vwCl [(q, .inr (7, [.int b0, .int b1, .int b2, .int b3, .int 0]))] H := hP
  have hD : va_D A [(q, .inr (7, [.int b0, .int b1, .int b2, .int b3, .int 0]))] := hD
  refine lv_aload_n hx hb dX6_init_25 rfl (lv_at hl 0 rfl) ?_
  refine lv_iload hx hb dX6_init_26 (lv_at hl 5 rfl) ?_
  refine va_putF (D := (dC, dI)) (ci := 7) (v := .int b4) (ty := .int) (C := RX6) (T := TX6) (N := 5) hx hb hts (fun w h => vA_in _ w (in_X6 w h)) tyX6 tyX6_ok nmX6 hown hK hP hD hS 0 rfl rfl 4 (by decide) (hts _ (vA_in _ _ (in_22 _ (zs16 (zs16 (zs1 (zs1 (zs0)))))))) (fun _ h9 => h9) rfl hin rfl (by decide +kernel) rfl rfl (Nat.le_of_ble_eq_true rfl) dX6_init_28 (fun H locs hP hD hS => ?_)
  have hP : va_P (dC, dI) vwCl [(q, .inr (7, [.int b0, .int b1, .int b2, .int b3, .int b4]))] H := hP
  have hD : va_D A [(q, .inr (7, [.int b0, .int b1, .int b2, .int b3, .int b4]))] := hD
  have hP9 := hP.sub (ws' := [(q, .inr (7, [.int b0, .int b1, .int b2, .int b3, .int b4]))]) [0] rfl
  have hD9 := hD.sub (ws' := [(q, .inr (7, [.int b0, .int b1, .int b2, .int b3, .int b4]))]) [0] (by decide) rfl
  have hK9 := hK.sub (tys' := []) [] rfl
  exact W.vret hx hb hr (fun t ht hW => ⟨⟨(), rfl, trivial, (by rw [ht]; exact hP9), va_K.moved hW.alike hK9, hD9⟩, hS.F ht⟩) hS.2.2 dX6_init_31
def v_x_Word : List Cond := .code yX11_init cX11_init 4 none :: vA
set_option maxHeartbeats 4000000 in
set_option maxRecDepth 100000 in
theorem x_Word (l : Launch) (dC : Nat → ClassId) (dI : Nat → Nat → Nat) (q : Nat) (b0 : Int32) (b1 : Int32) (b2 : Int32) (sz : Nat)  : Met l yX11_init v_x_Word ({ frames := 1, cells := 0, slots := 0, locals := 40 }) (va_Pc [.ref q, .int b0, .int b1, .int b2] (fun U => U.heap.size = sz ∧ va_P (dC, dI) vwCl [(q, .inr (12, [.int 0, .int 0, .int 0, .int 0, .int 0, .int 0, .int 0, .int 0]))] U.heap ∧ va_K (dC, dI) vwCl [] U ∧ va_D (fun _ => True) [(q, .inr (12, [.int 0, .int 0, .int 0, .int 0, .int 0, .int 0, .int 0, .int 0]))])) (va_Qv (S := Unit) (fun _ => True) (fun u t => va_P (dC, dI) vwCl [(q, .inr (12, [.int b0, .int b1, .int b2, .int 0, .int 0, .int 0, .int 0, .int 0]))] t.heap ∧ va_K (dC, dI) vwCl [] t ∧ va_D (va_A [(q, .inr (12, [.int 0, .int 0, .int 0, .int 0, .int 0, .int 0, .int 0, .int 0]))] sz) [(q, .inr (12, [.int b0, .int b1, .int b2, .int 0, .int 0, .int 0, .int 0, .int 0]))]) (va_A [(q, .inr (12, [.int 0, .int 0, .int 0, .int 0, .int 0, .int 0, .int 0, .int 0]))] sz)) 0 0 (va_A [(q, .inr (12, [.int 0, .int 0, .int 0, .int 0, .int 0, .int 0, .int 0, .int 0]))] sz) := by
  refine Met.ofW (cc := cX11_init) (maxL := 4) (ret := none) (by decide) rfl ?_
  intro p e s m args below meth c s₁ B hml hv
  obtain ⟨rfl, hsz, hP, hK, hD0⟩ := hv
  have hx := B.exec
  have hb := B.bytes
  have hr := B.returns
  have hts := atoms_spec (ws := v_x_Word) B.pre
  have hown : s.vm.findClass RX11 = some m.cls := findClass_of_methodNamed B.named
  have hlocks := B.notSynchronized
  have hin : meth.name = "<init>" := (name_of_methodNamed B.named B.method).1
  subst hsz
  have hD := hD0.self (sz := s.heap.size)
  generalize hAe : va_A [(q, .inr (12, [.int 0, .int 0, .int 0, .int 0, .int 0, .int 0, .int 0, .int 0]))] s.heap.size = A at hD ⊢
  have hA : ∀ q : Nat, s.heap.size ≤ q → A q := fun q h => by rw [← hAe]; exact Or.inr h
  have hS : va_S A s.heap s.heap [] := va_S.rf
  have hP : va_P (dC, dI) vwCl [(q, .inr (12, [.int 0, .int 0, .int 0, .int 0, .int 0, .int 0, .int 0, .int 0]))] s.heap := hP
  have hl := lv_entry ([.ref q, .int b0, .int b1, .int b2]) (n := 4) (Nat.le_of_ble_eq_true rfl)
  rw [lg_entry_eq]
  generalize (lg_sl ([.ref q, .int b0, .int b1, .int b2]) ++ List.replicate (4 - (lg_sl ([.ref q, .int b0, .int b1, .int b2])).length) Slot.unset).toArray = ls at hl ⊢
  have hl : lv_has ls 4 [(0, .ref q), (1, .int b0), (2, .int b1), (3, .int b2)] := hl
  refine lv_aload_n hx hb dX11_init_0 rfl (lv_at hl 0 rfl) ?_
  refine W.objInit hx hb hown (hts _ (vA_in _ _ (in_10 _ (zs4 (zs1 (zs0)))))) (hts _ (vA_in _ _ (in_4 _ (zs16 (zs1 (zs0)))))) (hts _ (vA_in _ _ (in_4 _ (zs16 (zs1 (zs1 (zs0))))))) rfl (by rw [hml]; exact hl.1) rfl dX11_init_1 (Nat.le_of_ble_eq_true rfl) (Nat.le_of_ble_eq_true rfl) ?_
  refine W.eq (g2 := F0 m 4 ls []) rfl ?_
  refine lv_aload_n hx hb dX11_init_4 rfl (lv_at hl 0 rfl) ?_
  refine lv_iload_n hx hb dX11_init_5 rfl (lv_at hl 1 rfl) ?_
  refine va_putF (D := (dC, dI)) (ci := 12) (v := .int b0) (ty := .int) (C := RX11) (T := TX11) (N := 8) hx hb hts (fun w h => vA_in _ w (in_X11 w h)) tyX11 tyX11_ok nmX11 hown hK hP hD hS 0 rfl rfl 0 (by decide) (hts _ (vA_in _ _ (in_10 _ (zs4 (zs1 (zs1 (zs0))))))) (fun _ h9 => h9) rfl hin rfl (by decide +kernel) rfl rfl (Nat.le_of_ble_eq_true rfl) dX11_init_6 (fun H locs hP hD hS => ?_)
  have hP : va_P (dC, dI) vwCl [(q, .inr (12, [.int b0, .int 0, .int 0, .int 0, .int 0, .int 0, .int 0, .int 0]))] H := hP
  have hD : va_D A [(q, .inr (12, [.int b0, .int 0, .int 0, .int 0, .int 0, .int 0, .int 0, .int 0]))] := hD
  refine lv_aload_n hx hb dX11_init_9 rfl (lv_at hl 0 rfl) ?_
  refine lv_iload_n hx hb dX11_init_10 rfl (lv_at hl 2 rfl) ?_
  refine va_putF (D := (dC, dI)) (ci := 12) (v := .int b1) (ty := .int) (C := RX11) (T := TX11) (N := 8) hx hb hts (fun w h => vA_in _ w (in_X11 w h)) tyX11 tyX11_ok nmX11 hown hK hP hD hS 0 rfl rfl 1 (by decide) (hts _ (vA_in _ _ (in_10 _ (zs4 (zs1 (zs1 (zs1 (zs0)))))))) (fun _ h9 => h9) rfl hin rfl (by decide +kernel) rfl rfl (Nat.le_of_ble_eq_true rfl) dX11_init_11 (fun H locs hP hD hS => ?_)
  have hP : va_P (dC, dI) vwCl [(q, .inr (12, [.int b0, .int b1, .int 0, .int 0, .int 0, .int 0, .int 0, .int 0]))] H := hP
  have hD : va_D A [(q, .inr (12, [.int b0, .int b1, .int 0, .int 0, .int 0, .int 0, .int 0, .int 0]))] := hD
  refine lv_aload_n hx hb dX11_init_14 rfl (lv_at hl 0 rfl) ?_
  refine lv_iload_n hx hb dX11_init_15 rfl (lv_at hl 3 rfl) ?_
  refine va_putF (D := (dC, dI)) (ci := 12) (v := .int b2) (ty := .int) (C := RX11) (T := TX11) (N := 8) hx hb hts (fun w h => vA_in _ w (in_X11 w h)) tyX11 tyX11_ok nmX11 hown hK hP hD hS 0 rfl rfl 2 (by decide) (hts _ (vA_in _ _ (in_10 _ (zs4 (zs4 (zs0)))))) (fun _ h9 => h9) rfl hin rfl (by decide +kernel) rfl rfl (Nat.le_of_ble_eq_true rfl) dX11_init_16 (fun H locs hP hD hS => ?_)
  have hP : va_P (dC, dI) vwCl [(q, .inr (12, [.int b0, .int b1, .int b2, .int 0, .int 0, .int 0, .int 0, .int 0]))] H := hP
  have hD : va_D A [(q, .inr (12, [.int b0, .int b1, .int b2, .int 0, .int 0, .int 0, .int 0, .int 0]))] := hD
  have hP9 := hP.sub (ws' := [(q, .inr (12, [.int b0, .int b1, .int b2, .int 0, .int 0, .int 0, .int 0, .int 0]))]) [0] rfl
  have hD9 := hD.sub (ws' := [(q, .inr (12, [.int b0, .int b1, .int b2, .int 0, .int 0, .int 0, .int 0, .int 0]))]) [0] (by decide) rfl
  have hK9 := hK.sub (tys' := []) [] rfl
  exact W.vret hx hb hr (fun t ht hW => ⟨⟨(), rfl, trivial, (by rw [ht]; exact hP9), va_K.moved hW.alike hK9, hD9⟩, hS.F ht⟩) hS.2.2 dX11_init_19
def v_x_Protest : List Cond := .code yX4_init cX4_init 6 none :: vA
set_option maxHeartbeats 4000000 in
set_option maxRecDepth 100000 in
theorem x_Protest (l : Launch) (dC : Nat → ClassId) (dI : Nat → Nat → Nat) (q : Nat) (b0 : Int32) (b1 : Int32) (b2 : Int32) (b3 : Int32) (b4 : Int32) (sz : Nat)  : Met l yX4_init v_x_Protest ({ frames := 1, cells := 0, slots := 0, locals := 40 }) (va_Pc [.ref q, .int b0, .int b1, .int b2, .int b3, .int b4] (fun U => U.heap.size = sz ∧ va_P (dC, dI) vwCl [(q, .inr (5, [.int 0, .int 0, .int 0, .int 0, .int 0, .int 0, .int 0, .int 0, .int 0, .int 0]))] U.heap ∧ va_K (dC, dI) vwCl [] U ∧ va_D (fun _ => True) [(q, .inr (5, [.int 0, .int 0, .int 0, .int 0, .int 0, .int 0, .int 0, .int 0, .int 0, .int 0]))])) (va_Qv (S := Unit) (fun _ => True) (fun u t => va_P (dC, dI) vwCl [(q, .inr (5, [.int b0, .int b1, .int b2, .int b3, .int b4, .int (-1), .int 0, .int (-1), .int (-1), .int 0]))] t.heap ∧ va_K (dC, dI) vwCl [] t ∧ va_D (va_A [(q, .inr (5, [.int 0, .int 0, .int 0, .int 0, .int 0, .int 0, .int 0, .int 0, .int 0, .int 0]))] sz) [(q, .inr (5, [.int b0, .int b1, .int b2, .int b3, .int b4, .int (-1), .int 0, .int (-1), .int (-1), .int 0]))]) (va_A [(q, .inr (5, [.int 0, .int 0, .int 0, .int 0, .int 0, .int 0, .int 0, .int 0, .int 0, .int 0]))] sz)) 0 0 (va_A [(q, .inr (5, [.int 0, .int 0, .int 0, .int 0, .int 0, .int 0, .int 0, .int 0, .int 0, .int 0]))] sz) := by
  refine Met.ofW (cc := cX4_init) (maxL := 6) (ret := none) (by decide) rfl ?_
  intro p e s m args below meth c s₁ B hml hv
  obtain ⟨rfl, hsz, hP, hK, hD0⟩ := hv
  have hx := B.exec
  have hb := B.bytes
  have hr := B.returns
  have hts := atoms_spec (ws := v_x_Protest) B.pre
  have hown : s.vm.findClass RX4 = some m.cls := findClass_of_methodNamed B.named
  have hlocks := B.notSynchronized
  have hin : meth.name = "<init>" := (name_of_methodNamed B.named B.method).1
  subst hsz
  have hD := hD0.self (sz := s.heap.size)
  generalize hAe : va_A [(q, .inr (5, [.int 0, .int 0, .int 0, .int 0, .int 0, .int 0, .int 0, .int 0, .int 0, .int 0]))] s.heap.size = A at hD ⊢
  have hA : ∀ q : Nat, s.heap.size ≤ q → A q := fun q h => by rw [← hAe]; exact Or.inr h
  have hS : va_S A s.heap s.heap [] := va_S.rf
  have hP : va_P (dC, dI) vwCl [(q, .inr (5, [.int 0, .int 0, .int 0, .int 0, .int 0, .int 0, .int 0, .int 0, .int 0, .int 0]))] s.heap := hP
  have hl := lv_entry ([.ref q, .int b0, .int b1, .int b2, .int b3, .int b4]) (n := 6) (Nat.le_of_ble_eq_true rfl)
  rw [lg_entry_eq]
  generalize (lg_sl ([.ref q, .int b0, .int b1, .int b2, .int b3, .int b4]) ++ List.replicate (6 - (lg_sl ([.ref q, .int b0, .int b1, .int b2, .int b3, .int b4])).length) Slot.unset).toArray = ls at hl ⊢
  have hl : lv_has ls 6 [(0, .ref q), (1, .int b0), (2, .int b1), (3, .int b2), (4, .int b3), (5, .int b4)] := hl
  refine lv_aload_n hx hb dX4_init_0 rfl (lv_at hl 0 rfl) ?_
  refine W.objInit hx hb hown (hts _ (vA_in _ _ (in_21 _ (zs1 (zs0))))) (hts _ (vA_in _ _ (in_4 _ (zs16 (zs1 (zs0)))))) (hts _ (vA_in _ _ (in_4 _ (zs16 (zs1 (zs1 (zs0))))))) rfl (by rw [hml]; exact hl.1) rfl dX4_init_1 (Nat.le_of_ble_eq_true rfl) (Nat.le_of_ble_eq_true rfl) ?_
  refine W.eq (g2 := F0 m 4 ls []) rfl ?_
  refine lv_aload_n hx hb dX4_init_4 rfl (lv_at hl 0 rfl) ?_
  refine lv_iconst (v := -1) hx hb dX4_init_5 (by decide) ?_
  refine va_put (D := (dC, dI)) (ci := 5) (v := .int (-1)) (ty := .int) (C := RX4) (T := TX4) (N := 10) hx hb hts (fun w h => vA_in _ w (in_X4 w h)) tyX4 tyX4_ok nmX4 hown hK hP hD hS 0 rfl rfl 5 (by decide) (hts _ (vA_in _ _ (in_5 _ (zs16 (zs4 (zs1 (zs0))))))) (fun _ h9 => h9) rfl (by decide +kernel) rfl rfl (Nat.le_of_ble_eq_true rfl) dX4_init_6 (fun H locs hP hD hS => ?_)
  have hP : va_P (dC, dI) vwCl [(q, .inr (5, [.int 0, .int 0, .int 0, .int 0, .int 0, .int (-1), .int 0, .int 0, .int 0, .int 0]))] H := hP
  have hD : va_D A [(q, .inr (5, [.int 0, .int 0, .int 0, .int 0, .int 0, .int (-1), .int 0, .int 0, .int 0, .int 0]))] := hD
  refine lv_aload_n hx hb dX4_init_9 rfl (lv_at hl 0 rfl) ?_
  refine lv_iconst (v := -1) hx hb dX4_init_10 (by decide) ?_
  refine va_put (D := (dC, dI)) (ci := 5) (v := .int (-1)) (ty := .int) (C := RX4) (T := TX4) (N := 10) hx hb hts (fun w h => vA_in _ w (in_X4 w h)) tyX4 tyX4_ok nmX4 hown hK hP hD hS 0 rfl rfl 7 (by decide) (hts _ (vA_in _ _ (in_5 _ (zs16 (zs4 (zs0)))))) (fun _ h9 => h9) rfl (by decide +kernel) rfl rfl (Nat.le_of_ble_eq_true rfl) dX4_init_11 (fun H locs hP hD hS => ?_)
  have hP : va_P (dC, dI) vwCl [(q, .inr (5, [.int 0, .int 0, .int 0, .int 0, .int 0, .int (-1), .int 0, .int (-1), .int 0, .int 0]))] H := hP
  have hD : va_D A [(q, .inr (5, [.int 0, .int 0, .int 0, .int 0, .int 0, .int (-1), .int 0, .int (-1), .int 0, .int 0]))] := hD
  refine lv_aload_n hx hb dX4_init_14 rfl (lv_at hl 0 rfl) ?_
  refine lv_iconst (v := -1) hx hb dX4_init_15 (by decide) ?_
  refine va_put (D := (dC, dI)) (ci := 5) (v := .int (-1)) (ty := .int) (C := RX4) (T := TX4) (N := 10) hx hb hts (fun w h => vA_in _ w (in_X4 w h)) tyX4 tyX4_ok nmX4 hown hK hP hD hS 0 rfl rfl 8 (by decide) (hts _ (vA_in _ _ (in_5 _ (zs16 (zs1 (zs1 (zs0))))))) (fun _ h9 => h9) rfl (by decide +kernel) rfl rfl (Nat.le_of_ble_eq_true rfl) dX4_init_16 (fun H locs hP hD hS => ?_)
  have hP : va_P (dC, dI) vwCl [(q, .inr (5, [.int 0, .int 0, .int 0, .int 0, .int 0, .int (-1), .int 0, .int (-1), .int (-1), .int 0]))] H := hP
  have hD : va_D A [(q, .inr (5, [.int 0, .int 0, .int 0, .int 0, .int 0, .int (-1), .int 0, .int (-1), .int (-1), .int 0]))] := hD
  refine lv_aload_n hx hb dX4_init_19 rfl (lv_at hl 0 rfl) ?_
  refine lv_iload_n hx hb dX4_init_20 rfl (lv_at hl 1 rfl) ?_
  refine va_putF (D := (dC, dI)) (ci := 5) (v := .int b0) (ty := .int) (C := RX4) (T := TX4) (N := 10) hx hb hts (fun w h => vA_in _ w (in_X4 w h)) tyX4 tyX4_ok nmX4 hown hK hP hD hS 0 rfl rfl 0 (by decide) (hts _ (vA_in _ _ (in_21 _ (zs1 (zs1 (zs0)))))) (fun _ h9 => h9) rfl hin rfl (by decide +kernel) rfl rfl (Nat.le_of_ble_eq_true rfl) dX4_init_21 (fun H locs hP hD hS => ?_)
  have hP : va_P (dC, dI) vwCl [(q, .inr (5, [.int b0, .int 0, .int 0, .int 0, .int 0, .int (-1), .int 0, .int (-1), .int (-1), .int 0]))] H := hP
  have hD : va_D A [(q, .inr (5, [.int b0, .int 0, .int 0, .int 0, .int 0, .int (-1), .int 0, .int (-1), .int (-1), .int 0]))] := hD
  refine lv_aload_n hx hb dX4_init_24 rfl (lv_at hl 0 rfl) ?_
  refine lv_iload_n hx hb dX4_init_25 rfl (lv_at hl 2 rfl) ?_
  refine va_putF (D := (dC, dI)) (ci := 5) (v := .int b1) (ty := .int) (C := RX4) (T := TX4) (N := 10) hx hb hts (fun w h => vA_in _ w (in_X4 w h)) tyX4 tyX4_ok nmX4 hown hK hP hD hS 0 rfl rfl 1 (by decide) (hts _ (vA_in _ _ (in_21 _ (zs1 (zs1 (zs1 (zs0))))))) (fun _ h9 => h9) rfl hin rfl (by decide +kernel) rfl rfl (Nat.le_of_ble_eq_true rfl) dX4_init_26 (fun H locs hP hD hS => ?_)
  have hP : va_P (dC, dI) vwCl [(q, .inr (5, [.int b0, .int b1, .int 0, .int 0, .int 0, .int (-1), .int 0, .int (-1), .int (-1), .int 0]))] H := hP
  have hD : va_D A [(q, .inr (5, [.int b0, .int b1, .int 0, .int 0, .int 0, .int (-1), .int 0, .int (-1), .int (-1), .int 0]))] := hD
  refine lv_aload_n hx hb dX4_init_29 rfl (lv_at hl 0 rfl) ?_
  refine lv_iload_n hx hb dX4_init_30 rfl (lv_at hl 3 rfl) ?_
  refine va_putF (D := (dC, dI)) (ci := 5) (v := .int b2) (ty := .int) (C := RX4) (T := TX4) (N := 10) hx hb hts (fun w h => vA_in _ w (in_X4 w h)) tyX4 tyX4_ok nmX4 hown hK hP hD hS 0 rfl rfl 2 (by decide) (hts _ (vA_in _ _ (in_21 _ (zs4 (zs0))))) (fun _ h9 => h9) rfl hin rfl (by decide +kernel) rfl rfl (Nat.le_of_ble_eq_true rfl) dX4_init_31 (fun H locs hP hD hS => ?_)
  have hP : va_P (dC, dI) vwCl [(q, .inr (5, [.int b0, .int b1, .int b2, .int 0, .int 0, .int (-1), .int 0, .int (-1), .int (-1), .int 0]))] H := hP
  have hD : va_D A [(q, .inr (5, [.int b0, .int b1, .int b2, .int 0, .int 0, .int (-1), .int 0, .int (-1), .int (-1), .int 0]))] := hD
  refine lv_aload_n hx hb dX4_init_34 rfl (lv_at hl 0 rfl) ?_
  refine lv_iload hx hb dX4_init_35 (lv_at hl 4 rfl) ?_
  refine va_putF (D := (dC, dI)) (ci := 5) (v := .int b3) (ty := .int) (C := RX4) (T := TX4) (N := 10) hx hb hts (fun w h => vA_in _ w (in_X4 w h)) tyX4 tyX4_ok nmX4 hown hK hP hD hS 0 rfl rfl 3 (by decide) (hts _ (vA_in _ _ (in_21 _ (zs4 (zs1 (zs0)))))) (fun _ h9 => h9) rfl hin rfl (by decide +kernel) rfl rfl (Nat.le_of_ble_eq_true rfl) dX4_init_37 (fun H locs hP hD hS => ?_)
  have hP : va_P (dC, dI) vwCl [(q, .inr (5, [.int b0, .int b1, .int b2, .int b3, .int 0, .int (-1), .int 0, .int (-1), .int (-1), .int 0]))] H := hP
  have hD : va_D A [(q, .inr (5, [.int b0, .int b1, .int b2, .int b3, .int 0, .int (-1), .int 0, .int (-1), .int (-1), .int 0]))] := hD
  refine lv_aload_n hx hb dX4_init_40 rfl (lv_at hl 0 rfl) ?_
  refine lv_iload hx hb dX4_init_41 (lv_at hl 5 rfl) ?_
  refine va_putF (D := (dC, dI)) (ci := 5) (v := .int b4) (ty := .int) (C := RX4) (T := TX4) (N := 10) hx hb hts (fun w h => vA_in _ w (in_X4 w h)) tyX4 tyX4_ok nmX4 hown hK hP hD hS 0 rfl rfl 4 (by decide) (hts _ (vA_in _ _ (in_21 _ (zs4 (zs1 (zs1 (zs0))))))) (fun _ h9 => h9) rfl hin rfl (by decide +kernel) rfl rfl (Nat.le_of_ble_eq_true rfl) dX4_init_43 (fun H locs hP hD hS => ?_)
  have hP : va_P (dC, dI) vwCl [(q, .inr (5, [.int b0, .int b1, .int b2, .int b3, .int b4, .int (-1), .int 0, .int (-1), .int (-1), .int 0]))] H := hP
  have hD : va_D A [(q, .inr (5, [.int b0, .int b1, .int b2, .int b3, .int b4, .int (-1), .int 0, .int (-1), .int (-1), .int 0]))] := hD
  have hP9 := hP.sub (ws' := [(q, .inr (5, [.int b0, .int b1, .int b2, .int b3, .int b4, .int (-1), .int 0, .int (-1), .int (-1), .int 0]))]) [0] rfl
  have hD9 := hD.sub (ws' := [(q, .inr (5, [.int b0, .int b1, .int b2, .int b3, .int b4, .int (-1), .int 0, .int (-1), .int (-1), .int 0]))]) [0] (by decide) rfl
  have hK9 := hK.sub (tys' := []) [] rfl
  exact W.vret hx hb hr (fun t ht hW => ⟨⟨(), rfl, trivial, (by rw [ht]; exact hP9), va_K.moved hW.alike hK9, hD9⟩, hS.F ht⟩) hS.2.2 dX4_init_46
def v_x_say : List Cond := .code yX11_say cX11_say 6 none :: vA
set_option maxHeartbeats 4000000 in
set_option maxRecDepth 100000 in
theorem x_say (l : Launch) (dC : Nat → ClassId) (dI : Nat → Nat → Nat) (q : Nat) (b0 : Int32) (b1 : Int32) (b2 : Int32) (d0 : Int32) (d1 : Int32) (d2 : Int32) (d3 : Int32) (d4 : Int32) (sz : Nat)  : Met l yX11_say v_x_say ({ frames := 0, cells := 0, slots := 0, locals := 0 }) (va_Pc [.ref q, .int d0, .int d1, .int d2, .int d3, .int d4] (fun U => U.heap.size = sz ∧ va_P (dC, dI) vwCl [(q, .inr (12, [.int b0, .int b1, .int b2, .int 0, .int 0, .int 0, .int 0, .int 0]))] U.heap ∧ va_K (dC, dI) vwCl [] U ∧ va_D (fun _ => True) [(q, .inr (12, [.int b0, .int b1, .int b2, .int 0, .int 0, .int 0, .int 0, .int 0]))])) (va_Qv (S := Unit) (fun _ => True) (fun u t => va_P (dC, dI) vwCl [(q, .inr (12, [.int b0, .int b1, .int b2, .int d0, .int d1, .int d2, .int d3, .int d4]))] t.heap ∧ va_K (dC, dI) vwCl [] t ∧ va_D (va_A [(q, .inr (12, [.int b0, .int b1, .int b2, .int 0, .int 0, .int 0, .int 0, .int 0]))] sz) [(q, .inr (12, [.int b0, .int b1, .int b2, .int d0, .int d1, .int d2, .int d3, .int d4]))]) (va_A [(q, .inr (12, [.int b0, .int b1, .int b2, .int 0, .int 0, .int 0, .int 0, .int 0]))] sz)) 0 0 (va_A [(q, .inr (12, [.int b0, .int b1, .int b2, .int 0, .int 0, .int 0, .int 0, .int 0]))] sz) := by
  refine Met.ofW (cc := cX11_say) (maxL := 6) (ret := none) (by decide) rfl ?_
  intro p e s m args below meth c s₁ B hml hv
  obtain ⟨rfl, hsz, hP, hK, hD0⟩ := hv
  have hx := B.exec
  have hb := B.bytes
  have hr := B.returns
  have hts := atoms_spec (ws := v_x_say) B.pre
  have hown : s.vm.findClass RX11 = some m.cls := findClass_of_methodNamed B.named
  have hlocks := B.notSynchronized
  subst hsz
  have hD := hD0.self (sz := s.heap.size)
  generalize hAe : va_A [(q, .inr (12, [.int b0, .int b1, .int b2, .int 0, .int 0, .int 0, .int 0, .int 0]))] s.heap.size = A at hD ⊢
  have hA : ∀ q : Nat, s.heap.size ≤ q → A q := fun q h => by rw [← hAe]; exact Or.inr h
  have hS : va_S A s.heap s.heap [] := va_S.rf
  have hP : va_P (dC, dI) vwCl [(q, .inr (12, [.int b0, .int b1, .int b2, .int 0, .int 0, .int 0, .int 0, .int 0]))] s.heap := hP
  have hl := lv_entry ([.ref q, .int d0, .int d1, .int d2, .int d3, .int d4]) (n := 6) (Nat.le_of_ble_eq_true rfl)
  rw [lg_entry_eq]
  generalize (lg_sl ([.ref q, .int d0, .int d1, .int d2, .int d3, .int d4]) ++ List.replicate (6 - (lg_sl ([.ref q, .int d0, .int d1, .int d2, .int d3, .int d4])).length) Slot.unset).toArray = ls at hl ⊢
  have hl : lv_has ls 6 [(0, .ref q), (1, .int d0), (2, .int d1), (3, .int d2), (4, .int d3), (5, .int d4)] := hl
  refine lv_aload_n hx hb dX11_say_0 rfl (lv_at hl 0 rfl) ?_
  refine lv_iload_n hx hb dX11_say_1 rfl (lv_at hl 1 rfl) ?_
  refine va_put (D := (dC, dI)) (ci := 12) (v := .int d0) (ty := .int) (C := RX11) (T := TX11) (N := 8) hx hb hts (fun w h => vA_in _ w (in_X11 w h)) tyX11 tyX11_ok nmX11 hown hK hP hD hS 0 rfl rfl 3 (by decide) (hts _ (vA_in _ _ (in_10 _ (zs4 (zs4 (zs1 (zs1 (zs0)))))))) (fun _ h9 => h9) rfl (by decide +kernel) rfl rfl (Nat.le_of_ble_eq_true rfl) dX11_say_2 (fun H locs hP hD hS => ?_)
  have hP : va_P (dC, dI) vwCl [(q, .inr (12, [.int b0, .int b1, .int b2, .int d0, .int 0, .int 0, .int 0, .int 0]))] H := hP
  have hD : va_D A [(q, .inr (12, [.int b0, .int b1, .int b2, .int d0, .int 0, .int 0, .int 0, .int 0]))] := hD
  refine lv_aload_n hx hb dX11_say_5 rfl (lv_at hl 0 rfl) ?_
  refine lv_iload_n hx hb dX11_say_6 rfl (lv_at hl 2 rfl) ?_
  refine va_put (D := (dC, dI)) (ci := 12) (v := .int d1) (ty := .int) (C := RX11) (T := TX11) (N := 8) hx hb hts (fun w h => vA_in _ w (in_X11 w h)) tyX11 tyX11_ok nmX11 hown hK hP hD hS 0 rfl rfl 4 (by decide) (hts _ (vA_in _ _ (in_10 _ (zs4 (zs4 (zs1 (zs1 (zs1 (zs0))))))))) (fun _ h9 => h9) rfl (by decide +kernel) rfl rfl (Nat.le_of_ble_eq_true rfl) dX11_say_7 (fun H locs hP hD hS => ?_)
  have hP : va_P (dC, dI) vwCl [(q, .inr (12, [.int b0, .int b1, .int b2, .int d0, .int d1, .int 0, .int 0, .int 0]))] H := hP
  have hD : va_D A [(q, .inr (12, [.int b0, .int b1, .int b2, .int d0, .int d1, .int 0, .int 0, .int 0]))] := hD
  refine lv_aload_n hx hb dX11_say_10 rfl (lv_at hl 0 rfl) ?_
  refine lv_iload_n hx hb dX11_say_11 rfl (lv_at hl 3 rfl) ?_
  refine va_put (D := (dC, dI)) (ci := 12) (v := .int d2) (ty := .int) (C := RX11) (T := TX11) (N := 8) hx hb hts (fun w h => vA_in _ w (in_X11 w h)) tyX11 tyX11_ok nmX11 hown hK hP hD hS 0 rfl rfl 5 (by decide) (hts _ (vA_in _ _ (in_10 _ (zs4 (zs4 (zs4 (zs0))))))) (fun _ h9 => h9) rfl (by decide +kernel) rfl rfl (Nat.le_of_ble_eq_true rfl) dX11_say_12 (fun H locs hP hD hS => ?_)
  have hP : va_P (dC, dI) vwCl [(q, .inr (12, [.int b0, .int b1, .int b2, .int d0, .int d1, .int d2, .int 0, .int 0]))] H := hP
  have hD : va_D A [(q, .inr (12, [.int b0, .int b1, .int b2, .int d0, .int d1, .int d2, .int 0, .int 0]))] := hD
  refine lv_aload_n hx hb dX11_say_15 rfl (lv_at hl 0 rfl) ?_
  refine lv_iload hx hb dX11_say_16 (lv_at hl 4 rfl) ?_
  refine va_put (D := (dC, dI)) (ci := 12) (v := .int d3) (ty := .int) (C := RX11) (T := TX11) (N := 8) hx hb hts (fun w h => vA_in _ w (in_X11 w h)) tyX11 tyX11_ok nmX11 hown hK hP hD hS 0 rfl rfl 6 (by decide) (hts _ (vA_in _ _ (in_10 _ (zs4 (zs4 (zs4 (zs1 (zs0)))))))) (fun _ h9 => h9) rfl (by decide +kernel) rfl rfl (Nat.le_of_ble_eq_true rfl) dX11_say_18 (fun H locs hP hD hS => ?_)
  have hP : va_P (dC, dI) vwCl [(q, .inr (12, [.int b0, .int b1, .int b2, .int d0, .int d1, .int d2, .int d3, .int 0]))] H := hP
  have hD : va_D A [(q, .inr (12, [.int b0, .int b1, .int b2, .int d0, .int d1, .int d2, .int d3, .int 0]))] := hD
  refine lv_aload_n hx hb dX11_say_21 rfl (lv_at hl 0 rfl) ?_
  refine lv_iload hx hb dX11_say_22 (lv_at hl 5 rfl) ?_
  refine va_put (D := (dC, dI)) (ci := 12) (v := .int d4) (ty := .int) (C := RX11) (T := TX11) (N := 8) hx hb hts (fun w h => vA_in _ w (in_X11 w h)) tyX11 tyX11_ok nmX11 hown hK hP hD hS 0 rfl rfl 7 (by decide) (hts _ (vA_in _ _ (in_10 _ (zs4 (zs4 (zs4 (zs1 (zs1 (zs0))))))))) (fun _ h9 => h9) rfl (by decide +kernel) rfl rfl (Nat.le_of_ble_eq_true rfl) dX11_say_24 (fun H locs hP hD hS => ?_)
  have hP : va_P (dC, dI) vwCl [(q, .inr (12, [.int b0, .int b1, .int b2, .int d0, .int d1, .int d2, .int d3, .int d4]))] H := hP
  have hD : va_D A [(q, .inr (12, [.int b0, .int b1, .int b2, .int d0, .int d1, .int d2, .int d3, .int d4]))] := hD
  have hP9 := hP.sub (ws' := [(q, .inr (12, [.int b0, .int b1, .int b2, .int d0, .int d1, .int d2, .int d3, .int d4]))]) [0] rfl
  have hD9 := hD.sub (ws' := [(q, .inr (12, [.int b0, .int b1, .int b2, .int d0, .int d1, .int d2, .int d3, .int d4]))]) [0] (by decide) rfl
  have hK9 := hK.sub (tys' := []) [] rfl
  exact W.vret hx hb hr (fun t ht hW => ⟨⟨(), rfl, trivial, (by rw [ht]; exact hP9), va_K.moved hW.alike hK9, hD9⟩, hS.F ht⟩) hS.2.2 dX11_say_27
