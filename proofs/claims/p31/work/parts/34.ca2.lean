def tyX1 : Nat → FieldType := fun k => match k with
  | 0 => .int
  | 1 => .int
  | 2 => .int
  | 3 => .int
  | 4 => .int
  | _ => .int
theorem nmX1 : ∀ a, a < 6 → ∀ b, b < 6 → a ≠ b → (TX1 a).2.1 ≠ (TX1 b).2.1 := by decide +kernel
theorem tyX1_ok : ∀ k, k < 6 → parseFieldDescriptor (TX1 k).2.2.1 = some (tyX1 k) := by decide +kernel
def tyX4 : Nat → FieldType := fun k => match k with
  | 0 => .int
  | 1 => .int
  | 2 => .int
  | 3 => .int
  | 4 => .int
  | 5 => .int
  | 6 => .int
  | 7 => .int
  | 8 => .int
  | _ => .int
theorem nmX4 : ∀ a, a < 10 → ∀ b, b < 10 → a ≠ b → (TX4 a).2.1 ≠ (TX4 b).2.1 := by decide +kernel
theorem tyX4_ok : ∀ k, k < 10 → parseFieldDescriptor (TX4 k).2.2.1 = some (tyX4 k) := by decide +kernel
def tyX6 : Nat → FieldType := fun k => match k with
  | 0 => .int
  | 1 => .int
  | 2 => .int
  | 3 => .int
  | _ => .int
theorem nmX6 : ∀ a, a < 5 → ∀ b, b < 5 → a ≠ b → (TX6 a).2.1 ≠ (TX6 b).2.1 := by decide +kernel
theorem tyX6_ok : ∀ k, k < 5 → parseFieldDescriptor (TX6 k).2.2.1 = some (tyX6 k) := by decide +kernel
def tyX11 : Nat → FieldType := fun k => match k with
  | 0 => .int
  | 1 => .int
  | 2 => .int
  | 3 => .int
  | 4 => .int
  | 5 => .int
  | 6 => .int
  | _ => .int
theorem nmX11 : ∀ a, a < 8 → ∀ b, b < 8 → a ≠ b → (TX11 a).2.1 ≠ (TX11 b).2.1 := by decide +kernel
theorem tyX11_ok : ∀ k, k < 8 → parseFieldDescriptor (TX11 k).2.2.1 = some (tyX11 k) := by decide +kernel
set_option maxRecDepth 100000 in
theorem zh_dX1_init_0_0 : zc cX1_init 0 [42, 183, 0, 1, 42, 27, 181, 0, 7, 42, 28, 181, 0, 13, 42, 29] = true := by decide +kernel
set_option maxRecDepth 100000 in
theorem zh_dX1_init_16_16 : zc cX1_init 16 [181, 0, 16, 42, 21, 4, 181, 0, 19, 42, 21, 5, 181, 0, 22, 42] = true := by decide +kernel
set_option maxRecDepth 100000 in
theorem zh_dX1_init_32_32 : zc cX1_init 32 [21, 6, 181, 0, 25, 177] = true := by decide +kernel
set_option maxRecDepth 100000 in
theorem zh_dX4_init_0_0 : zc cX4_init 0 [42, 183, 0, 3, 42, 2, 181, 0, 9, 42, 2, 181, 0, 15, 42, 2] = true := by decide +kernel
set_option maxRecDepth 100000 in
theorem zh_dX4_init_16_16 : zc cX4_init 16 [181, 0, 18, 42, 27, 181, 0, 21, 42, 28, 181, 0, 24, 42, 29, 181] = true := by decide +kernel
set_option maxRecDepth 100000 in
theorem zh_dX4_init_31_32 : zc cX4_init 32 [0, 27, 42, 21, 4, 181, 0, 30, 42, 21, 5, 181, 0, 33, 177] = true := by decide +kernel
set_option maxRecDepth 100000 in
theorem zh_dX6_init_0_0 : zc cX6_init 0 [42, 183, 0, 1, 42, 27, 181, 0, 7, 42, 28, 181, 0, 13, 42, 29] = true := by decide +kernel
set_option maxRecDepth 100000 in
theorem zh_dX6_init_16_16 : zc cX6_init 16 [181, 0, 16, 42, 21, 4, 181, 0, 19, 42, 21, 5, 181, 0, 22, 177] = true := by decide +kernel
set_option maxRecDepth 100000 in
theorem zh_dX11_init_0_0 : zc cX11_init 0 [42, 183, 0, 1, 42, 27, 181, 0, 7, 42, 28, 181, 0, 13, 42, 29] = true := by decide +kernel
set_option maxRecDepth 100000 in
theorem zh_dX11_init_16_16 : zc cX11_init 16 [181, 0, 16, 177] = true := by decide +kernel
set_option maxRecDepth 100000 in
theorem zh_dX11_say_0_0 : zc cX11_say 0 [42, 27, 181, 0, 19, 42, 28, 181, 0, 22, 42, 29, 181, 0, 25, 42] = true := by decide +kernel
set_option maxRecDepth 100000 in
theorem zh_dX11_say_16_16 : zc cX11_say 16 [21, 4, 181, 0, 28, 42, 21, 5, 181, 0, 31, 177] = true := by decide +kernel
theorem dX1_init_0 : decode cX1_init 0 = .ok (.aload_n 0, 1) := zo_42 (zi_at zh_dX1_init_0_0 0 rfl)
theorem dX1_init_1 : decode cX1_init 1 = .ok (.invokespecial 1, 3) := zo_183 (zi_at zh_dX1_init_0_0 1 rfl) (zi_at zh_dX1_init_0_0 2 rfl) (zi_at zh_dX1_init_0_0 3 rfl) rfl
theorem dX1_init_4 : decode cX1_init 4 = .ok (.aload_n 0, 1) := zo_42 (zi_at zh_dX1_init_0_0 4 rfl)
theorem dX1_init_5 : decode cX1_init 5 = .ok (.iload_n 1, 1) := zo_27 (zi_at zh_dX1_init_0_0 5 rfl)
theorem dX1_init_6 : decode cX1_init 6 = .ok (.putfield 7, 3) := zo_181 (zi_at zh_dX1_init_0_0 6 rfl) (zi_at zh_dX1_init_0_0 7 rfl) (zi_at zh_dX1_init_0_0 8 rfl) rfl
theorem dX1_init_9 : decode cX1_init 9 = .ok (.aload_n 0, 1) := zo_42 (zi_at zh_dX1_init_0_0 9 rfl)
theorem dX1_init_10 : decode cX1_init 10 = .ok (.iload_n 2, 1) := zo_28 (zi_at zh_dX1_init_0_0 10 rfl)
theorem dX1_init_11 : decode cX1_init 11 = .ok (.putfield 13, 3) := zo_181 (zi_at zh_dX1_init_0_0 11 rfl) (zi_at zh_dX1_init_0_0 12 rfl) (zi_at zh_dX1_init_0_0 13 rfl) rfl
theorem dX1_init_14 : decode cX1_init 14 = .ok (.aload_n 0, 1) := zo_42 (zi_at zh_dX1_init_0_0 14 rfl)
theorem dX1_init_15 : decode cX1_init 15 = .ok (.iload_n 3, 1) := zo_29 (zi_at zh_dX1_init_0_0 15 rfl)
theorem dX1_init_16 : decode cX1_init 16 = .ok (.putfield 16, 3) := zo_181 (zi_at zh_dX1_init_16_16 0 rfl) (zi_at zh_dX1_init_16_16 1 rfl) (zi_at zh_dX1_init_16_16 2 rfl) rfl
theorem dX1_init_19 : decode cX1_init 19 = .ok (.aload_n 0, 1) := zo_42 (zi_at zh_dX1_init_16_16 3 rfl)
theorem dX1_init_20 : decode cX1_init 20 = .ok (.iload 4, 2) := zo_21 (zi_at zh_dX1_init_16_16 4 rfl) (zi_at zh_dX1_init_16_16 5 rfl)
theorem dX1_init_22 : decode cX1_init 22 = .ok (.putfield 19, 3) := zo_181 (zi_at zh_dX1_init_16_16 6 rfl) (zi_at zh_dX1_init_16_16 7 rfl) (zi_at zh_dX1_init_16_16 8 rfl) rfl
theorem dX1_init_25 : decode cX1_init 25 = .ok (.aload_n 0, 1) := zo_42 (zi_at zh_dX1_init_16_16 9 rfl)
theorem dX1_init_26 : decode cX1_init 26 = .ok (.iload 5, 2) := zo_21 (zi_at zh_dX1_init_16_16 10 rfl) (zi_at zh_dX1_init_16_16 11 rfl)
theorem dX1_init_28 : decode cX1_init 28 = .ok (.putfield 22, 3) := zo_181 (zi_at zh_dX1_init_16_16 12 rfl) (zi_at zh_dX1_init_16_16 13 rfl) (zi_at zh_dX1_init_16_16 14 rfl) rfl
theorem dX1_init_31 : decode cX1_init 31 = .ok (.aload_n 0, 1) := zo_42 (zi_at zh_dX1_init_16_16 15 rfl)
theorem dX1_init_32 : decode cX1_init 32 = .ok (.iload 6, 2) := zo_21 (zi_at zh_dX1_init_32_32 0 rfl) (zi_at zh_dX1_init_32_32 1 rfl)
theorem dX1_init_34 : decode cX1_init 34 = .ok (.putfield 25, 3) := zo_181 (zi_at zh_dX1_init_32_32 2 rfl) (zi_at zh_dX1_init_32_32 3 rfl) (zi_at zh_dX1_init_32_32 4 rfl) rfl
theorem dX1_init_37 : decode cX1_init 37 = .ok (.return_, 1) := zo_177 (zi_at zh_dX1_init_32_32 5 rfl)
theorem dX4_init_0 : decode cX4_init 0 = .ok (.aload_n 0, 1) := zo_42 (zi_at zh_dX4_init_0_0 0 rfl)
theorem dX4_init_1 : decode cX4_init 1 = .ok (.invokespecial 3, 3) := zo_183 (zi_at zh_dX4_init_0_0 1 rfl) (zi_at zh_dX4_init_0_0 2 rfl) (zi_at zh_dX4_init_0_0 3 rfl) rfl
theorem dX4_init_4 : decode cX4_init 4 = .ok (.aload_n 0, 1) := zo_42 (zi_at zh_dX4_init_0_0 4 rfl)
theorem dX4_init_5 : decode cX4_init 5 = .ok (.iconst (-1), 1) := zo_2 (zi_at zh_dX4_init_0_0 5 rfl)
theorem dX4_init_6 : decode cX4_init 6 = .ok (.putfield 9, 3) := zo_181 (zi_at zh_dX4_init_0_0 6 rfl) (zi_at zh_dX4_init_0_0 7 rfl) (zi_at zh_dX4_init_0_0 8 rfl) rfl
theorem dX4_init_9 : decode cX4_init 9 = .ok (.aload_n 0, 1) := zo_42 (zi_at zh_dX4_init_0_0 9 rfl)
theorem dX4_init_10 : decode cX4_init 10 = .ok (.iconst (-1), 1) := zo_2 (zi_at zh_dX4_init_0_0 10 rfl)
theorem dX4_init_11 : decode cX4_init 11 = .ok (.putfield 15, 3) := zo_181 (zi_at zh_dX4_init_0_0 11 rfl) (zi_at zh_dX4_init_0_0 12 rfl) (zi_at zh_dX4_init_0_0 13 rfl) rfl
theorem dX4_init_14 : decode cX4_init 14 = .ok (.aload_n 0, 1) := zo_42 (zi_at zh_dX4_init_0_0 14 rfl)
theorem dX4_init_15 : decode cX4_init 15 = .ok (.iconst (-1), 1) := zo_2 (zi_at zh_dX4_init_0_0 15 rfl)
theorem dX4_init_16 : decode cX4_init 16 = .ok (.putfield 18, 3) := zo_181 (zi_at zh_dX4_init_16_16 0 rfl) (zi_at zh_dX4_init_16_16 1 rfl) (zi_at zh_dX4_init_16_16 2 rfl) rfl
theorem dX4_init_19 : decode cX4_init 19 = .ok (.aload_n 0, 1) := zo_42 (zi_at zh_dX4_init_16_16 3 rfl)
theorem dX4_init_20 : decode cX4_init 20 = .ok (.iload_n 1, 1) := zo_27 (zi_at zh_dX4_init_16_16 4 rfl)
theorem dX4_init_21 : decode cX4_init 21 = .ok (.putfield 21, 3) := zo_181 (zi_at zh_dX4_init_16_16 5 rfl) (zi_at zh_dX4_init_16_16 6 rfl) (zi_at zh_dX4_init_16_16 7 rfl) rfl
theorem dX4_init_24 : decode cX4_init 24 = .ok (.aload_n 0, 1) := zo_42 (zi_at zh_dX4_init_16_16 8 rfl)
theorem dX4_init_25 : decode cX4_init 25 = .ok (.iload_n 2, 1) := zo_28 (zi_at zh_dX4_init_16_16 9 rfl)
theorem dX4_init_26 : decode cX4_init 26 = .ok (.putfield 24, 3) := zo_181 (zi_at zh_dX4_init_16_16 10 rfl) (zi_at zh_dX4_init_16_16 11 rfl) (zi_at zh_dX4_init_16_16 12 rfl) rfl
theorem dX4_init_29 : decode cX4_init 29 = .ok (.aload_n 0, 1) := zo_42 (zi_at zh_dX4_init_16_16 13 rfl)
theorem dX4_init_30 : decode cX4_init 30 = .ok (.iload_n 3, 1) := zo_29 (zi_at zh_dX4_init_16_16 14 rfl)
theorem dX4_init_31 : decode cX4_init 31 = .ok (.putfield 27, 3) := zo_181 (zi_at zh_dX4_init_16_16 15 rfl) (zi_at zh_dX4_init_31_32 0 rfl) (zi_at zh_dX4_init_31_32 1 rfl) rfl
theorem dX4_init_34 : decode cX4_init 34 = .ok (.aload_n 0, 1) := zo_42 (zi_at zh_dX4_init_31_32 2 rfl)
theorem dX4_init_35 : decode cX4_init 35 = .ok (.iload 4, 2) := zo_21 (zi_at zh_dX4_init_31_32 3 rfl) (zi_at zh_dX4_init_31_32 4 rfl)
theorem dX4_init_37 : decode cX4_init 37 = .ok (.putfield 30, 3) := zo_181 (zi_at zh_dX4_init_31_32 5 rfl) (zi_at zh_dX4_init_31_32 6 rfl) (zi_at zh_dX4_init_31_32 7 rfl) rfl
theorem dX4_init_40 : decode cX4_init 40 = .ok (.aload_n 0, 1) := zo_42 (zi_at zh_dX4_init_31_32 8 rfl)
theorem dX4_init_41 : decode cX4_init 41 = .ok (.iload 5, 2) := zo_21 (zi_at zh_dX4_init_31_32 9 rfl) (zi_at zh_dX4_init_31_32 10 rfl)
theorem dX4_init_43 : decode cX4_init 43 = .ok (.putfield 33, 3) := zo_181 (zi_at zh_dX4_init_31_32 11 rfl) (zi_at zh_dX4_init_31_32 12 rfl) (zi_at zh_dX4_init_31_32 13 rfl) rfl
theorem dX4_init_46 : decode cX4_init 46 = .ok (.return_, 1) := zo_177 (zi_at zh_dX4_init_31_32 14 rfl)
theorem dX6_init_0 : decode cX6_init 0 = .ok (.aload_n 0, 1) := zo_42 (zi_at zh_dX6_init_0_0 0 rfl)
theorem dX6_init_1 : decode cX6_init 1 = .ok (.invokespecial 1, 3) := zo_183 (zi_at zh_dX6_init_0_0 1 rfl) (zi_at zh_dX6_init_0_0 2 rfl) (zi_at zh_dX6_init_0_0 3 rfl) rfl
theorem dX6_init_4 : decode cX6_init 4 = .ok (.aload_n 0, 1) := zo_42 (zi_at zh_dX6_init_0_0 4 rfl)
theorem dX6_init_5 : decode cX6_init 5 = .ok (.iload_n 1, 1) := zo_27 (zi_at zh_dX6_init_0_0 5 rfl)
theorem dX6_init_6 : decode cX6_init 6 = .ok (.putfield 7, 3) := zo_181 (zi_at zh_dX6_init_0_0 6 rfl) (zi_at zh_dX6_init_0_0 7 rfl) (zi_at zh_dX6_init_0_0 8 rfl) rfl
theorem dX6_init_9 : decode cX6_init 9 = .ok (.aload_n 0, 1) := zo_42 (zi_at zh_dX6_init_0_0 9 rfl)
theorem dX6_init_10 : decode cX6_init 10 = .ok (.iload_n 2, 1) := zo_28 (zi_at zh_dX6_init_0_0 10 rfl)
theorem dX6_init_11 : decode cX6_init 11 = .ok (.putfield 13, 3) := zo_181 (zi_at zh_dX6_init_0_0 11 rfl) (zi_at zh_dX6_init_0_0 12 rfl) (zi_at zh_dX6_init_0_0 13 rfl) rfl
theorem dX6_init_14 : decode cX6_init 14 = .ok (.aload_n 0, 1) := zo_42 (zi_at zh_dX6_init_0_0 14 rfl)
theorem dX6_init_15 : decode cX6_init 15 = .ok (.iload_n 3, 1) := zo_29 (zi_at zh_dX6_init_0_0 15 rfl)
theorem dX6_init_16 : decode cX6_init 16 = .ok (.putfield 16, 3) := zo_181 (zi_at zh_dX6_init_16_16 0 rfl) (zi_at zh_dX6_init_16_16 1 rfl) (zi_at zh_dX6_init_16_16 2 rfl) rfl
theorem dX6_init_19 : decode cX6_init 19 = .ok (.aload_n 0, 1) := zo_42 (zi_at zh_dX6_init_16_16 3 rfl)
theorem dX6_init_20 : decode cX6_init 20 = .ok (.iload 4, 2) := zo_21 (zi_at zh_dX6_init_16_16 4 rfl) (zi_at zh_dX6_init_16_16 5 rfl)
theorem dX6_init_22 : decode cX6_init 22 = .ok (.putfield 19, 3) := zo_181 (zi_at zh_dX6_init_16_16 6 rfl) (zi_at zh_dX6_init_16_16 7 rfl) (zi_at zh_dX6_init_16_16 8 rfl) rfl
theorem dX6_init_25 : decode cX6_init 25 = .ok (.aload_n 0, 1) := zo_42 (zi_at zh_dX6_init_16_16 9 rfl)
theorem dX6_init_26 : decode cX6_init 26 = .ok (.iload 5, 2) := zo_21 (zi_at zh_dX6_init_16_16 10 rfl) (zi_at zh_dX6_init_16_16 11 rfl)
theorem dX6_init_28 : decode cX6_init 28 = .ok (.putfield 22, 3) := zo_181 (zi_at zh_dX6_init_16_16 12 rfl) (zi_at zh_dX6_init_16_16 13 rfl) (zi_at zh_dX6_init_16_16 14 rfl) rfl
theorem dX6_init_31 : decode cX6_init 31 = .ok (.return_, 1) := zo_177 (zi_at zh_dX6_init_16_16 15 rfl)
theorem dX11_init_0 : decode cX11_init 0 = .ok (.aload_n 0, 1) := zo_42 (zi_at zh_dX11_init_0_0 0 rfl)
theorem dX11_init_1 : decode cX11_init 1 = .ok (.invokespecial 1, 3) := zo_183 (zi_at zh_dX11_init_0_0 1 rfl) (zi_at zh_dX11_init_0_0 2 rfl) (zi_at zh_dX11_init_0_0 3 rfl) rfl
theorem dX11_init_4 : decode cX11_init 4 = .ok (.aload_n 0, 1) := zo_42 (zi_at zh_dX11_init_0_0 4 rfl)
theorem dX11_init_5 : decode cX11_init 5 = .ok (.iload_n 1, 1) := zo_27 (zi_at zh_dX11_init_0_0 5 rfl)
theorem dX11_init_6 : decode cX11_init 6 = .ok (.putfield 7, 3) := zo_181 (zi_at zh_dX11_init_0_0 6 rfl) (zi_at zh_dX11_init_0_0 7 rfl) (zi_at zh_dX11_init_0_0 8 rfl) rfl
theorem dX11_init_9 : decode cX11_init 9 = .ok (.aload_n 0, 1) := zo_42 (zi_at zh_dX11_init_0_0 9 rfl)
theorem dX11_init_10 : decode cX11_init 10 = .ok (.iload_n 2, 1) := zo_28 (zi_at zh_dX11_init_0_0 10 rfl)
theorem dX11_init_11 : decode cX11_init 11 = .ok (.putfield 13, 3) := zo_181 (zi_at zh_dX11_init_0_0 11 rfl) (zi_at zh_dX11_init_0_0 12 rfl) (zi_at zh_dX11_init_0_0 13 rfl) rfl
theorem dX11_init_14 : decode cX11_init 14 = .ok (.aload_n 0, 1) := zo_42 (zi_at zh_dX11_init_0_0 14 rfl)
theorem dX11_init_15 : decode cX11_init 15 = .ok (.iload_n 3, 1) := zo_29 (zi_at zh_dX11_init_0_0 15 rfl)
theorem dX11_init_16 : decode cX11_init 16 = .ok (.putfield 16, 3) := zo_181 (zi_at zh_dX11_init_16_16 0 rfl) (zi_at zh_dX11_init_16_16 1 rfl) (zi_at zh_dX11_init_16_16 2 rfl) rfl
theorem dX11_init_19 : decode cX11_init 19 = .ok (.return_, 1) := zo_177 (zi_at zh_dX11_init_16_16 3 rfl)
theorem dX11_say_0 : decode cX11_say 0 = .ok (.aload_n 0, 1) := zo_42 (zi_at zh_dX11_say_0_0 0 rfl)
theorem dX11_say_1 : decode cX11_say 1 = .ok (.iload_n 1, 1) := zo_27 (zi_at zh_dX11_say_0_0 1 rfl)
theorem dX11_say_2 : decode cX11_say 2 = .ok (.putfield 19, 3) := zo_181 (zi_at zh_dX11_say_0_0 2 rfl) (zi_at zh_dX11_say_0_0 3 rfl) (zi_at zh_dX11_say_0_0 4 rfl) rfl
theorem dX11_say_5 : decode cX11_say 5 = .ok (.aload_n 0, 1) := zo_42 (zi_at zh_dX11_say_0_0 5 rfl)
theorem dX11_say_6 : decode cX11_say 6 = .ok (.iload_n 2, 1) := zo_28 (zi_at zh_dX11_say_0_0 6 rfl)
theorem dX11_say_7 : decode cX11_say 7 = .ok (.putfield 22, 3) := zo_181 (zi_at zh_dX11_say_0_0 7 rfl) (zi_at zh_dX11_say_0_0 8 rfl) (zi_at zh_dX11_say_0_0 9 rfl) rfl
theorem dX11_say_10 : decode cX11_say 10 = .ok (.aload_n 0, 1) := zo_42 (zi_at zh_dX11_say_0_0 10 rfl)
theorem dX11_say_11 : decode cX11_say 11 = .ok (.iload_n 3, 1) := zo_29 (zi_at zh_dX11_say_0_0 11 rfl)
theorem dX11_say_12 : decode cX11_say 12 = .ok (.putfield 25, 3) := zo_181 (zi_at zh_dX11_say_0_0 12 rfl) (zi_at zh_dX11_say_0_0 13 rfl) (zi_at zh_dX11_say_0_0 14 rfl) rfl
theorem dX11_say_15 : decode cX11_say 15 = .ok (.aload_n 0, 1) := zo_42 (zi_at zh_dX11_say_0_0 15 rfl)
theorem dX11_say_16 : decode cX11_say 16 = .ok (.iload 4, 2) := zo_21 (zi_at zh_dX11_say_16_16 0 rfl) (zi_at zh_dX11_say_16_16 1 rfl)
theorem dX11_say_18 : decode cX11_say 18 = .ok (.putfield 28, 3) := zo_181 (zi_at zh_dX11_say_16_16 2 rfl) (zi_at zh_dX11_say_16_16 3 rfl) (zi_at zh_dX11_say_16_16 4 rfl) rfl
theorem dX11_say_21 : decode cX11_say 21 = .ok (.aload_n 0, 1) := zo_42 (zi_at zh_dX11_say_16_16 5 rfl)
theorem dX11_say_22 : decode cX11_say 22 = .ok (.iload 5, 2) := zo_21 (zi_at zh_dX11_say_16_16 6 rfl) (zi_at zh_dX11_say_16_16 7 rfl)
theorem dX11_say_24 : decode cX11_say 24 = .ok (.putfield 31, 3) := zo_181 (zi_at zh_dX11_say_16_16 8 rfl) (zi_at zh_dX11_say_16_16 9 rfl) (zi_at zh_dX11_say_16_16 10 rfl) rfl
theorem dX11_say_27 : decode cX11_say 27 = .ok (.return_, 1) := zo_177 (zi_at zh_dX11_say_16_16 11 rfl)

theorem Met.of {l : Launch} {y : MethodName} {ws : List Cond} {rm : Room} {Pc : Array Value → State → Prop} {Qc : Array Value → State → Outcome → State → Prop} {mc ms : Nat} {free : Addr → Prop} (h : ∀ a s, Pc a s → ∃ (Pc' : Array Value → State → Prop) (Qc' : Array Value → State → Outcome → State → Prop) (free' : Addr → Prop), Met l y ws rm Pc' Qc' mc ms free' ∧ Pc' a s ∧ (∀ o t, Qc' a s o t → Qc a s o t) ∧ ∀ q, free' q → free q) : Met l y ws rm Pc Qc mc ms free := by
  intro p e ha hc hk s m args below hf happ hP hK
  obtain ⟨Pc', Qc', free', hM, h1, h2, h3⟩ := h args s hP
  obtain ⟨n, o, q1, q2, q3, q4, L, q5, q6⟩ := hM p e ha hc hk s m args below hf happ h1 hK
  exact ⟨n, o, q1, q2, q3, h2 _ _ q4, L, q5, fun q hq => h3 _ (q6 q hq)⟩
theorem va_D_left {A : Nat → Prop} {w1 w2 : va_W} (h : va_D A (w1 ++ w2)) : va_D A w1 := by
  rw [va_D_iff] at h ⊢
  rw [List.map_append] at h
  exact ⟨(List.nodup_append.mp h.1).1, fun q hq => h.2 q (List.mem_append_left _ hq)⟩
theorem va_D_out {A : Nat → Prop} {w1 w2 : va_W} (h : va_D A (w1 ++ w2)) : ∀ x ∈ w1, ∀ y ∈ w2, x.1 ≠ y.1 := by
  rw [va_D_iff, List.map_append] at h
  intro x hx y hy
  exact (List.nodup_append.mp h.1).2.2 _ (List.mem_map_of_mem hx) _ (List.mem_map_of_mem hy)
section ADDW
variable {cT : Nat → ClassId} {cf cf' : Nat → Nat} {J : Nat} {ad : Nat → Nat} {E : Nat → va_E}
/-- what the list's object holds -/
theorem list_cell (hI : IXL cT (shC cf) (spC cf) (LC cf) ad E) (hC : CF cf) (hJ : J < 6) : ∃ m : Int32, E (7 + J) = .inr (0, [.int m, .ref (if 0 < cf J then ad (13 + J) else cf 6), .int (nI (cf J))]) := by
  have hf : fixB (7 + J) = true := by
    rcases (show J = 0 ∨ J = 1 ∨ J = 2 ∨ J = 3 ∨ J = 4 ∨ J = 5 by omega) with rfl | rfl | rfl | rfl | rfl | rfl <;> rfl
  have hs : shC cf (7 + J) = (0, 0, 3) := by
    rw [shC_f hf (by omega)]
    rcases (show J = 0 ∨ J = 1 ∨ J = 2 ∨ J = 3 ∨ J = 4 ∨ J = 5 by omega) with rfl | rfl | rfl | rfl | rfl | rfl <;> rfl
  have h0 := hI.2 (7 + J) (mF _ hf)
  rw [hs] at h0
  have h1 := h0.2 0 (show 0 < 3 by omega)
  have h2 := h0.2 1 (show 1 < 3 by omega)
  have h3 := h0.2 2 (show 2 < 3 by omega)
  rw [spC_a J hJ] at h1 h2 h3
  obtain ⟨m, e1⟩ : ∃ m : Int32, xv (E (7 + J)) 0 = .int m := ⟨_, h1.1⟩
  have e2 : xv (E (7 + J)) 1 = .ref (if 0 < cf J then ad (13 + J) else cf 6) := by
    by_cases z : 0 < cf J
    · rw [if_pos z]
      have h2 : okV ad (bif Nat.blt 0 (cf J) then (1, ((13 + J : Nat) : Int), 0) else (4, ((cf 6 : Nat) : Int), 0)) (xv (E (7 + J)) 1) := h2
      rw [blt_t z] at h2
      exact h2
    · rw [if_neg z]
      have h2 : okV ad (bif Nat.blt 0 (cf J) then (1, ((13 + J : Nat) : Int), 0) else (4, ((cf 6 : Nat) : Int), 0)) (xv (E (7 + J)) 1) := h2
      rw [blt_f (show cf J ≤ 0 by omega)] at h2
      exact h2
  have e3 : xv (E (7 + J)) 2 = .int (nI (cf J)) := by
    have h3 : xv (E (7 + J)) 2 = .int (vi (xv (E (7 + J)) 2)) ∧ ((cf J : Nat) : Int) ≤ (vi (xv (E (7 + J)) 2)).toInt ∧ (vi (xv (E (7 + J)) 2)).toInt ≤ ((cf J : Nat) : Int) := h3
    rw [h3.1]
    congr 1
    apply Int32.toInt_inj.mp
    rw [nI_toInt (by have := kl_le hC J hJ; omega)]
    omega
  refine ⟨m, h0.1.trans ?_⟩
  show (Sum.inr (0, [xv (E (7 + J)) 0, xv (E (7 + J)) 1, xv (E (7 + J)) 2]) : va_E) = _
  rw [e1, e2, e3]
/-- the members but the list's own -/
def RLs (cf : Nat → Nat) (J : Nat) (K : List Nat) (k0 : Nat) : List Nat := K.erase k0 ++ (LC cf).filter (fun x => x != 7 + J && x != 13 + J)
theorem RLs_mem {K : List Nat} {k0 : Nat} (hK : K.Nodup) {x : Nat} : x ∈ RLs cf J K k0 ↔ (x ∈ K ∧ x ≠ k0) ∨ (x ∈ LC cf ∧ x ≠ 7 + J ∧ x ≠ 13 + J) := by
  unfold RLs
  rw [List.mem_append, List.mem_filter, hK.mem_erase_iff]
  constructor
  · rintro (h | ⟨h1, h2⟩)
    · exact Or.inl ⟨h.2, h.1⟩
    · rw [Bool.and_eq_true] at h2
      exact Or.inr ⟨h1, by simpa using h2.1, by simpa using h2.2⟩
  · rintro (h | ⟨h1, h2, h3⟩)
    · exact Or.inl ⟨h.2, h.1⟩
    · exact Or.inr ⟨h1, by simp [h2, h3]⟩
theorem RLs_nd {K : List Nat} {k0 : Nat} (hK : K.Nodup) (hd : ∀ x ∈ K, x ∉ LC cf) : (RLs cf J K k0).Nodup := by
  unfold RLs
  refine List.nodup_append.mpr ⟨hK.erase _, List.Pairwise.sublist List.filter_sublist (LC_nd cf), fun a ha b hb e => ?_⟩
  subst e
  exact hd a (List.mem_of_mem_erase ha) (List.mem_filter.mp hb).1
end ADDW
section
/-- the world of a maker: new cells K ahead of all others -/
def HWK (dC : Nat → ClassId) (dI : Nat → Nat → Nat) (tys : List (ClassId × FieldType)) (cf : Nat → Nat) (K : List Nat) (ad : Nat → Nat) (E : Nat → va_E) (sz : Nat) : State → Prop := fun U => U.heap.size = sz ∧ va_P (dC, dI) vwCl (WL (K ++ LC cf) ad E) U.heap ∧ va_K (dC, dI) vwCl tys U ∧ va_D (fun _ => True) (WL (K ++ LC cf) ad E) ∧ EVC (cf 6) (va_A (WL (K ++ LC cf) ad E) sz) U U.heap
section ADDF
variable {dC : Nat → ClassId} {dI : Nat → Nat → Nat} {cT : Nat → ClassId} {cf cf' : Nat → Nat} {J : Nat} {ad : Nat → Nat} {E : Nat → va_E} {K : List Nat} {ci : Nat} {vs : List Value}
theorem K_out (hJ : J < 6) (hKm : ∀ x, x ∈ K ↔ ∃ t, t < 15 ∧ kl t = J ∧ x = 64 * (cf J + 1) + t) : ∀ x ∈ K, x ∉ LC cf := by
  intro x hx h
  obtain ⟨t, h1, h2, rfl⟩ := (hKm x).mp hx
  rcases LC_cases h with ⟨-, h3⟩ | ⟨h3, h4, -⟩ | ⟨t', i, h3, h4, h5⟩
  · omega
  · omega
  · have e1 : t' = t := by omega
    have e2 : i = cf J := by omega
    subst e1 e2
    rw [h2] at h4
    omega
/-- behind add: the world by its new numbers -/
theorem add_fin (hC : CF cf) (hJ : J < 6) (hG : Grown J cf cf') (hmx : cf J < 300) (hK : K.Nodup) (hKm : ∀ x, x ∈ K ↔ ∃ t, t < 15 ∧ kl t = J ∧ x = 64 * (cf J + 1) + t) (hobj : E (64 * (cf J + 1) + lkd J) = .inr (ci, vs)) (hI : IXL cT (shC cf) (spC cf) (LC cf) ad E)
    (hn : ∀ t, t < 15 → kl t = J → okS cT (shP cf' t (cf J)) (E (64 * (cf J + 1) + t)) ∧ ∀ j, j < (shP cf' t (cf J)).2.2 → okV ad (spP cf' t (cf J) j) (xv (E (64 * (cf J + 1) + t)) j))
    {s t : State} {X : va_W} {isC : List Nat} (hisC : isC.map (fun i => X[i]?) = X.map some) (hX : ∀ x ∈ X, x ∈ WL (K ++ LC cf) ad E) (hP2 : va_P (dC, dI) vwCl (X ++ WL (RLs cf J K (64 * (cf J + 1) + lkd J)) ad E) s.heap) (hD2 : va_D (fun _ => True) (X ++ WL (RLs cf J K (64 * (cf J + 1) + lkd J)) ad E))
    {d' cap' : Nat} {f' : Nat → Option Nat} {m' : Int32} (b1 : cf J + 1 ≤ cap') (b2 : cap' ≤ 2 * (cf J + 1) + 10) (b3 : ∀ j, j < cf J → va_rf (f' j) = .ref (ad (64 * (j + 1) + lkd J))) (b4 : f' (cf J) = some (ad (64 * (cf J + 1) + lkd J)))
    (hP1 : va_P (dC, dI) vwCl [(ad (7 + J), .inr (0, [.int m', .ref d', .int (nI (cf J + 1))])), (d', .inl (cT 3, cap', .inr (.inr (.inr (.inr f'))))), (ad (64 * (cf J + 1) + lkd J), .inr (ci, vs))] t.heap) (hD1 : va_D (va_A X s.heap.size) [(ad (7 + J), .inr (0, [.int m', .ref d', .int (nI (cf J + 1))])), (d', .inl (cT 3, cap', .inr (.inr (.inr (.inr f'))))), (ad (64 * (cf J + 1) + lkd J), .inr (ci, vs))]) (hF : va_F (va_A X s.heap.size) s t) :
    ∃ u : (Nat → Nat) × (Nat → va_E), (IXL cT (shC cf') (spC cf') (LC cf') u.1 u.2 ∧ (∀ o, o ≠ 13 + J → u.1 o = ad o) ∧ ∀ o, o ≠ 7 + J → o ≠ 13 + J → u.2 o = E o) ∧ va_P (dC, dI) vwCl (WL (LC cf') u.1 u.2) t.heap ∧ va_D (va_A (WL (K ++ LC cf) ad E) s.heap.size) (WL (LC cf') u.1 u.2) := by
  have hb : ∀ j, j < 6 → cf j ≤ 300 := fun j hj => kl_le hC j hj
  have hkl := kl_lkd J hJ
  have hk0 : 64 * (cf J + 1) + lkd J ∈ K := (hKm _).mpr ⟨lkd J, hkl.2, hkl.1, rfl⟩
  have hKd := K_out hJ hKm
  have hK7 : ∀ x ∈ K, 64 ≤ x := fun x hx => by
    obtain ⟨t, -, -, rfl⟩ := (hKm x).mp hx
    omega
  have hXA : ∀ q, va_A X s.heap.size q → va_A (WL (K ++ LC cf) ad E) s.heap.size q := by
    rintro q (⟨k, e, hk⟩ | h)
    · have := hX _ (List.mem_of_getElem? hk)
      obtain ⟨i, hi⟩ := List.mem_iff_getElem?.mp this
      exact Or.inl ⟨i, e, hi⟩
    · exact Or.inr h
  have hRA : ∀ x ∈ WL (RLs cf J K (64 * (cf J + 1) + lkd J)) ad E, va_A (WL (K ++ LC cf) ad E) s.heap.size x.1 := by
    intro x hx
    obtain ⟨k, hk, rfl⟩ := List.mem_map.mp hx
    refine WL_A.mpr (Or.inl ⟨k, ?_, rfl⟩)
    rcases (RLs_mem hK).mp hk with h | h
    · exact List.mem_append_left _ h.1
    · exact List.mem_append_right _ h.1
  have hD2A : va_D (va_A (WL (K ++ LC cf) ad E) s.heap.size) (X ++ WL (RLs cf J K (64 * (cf J + 1) + lkd J)) ad E) := by
    rw [va_D_iff] at hD2 ⊢
    refine ⟨hD2.1, fun q hq => ?_⟩
    rcases List.mem_append.mp hq with h | h
    · obtain ⟨i, hi⟩ := List.mem_iff_getElem?.mp (hX q h)
      exact Or.inl ⟨i, q.2, hi⟩
    · exact hRA q h
  obtain ⟨hP3, hD3⟩ := va_joinQ (wr := []) hP2 hD2A isC [] hisC rfl rfl (fun _ h => nomatch h) (fun q h1 h2 => hF.2 q h1 h2) hXA hP1 hD1
  obtain ⟨L3, hL3⟩ : ∃ L3, L3 = (7 + J) :: (13 + J) :: (64 * (cf J + 1) + lkd J) :: RLs cf J K (64 * (cf J + 1) + lkd J) := ⟨_, rfl⟩
  have h13 : ∀ x, x ∈ RLs cf J K (64 * (cf J + 1) + lkd J) → x ≠ 7 + J ∧ x ≠ 13 + J ∧ x ≠ 64 * (cf J + 1) + lkd J := by
    intro x hx
    rcases (RLs_mem hK).mp hx with ⟨h1, h2⟩ | ⟨h1, h2, h3⟩
    · have := hK7 x h1
      exact ⟨by omega, by omega, h2⟩
    · exact ⟨h2, h3, fun e => hKd _ hk0 (e ▸ h1)⟩
  have hL3n : L3.Nodup := by
    rw [hL3]
    refine List.nodup_cons.mpr ⟨fun h => ?_, List.nodup_cons.mpr ⟨fun h => ?_, List.nodup_cons.mpr ⟨fun h => (h13 _ h).2.2 rfl, RLs_nd hK hKd⟩⟩⟩
    · rcases List.mem_cons.mp h with h | h
      · omega
      · rcases List.mem_cons.mp h with h | h
        · omega
        · exact (h13 _ h).1 rfl
    · rcases List.mem_cons.mp h with h | h
      · omega
      · exact (h13 _ h).2.1 rfl
  have hf7 : (7 + J) ∈ LC cf := mF _ (by rcases (show J = 0 ∨ J = 1 ∨ J = 2 ∨ J = 3 ∨ J = 4 ∨ J = 5 by omega) with rfl | rfl | rfl | rfl | rfl | rfl <;> rfl)
  have hp : L3.Perm (LC cf') := by
    refine LC_grow hC hJ hG hL3n (fun x => ?_) hmx
    rw [hL3]
    simp only [List.mem_cons, RLs_mem hK]
    constructor
    · rintro (h | h | h | ⟨h1, h2⟩ | ⟨h1, h2, h3⟩)
      · exact Or.inl (h ▸ hf7)
      · exact Or.inr (Or.inl h)
      · exact Or.inr (Or.inr ((hKm x).mp (h ▸ hk0)))
      · exact Or.inr (Or.inr ((hKm x).mp h1))
      · exact Or.inl h1
    · rintro (h | h | h)
      · by_cases e1 : x = 7 + J
        · exact Or.inl e1
        · by_cases e2 : x = 13 + J
          · exact Or.inr (Or.inl e2)
          · exact Or.inr (Or.inr (Or.inr (Or.inr ⟨h, e1, e2⟩)))
      · exact Or.inr (Or.inl h)
      · have hxK := (hKm x).mpr h
        by_cases e : x = 64 * (cf J + 1) + lkd J
        · exact Or.inr (Or.inr (Or.inl e))
        · exact Or.inr (Or.inr (Or.inr (Or.inl ⟨hxK, e⟩)))
  obtain ⟨ad', had'⟩ : ∃ ad', ad' = va_up ad (13 + J) d' := ⟨_, rfl⟩
  obtain ⟨E', hE'⟩ : ∃ E', E' = va_up (va_up E (7 + J) (.inr (0, [.int m', .ref d', .int (nI (cf J + 1))]))) (13 + J) (.inl (cT 3, cap', .inr (.inr (.inr (.inr f'))))) := ⟨_, rfl⟩
  have a1 : ∀ o, o ≠ 13 + J → ad' o = ad o := fun o h => by rw [had']; exact va_up_ne _ _ h
  have a2 : ad' (13 + J) = d' := by rw [had']; exact va_up_self _ _ _
  have e1 : ∀ o, o ≠ 7 + J → o ≠ 13 + J → E' o = E o := fun o h1 h2 => by rw [hE', va_up_ne _ _ h2, va_up_ne _ _ h1]
  have e2 : E' (13 + J) = .inl (cT 3, cap', .inr (.inr (.inr (.inr f')))) := by rw [hE']; exact va_up_self _ _ _
  have e3 : E' (7 + J) = .inr (0, [.int m', .ref d', .int (nI (cf J + 1))]) := by rw [hE', va_up_ne _ _ (by omega)]; exact va_up_self _ _ _
  have hw : WL L3 ad' E' = ([] ++ [(ad (7 + J), .inr (0, [.int m', .ref d', .int (nI (cf J + 1))])), (d', .inl (cT 3, cap', .inr (.inr (.inr (.inr f'))))), (ad (64 * (cf J + 1) + lkd J), .inr (ci, vs))]) ++ WL (RLs cf J K (64 * (cf J + 1) + lkd J)) ad E := by
    rw [hL3]
    show (ad' (7 + J), E' (7 + J)) :: (ad' (13 + J), E' (13 + J)) :: (ad' (64 * (cf J + 1) + lkd J), E' (64 * (cf J + 1) + lkd J)) :: WL (RLs cf J K (64 * (cf J + 1) + lkd J)) ad' E' = _
    rw [a1 _ (by omega), a2, a1 _ (by omega), e3, e2, e1 _ (by omega) (by omega), hobj, WL_congr (ad' := ad) (E' := E) fun k hk => ⟨a1 k (h13 k hk).2.1, e1 k (h13 k hk).1 (h13 k hk).2.1⟩]
    rfl
  rw [← hw] at hP3 hD3
  refine ⟨(ad', E'), ⟨?_, a1, e1⟩, va_P_perm hP3 (WL_perm hp.symm), va_D_perm hD3 (WL_perm hp.symm)⟩
  show IXL cT (shC cf') (spC cf') (LC cf') ad' E'
  refine IX_grow hI hC hJ hG (fun o _ h => a1 o h) (fun o _ h1 h2 => e1 o h1 h2) ⟨m', by rw [e3, a2]⟩ ⟨cap', f', b1, b2, e2, fun j hj => ?_⟩ fun t h1 h2 => ?_
  · rw [a1 _ (by omega)]
    by_cases q : j = cf J
    · subst q
      rw [b4]
      rfl
    · exact b3 j (by omega)
  · have h3 := hn t h1 h2
    rw [e1 _ (by omega) (by omega)]
    exact ⟨h3.1, fun j hj => okV_ad (spP_ref h1 (fun t' ht' e' => a1 _ (by omega)) j) (h3.2 j hj)⟩
end ADDF
theorem ZEc_n {ed : Nat} {A B : Nat → Prop} {U : State} {H : Heap} (h : ZEc ed A U H) (hAB : ∀ q, B q → A q) : ZEc ed B U H := ⟨va_Z.narrow h.1 hAB, va_T.narrow h.2 hAB⟩
/-- add of a list of the class, over its world: one more comes -/
theorem k_addW (l : Launch) (dC : Nat → ClassId) (dI : Nat → Nat → Nat) (cT : Nat → ClassId) (cf : Nat → Nat) (hC : CF cf) (ad : Nat → Nat) (E : Nat → va_E) (cf' : Nat → Nat) (J : Nat) (hJ : J < 6) (hG : Grown J cf cf') (hmx : cf J < 300) (K : List Nat) (hK : K.Nodup) (hKm : ∀ x, x ∈ K ↔ ∃ t, t < 15 ∧ kl t = J ∧ x = 64 * (cf J + 1) + t) (ci : Nat) (C : String) (T : u_T) (NC : Nat) (vs : List Value) (hci : vwCl[ci]? = some (C, T, NC)) (hcs : ∀ i, shP cf (lkd J) i = (0, ci, NC)) (hCn : C ∈ [RX1, RX7, RX5, RX6, RX11, RX4]) (hobj : E (64 * (cf J + 1) + lkd J) = .inr (ci, vs)) (sz : Nat) (hI : IXL cT (shC cf) (spC cf) (LC cf) ad E)
    (hn : ∀ t, t < 15 → kl t = J → okS cT (shP cf' t (cf J)) (E (64 * (cf J + 1) + t)) ∧ ∀ j, j < (shP cf' t (cf J)).2.2 → okV ad (spP cf' t (cf J) j) (xv (E (64 * (cf J + 1) + t)) j)) :
    Met l yJx4a65c_add_9ea2d v_k_addA rm_k_addA (va_Pc [.ref (ad (7 + J)), .ref (ad (64 * (cf J + 1) + lkd J))] (HWK dC dI (TYC cT) cf K ad E sz)) (va_Qi (S := (Nat → Nat) × (Nat → va_E)) (fun r u => r = 1 ∧ IXL cT (shC cf') (spC cf') (LC cf') u.1 u.2 ∧ (∀ o, o ≠ 13 + J → u.1 o = ad o) ∧ ∀ o, o ≠ 7 + J → o ≠ 13 + J → u.2 o = E o) (fun u t => va_P (dC, dI) vwCl (WL (LC cf') u.1 u.2) t.heap ∧ va_D (va_A (WL (K ++ LC cf) ad E) sz) (WL (LC cf') u.1 u.2)) (va_A (WL (K ++ LC cf) ad E) sz)) 1 640 (va_A (WL (K ++ LC cf) ad E) sz) := by
  refine Met.of fun a s hv => ?_
  obtain ⟨ha, hsz, hP, hKK, hD, hE⟩ := hv
  subst hsz
  have hb : ∀ j, j < 6 → cf j ≤ 300 := fun j hj => kl_le hC j hj
  have hkl := kl_lkd J hJ
  have hk0 : 64 * (cf J + 1) + lkd J ∈ K := (hKm _).mpr ⟨lkd J, hkl.2, hkl.1, rfl⟩
  have hKd := K_out hJ hKm
  have hK7 : ∀ x ∈ K, 64 ≤ x := fun x hx => by
    obtain ⟨t, -, -, rfl⟩ := (hKm x).mp hx
    omega
  have hf7 : (7 + J) ∈ LC cf := mF _ (by rcases (show J = 0 ∨ J = 1 ∨ J = 2 ∨ J = 3 ∨ J = 4 ∨ J = 5 by omega) with rfl | rfl | rfl | rfl | rfl | rfl <;> rfl)
  have hKx := hKK.sub (tys' := [(cT 3, .object "java/lang/Object")]) [3] rfl
  have hKLn : (K ++ LC cf).Nodup := List.nodup_append.mpr ⟨hK, LC_nd cf, fun a ha b hb e => hKd a ha (e ▸ hb)⟩
  have h13 : ∀ x, x ∈ RLs cf J K (64 * (cf J + 1) + lkd J) → x ≠ 7 + J ∧ x ≠ 13 + J ∧ x ≠ 64 * (cf J + 1) + lkd J := by
    intro x hx
    rcases (RLs_mem hK).mp hx with ⟨h1, h2⟩ | ⟨h1, h2, h3⟩
    · have := hK7 x h1
      exact ⟨by omega, by omega, h2⟩
    · exact ⟨h2, h3, fun e => hKd _ hk0 (e ▸ h1)⟩
  obtain ⟨m, hl⟩ := list_cell hI hC hJ
  have hca := hE.1.2.2.1 C hCn
  by_cases z : 0 < cf J
  · rw [if_pos z] at hl
    have hm : 13 + J ∈ LC cf := mD (13 + J) (by omega) (by omega) (by rw [show 13 + J - 13 = J by omega]; exact z)
    have h0 := hI.2 _ hm
    rw [shC_d J hJ] at h0
    obtain ⟨⟨cap, f, c1, c2, c3⟩, c4⟩ := h0
    have c4 : ∀ j, j < cf J → va_rf (f j) = .ref (ad (64 * (j + 1) + lkd J)) := by
      intro j hj
      have := c4 j hj
      rw [spC_d J hJ, c3] at this
      exact this
    obtain ⟨L2, hL2⟩ : ∃ L2, L2 = (7 + J) :: (13 + J) :: (64 * (cf J + 1) + lkd J) :: RLs cf J K (64 * (cf J + 1) + lkd J) := ⟨_, rfl⟩
    have hL2n : L2.Nodup := by
      rw [hL2]
      refine List.nodup_cons.mpr ⟨fun h => ?_, List.nodup_cons.mpr ⟨fun h => ?_, List.nodup_cons.mpr ⟨fun h => (h13 _ h).2.2 rfl, RLs_nd hK hKd⟩⟩⟩
      · rcases List.mem_cons.mp h with h | h
        · omega
        · rcases List.mem_cons.mp h with h | h
          · omega
          · exact (h13 _ h).1 rfl
      · rcases List.mem_cons.mp h with h | h
        · omega
        · exact (h13 _ h).2.1 rfl
    have hp : L2.Perm (K ++ LC cf) := by
      refine perm_mem hL2n hKLn fun x => ?_
      rw [hL2]
      simp only [List.mem_cons, RLs_mem hK, List.mem_append]
      constructor
      · rintro (h | h | h | ⟨h1, h2⟩ | ⟨h1, h2, h3⟩)
        · exact Or.inr (h ▸ hf7)
        · exact Or.inr (h ▸ hm)
        · exact Or.inl (h ▸ hk0)
        · exact Or.inl h1
        · exact Or.inr h1
      · rintro (h | h)
        · by_cases e : x = 64 * (cf J + 1) + lkd J
          · exact Or.inr (Or.inr (Or.inl e))
          · exact Or.inr (Or.inr (Or.inr (Or.inl ⟨h, e⟩)))
        · by_cases e1 : x = 7 + J
          · exact Or.inl e1
          · by_cases e2 : x = 13 + J
            · exact Or.inr (Or.inl e2)
            · exact Or.inr (Or.inr (Or.inr (Or.inr ⟨h, e1, e2⟩)))
    obtain ⟨X, hX⟩ : ∃ X : va_W, X = [(ad (7 + J), .inr (0, [.int m, .ref (ad (13 + J)), .int (nI (cf J))])), (ad (13 + J), .inl (cT 3, cap, .inr (.inr (.inr (.inr f))))), (ad (64 * (cf J + 1) + lkd J), .inr (ci, vs))] := ⟨_, rfl⟩
    have hw : WL L2 ad E = X ++ WL (RLs cf J K (64 * (cf J + 1) + lkd J)) ad E := by
      rw [hL2, hX]
      show (ad (7 + J), E (7 + J)) :: (ad (13 + J), E (13 + J)) :: (ad (64 * (cf J + 1) + lkd J), E (64 * (cf J + 1) + lkd J)) :: WL (RLs cf J K (64 * (cf J + 1) + lkd J)) ad E = _
      rw [hl, c3, hobj]
      rfl
    have hP2 := va_P_perm hP (WL_perm (ad := ad) (E := E) hp)
    have hD2 := va_D_perm hD (WL_perm (ad := ad) (E := E) hp)
    rw [hw] at hP2 hD2
    have hXm : ∀ x ∈ X, x ∈ WL (K ++ LC cf) ad E := fun x hx => (WL_perm (ad := ad) (E := E) hp).mem_iff.mp (by rw [hw]; exact List.mem_append_left _ hx)
    have hXA : ∀ q, va_A X s.heap.size q → va_A (WL (K ++ LC cf) ad E) s.heap.size q := by
      rintro q (⟨k, e, hk⟩ | h)
      · obtain ⟨i, hi⟩ := List.mem_iff_getElem?.mp (hXm _ (List.mem_of_getElem? hk))
        exact Or.inl ⟨i, e, hi⟩
      · exact Or.inr h
    have hPx : va_P (dC, dI) vwCl X s.heap := va_P_sub hP2 fun x hx => List.mem_append_left _ hx
    have hDx := va_D_left hD2
    have hPL : va_P (dC, dI) vwCl (WL (LC cf) ad E) s.heap := va_P_sub hP fun x hx => by rw [WL_append]; exact List.mem_append_right _ hx
    have hEL : EL (cf 6) C (cf J) f (va_A X s.heap.size) s s.heap := by
      refine ⟨ZEc_n hE.2.2.2 hXA, hE.1, fun i hi y hy => ?_, hca⟩
      have h4 := c4 i hi
      rw [hy] at h4
      have e4 : y = ad (64 * (i + 1) + lkd J) := by cases h4; rfl
      have hmo : 64 * (i + 1) + lkd J ∈ LC cf := mP (lkd J) i hkl.2 (by rw [hkl.1]; exact hi) (by rw [hkl.1]; exact hb J hJ)
      obtain ⟨cell, g1, g2, g3⟩ := va_recv hKK hPL hci (hI.ob _ hmo (show shC cf (64 * (i + 1) + lkd J) = (0, ci, NC) by rw [shC_p _ _ (by omega)]; exact hcs i))
      rw [e4]
      refine ⟨cell, g1, g2, g3, ?_⟩
      rintro (⟨k, e, hk⟩ | h)
      · have hmr : 64 * (i + 1) + lkd J ∈ RLs cf J K (64 * (cf J + 1) + lkd J) := (RLs_mem hK).mpr (Or.inr ⟨hmo, by omega, by omega⟩)
        exact va_D_out hD2 _ (List.mem_of_getElem? hk) _ (List.mem_map.mpr ⟨_, hmr, rfl⟩) rfl
      · have := (Array.getElem?_eq_some_iff.mp g1).1
        omega
    have fin : ∀ (u : Nat × Nat × (Nat → Option Nat)) (t : State), (cf J + 1 ≤ u.2.1 ∧ u.2.1 ≤ 2 * (cf J + 1) + 10 ∧ (∀ j : Nat, j < cf J → u.2.2 j = f j) ∧ u.2.2 (cf J) = some (ad (64 * (cf J + 1) + lkd J))) → va_P (dC, dI) vwCl [(ad (7 + J), .inr (0, [.int (m + 1), .ref u.1, .int (nI (cf J + 1))])), (u.1, .inl (cT 3, u.2.1, .inr (.inr (.inr (.inr u.2.2))))), (ad (64 * (cf J + 1) + lkd J), .inr (ci, vs))] t.heap → va_D (va_A X s.heap.size) [(ad (7 + J), .inr (0, [.int (m + 1), .ref u.1, .int (nI (cf J + 1))])), (u.1, .inl (cT 3, u.2.1, .inr (.inr (.inr (.inr u.2.2))))), (ad (64 * (cf J + 1) + lkd J), .inr (ci, vs))] → va_F (va_A X s.heap.size) s t → _ := fun u t h1 h2 h3 h4 => add_fin (dC := dC) (dI := dI) (isC := [0, 1, 2]) hC hJ hG hmx hK hKm hobj hI hn (by rw [hX]; rfl) hXm hP2 hD2 h1.1 h1.2.1 (fun j hj => by rw [h1.2.2.1 j hj]; exact c4 j hj) h1.2.2.2 h2 h3 h4
    by_cases zc : cf J < cap
    · refine ⟨_, _, _, k_addA l dC dI (cT 3) (ad (7 + J)) (ad (13 + J)) (ad (64 * (cf J + 1) + lkd J)) (cf J) cap (cf 6) ci m C T NC vs f s.heap.size (by omega) (by omega) (by omega) hci, ⟨ha, rfl, by rw [← hX]; exact hPx, hKx, by rw [← hX]; exact hDx, by rw [← hX]; exact hEL⟩, fun o t hq => ?_, fun q hq => hXA q (by rw [hX]; exact hq)⟩
      obtain ⟨⟨r, u, q1, ⟨q2, q3⟩, q4, q5⟩, q6⟩ := hq
      rw [← hX] at q5 q6
      obtain ⟨u', w1, w2⟩ := fin u t q3 q4 q5 q6
      exact ⟨⟨r, u', q1, ⟨q2, w1⟩, w2⟩, q6.1, fun q h1 h2 => q6.2 q h1 (fun h => h2 (hXA q h))⟩
    · have ec : cap = cf J := by omega
      subst ec
      refine ⟨_, _, _, k_addB l dC dI (cT 3) (ad (7 + J)) (ad (13 + J)) (ad (64 * (cf J + 1) + lkd J)) (cf J) (cf 6) ci m C T NC vs f s.heap.size (by omega) (by omega) hci, ⟨ha, rfl, by rw [← hX]; exact hPx, hKx, by rw [← hX]; exact hDx, by rw [← hX]; exact hEL⟩, fun o t hq => ?_, fun q hq => hXA q (by rw [hX]; exact hq)⟩
      obtain ⟨⟨r, u, q1, ⟨q2, q3⟩, q4, q5⟩, q6⟩ := hq
      rw [← hX] at q5 q6
      obtain ⟨u', w1, w2⟩ := fin u t q3 q4 q5 q6
      exact ⟨⟨r, u', q1, ⟨q2, w1⟩, w2⟩, q6.1, fun q h1 h2 => q6.2 q h1 (fun h => h2 (hXA q h))⟩
  · rw [if_neg z] at hl
    have z0 : cf J = 0 := by omega
    have hm : 13 + J ∉ LC cf := fun h => by
      rcases LC_cases h with ⟨h1, -⟩ | ⟨h1, h2, h3⟩ | ⟨t, i, h1, h2, h3⟩
      · unfold fixB at h1
        rw [Bool.or_eq_true, Bool.and_eq_true] at h1
        rcases h1 with h1 | h1
        · have := Nat.le_of_ble_eq_true h1; omega
        · have := Nat.le_of_ble_eq_true h1.1; omega
      · rw [show 13 + J - 13 = J by omega] at h3
        omega
      · omega
    obtain ⟨L2, hL2⟩ : ∃ L2, L2 = (7 + J) :: (64 * (cf J + 1) + lkd J) :: RLs cf J K (64 * (cf J + 1) + lkd J) := ⟨_, rfl⟩
    have hL2n : L2.Nodup := by
      rw [hL2]
      refine List.nodup_cons.mpr ⟨fun h => ?_, List.nodup_cons.mpr ⟨fun h => (h13 _ h).2.2 rfl, RLs_nd hK hKd⟩⟩
      rcases List.mem_cons.mp h with h | h
      · omega
      · exact (h13 _ h).1 rfl
    have hp : L2.Perm (K ++ LC cf) := by
      refine perm_mem hL2n hKLn fun x => ?_
      rw [hL2]
      simp only [List.mem_cons, RLs_mem hK, List.mem_append]
      constructor
      · rintro (h | h | ⟨h1, h2⟩ | ⟨h1, h2, h3⟩)
        · exact Or.inr (h ▸ hf7)
        · exact Or.inl (h ▸ hk0)
        · exact Or.inl h1
        · exact Or.inr h1
      · rintro (h | h)
        · by_cases e : x = 64 * (cf J + 1) + lkd J
          · exact Or.inr (Or.inl e)
          · exact Or.inr (Or.inr (Or.inl ⟨h, e⟩))
        · by_cases e1 : x = 7 + J
          · exact Or.inl e1
          · exact Or.inr (Or.inr (Or.inr ⟨h, e1, fun e2 => hm (e2 ▸ h)⟩))
    obtain ⟨X, hX⟩ : ∃ X : va_W, X = [(ad (7 + J), .inr (0, [.int m, .ref (cf 6), .int 0])), (ad (64 * (cf J + 1) + lkd J), .inr (ci, vs))] := ⟨_, rfl⟩
    have hw : WL L2 ad E = X ++ WL (RLs cf J K (64 * (cf J + 1) + lkd J)) ad E := by
      rw [hL2, hX]
      show (ad (7 + J), E (7 + J)) :: (ad (64 * (cf J + 1) + lkd J), E (64 * (cf J + 1) + lkd J)) :: WL (RLs cf J K (64 * (cf J + 1) + lkd J)) ad E = _
      rw [hl, hobj, show nI (cf J) = 0 by rw [z0]; rfl]
      rfl
    have hP2 := va_P_perm hP (WL_perm (ad := ad) (E := E) hp)
    have hD2 := va_D_perm hD (WL_perm (ad := ad) (E := E) hp)
    rw [hw] at hP2 hD2
    have hXm : ∀ x ∈ X, x ∈ WL (K ++ LC cf) ad E := fun x hx => (WL_perm (ad := ad) (E := E) hp).mem_iff.mp (by rw [hw]; exact List.mem_append_left _ hx)
    have hXA : ∀ q, va_A X s.heap.size q → va_A (WL (K ++ LC cf) ad E) s.heap.size q := by
      rintro q (⟨k, e, hk⟩ | h)
      · obtain ⟨i, hi⟩ := List.mem_iff_getElem?.mp (hXm _ (List.mem_of_getElem? hk))
        exact Or.inl ⟨i, e, hi⟩
      · exact Or.inr h
    have hPx : va_P (dC, dI) vwCl X s.heap := va_P_sub hP2 fun x hx => List.mem_append_left _ hx
    have hDx := va_D_left hD2
    have hEL : EL (cf 6) C 0 (fun _ => none) (va_A X s.heap.size) s s.heap := ⟨ZEc_n hE.2.2.2 hXA, hE.1, fun i hi y hy => absurd hi (by omega), hca⟩
    refine ⟨_, _, _, k_addC l dC dI (cT 3) (ad (7 + J)) (ad (64 * (cf J + 1) + lkd J)) (cf 6) ci m C T NC vs (fun _ => none) s.heap.size hci, ⟨ha, rfl, by rw [← hX]; exact hPx, hKx, by rw [← hX]; exact hDx, by rw [← hX]; exact hEL⟩, fun o t hq => ?_, fun q hq => hXA q (by rw [hX]; exact hq)⟩
    obtain ⟨⟨r, u, q1, ⟨q2, q3⟩, q4, q5⟩, q6⟩ := hq
    rw [← hX] at q5 q6
    obtain ⟨u', w1, w2⟩ := add_fin (dC := dC) (dI := dI) (isC := [0, 1]) (d' := u.1) (cap' := u.2.1) (f' := u.2.2) (m' := m + 1) hC hJ hG hmx hK hKm hobj hI hn (by rw [hX]; rfl) hXm hP2 hD2 (by have := q3.1; omega) (by have := q3.2.1; omega) (fun j hj => absurd hj (by omega)) ((congrArg u.2.2 z0).trans q3.2.2.2) (by rw [show nI (cf J + 1) = 1 by rw [z0]; rfl]; exact q4) (by rw [show nI (cf J + 1) = 1 by rw [z0]; rfl]; exact q5) q6
    exact ⟨⟨r, u', q1, ⟨q2, w1⟩, w2⟩, q6.1, fun q h1 h2 => q6.2 q h1 (fun h => h2 (hXA q h))⟩
end
section
theorem IX_ref {cf : Nat → Nat} (hC : CF cf) {o j : Nat} (ho : o ∈ LC cf) (hj : j < (shC cf o).2.2) : refP (fun k => k ∈ LC cf) (spC cf o j) := by
  have hb : ∀ j, j < 6 → cf j ≤ 300 := fun j hj => kl_le hC j hj
  rcases LC_cases ho with ⟨h1, h2⟩ | ⟨h1, h2, h3⟩ | ⟨t, i, h1, h2, rfl⟩
  · rcases (show o < 7 ∨ (7 ≤ o ∧ o < 13) ∨ (13 ≤ o ∧ o < 19) ∨ 19 ≤ o by omega) with q | q | q | q
    · rw [spC_o q]
      exact spO_ref (fun k hk => mF k hk) o q j
    · obtain ⟨k, rfl⟩ : ∃ k, o = 7 + k := ⟨o - 7, by omega⟩
      have hk : k < 6 := by omega
      rw [spC_a k hk]
      by_cases z : 0 < cf k
      · exact allR_getD (l := spA cf k) (by
          unfold spA
          rw [blt_t z]
          exact ⟨trivial, mD (13 + k) (by omega) (by omega) (by rw [show 13 + k - 13 = k by omega]; exact z), trivial, trivial⟩) j
      · exact allR_getD (l := spA cf k) (by
          unfold spA
          rw [blt_f (show cf k ≤ 0 by omega)]
          exact ⟨trivial, trivial, trivial, trivial⟩) j
    · exfalso
      unfold fixB at h1
      rw [Bool.or_eq_true, Bool.and_eq_true] at h1
      rcases h1 with h1 | h1
      · have := Nat.le_of_ble_eq_true h1; omega
      · have := Nat.le_of_ble_eq_true h1.1; omega
    · rw [spC_r q h2]
      exact spR_ref o
  · obtain ⟨k, rfl⟩ : ∃ k, o = 13 + k := ⟨o - 13, by omega⟩
    have hk : k < 6 := by omega
    have hkl := kl_lkd k hk
    rw [shC_d k hk] at hj
    have hj : j < cf k := hj
    rw [spC_d k hk]
    exact mP (lkd k) j hkl.2 (by rw [hkl.1]; exact hj) (by rw [hkl.1]; exact hb k hk)
  · rw [spC_p t i (by omega)]
    exact spP_ref h1 (fun t' ht' e' => mP t' i ht' (by rw [e']; exact h2) (by rw [e']; exact hb _ (kl_lt t h1))) j
theorem IX_ad {cT : Nat → ClassId} {cf : Nat → Nat} {ad ad' : Nat → Nat} {E E' : Nat → va_E} (hI : IXL cT (shC cf) (spC cf) (LC cf) ad E) (hC : CF cf) (had : ∀ o, o ∈ LC cf → ad' o = ad o) (hE : ∀ o, o ∈ LC cf → E' o = E o) : IXL cT (shC cf) (spC cf) (LC cf) ad' E' := by
  refine ⟨hI.1, fun o ho => ?_⟩
  rw [hE o ho]
  exact ⟨(hI.2 o ho).1, fun j hj => okV_ad (refP_m (IX_ref hC ho hj) had) ((hI.2 o ho).2 j hj)⟩
/-- all but what is written, the list and the new cells is kept -/
def KpG (J : Nat) (cf : Nat → Nat) (w : Nat → Nat → Bool) (E E' : Nat → va_E) : Prop := ∀ o j : Nat, o ≠ 7 + J → o ≠ 13 + J → (∀ t, t < 15 → kl t = J → o ≠ 64 * (cf J + 1) + t) → w o j = false → xv (E' o) j = xv (E o) j
/-- what a maker has done: nothing was made, or one more came to list J -/
def Made (J : Nat) (cT : Nat → ClassId) (cf : Nat → Nat) (ad : Nat → Nat) (w : Nat → Nat → Bool) (E : Nat → va_E) (u : (Nat → Nat) × (Nat → Nat) × (Nat → va_E)) (No : Prop) (Yes : va_E → Prop) : Prop := CF u.1 ∧ IXL cT (shC u.1) (spC u.1) (LC u.1) u.2.1 u.2.2 ∧ ((u.1 = cf ∧ u.2.1 = ad ∧ Kp w E u.2.2 ∧ No) ∨ (Grown J cf u.1 ∧ (∀ o, o ≠ 13 + J → (∀ t, t < 15 → kl t = J → o ≠ 64 * (cf J + 1) + t) → u.2.1 o = ad o) ∧ KpG J cf w E u.2.2 ∧ Yes (u.2.2 (64 * (cf J + 1) + lkd J))))
theorem CF_up {cf : Nat → Nat} {J : Nat} (hC : CF cf) (hJ : J < 6) {m : Nat} (hm : [80, 16, 20, 300, 200, 30].getD J 0 = m) (h : cf J < m) (h1 : J ≠ 1) : Grown J cf (va_up cf J (cf J + 1)) ∧ CF (va_up cf J (cf J + 1)) := by
  have g : Grown J cf (va_up cf J (cf J + 1)) := ⟨va_up_self _ _ _, fun j _ hj => va_up_ne _ _ hj, va_up_ne _ _ (by omega), fun i _ => ⟨va_up_ne _ _ (by omega), va_up_ne _ _ (by omega)⟩⟩
  refine ⟨g, ?_, fun i => ?_⟩
  · obtain ⟨⟨h0, h1, h2, h3, h4, h5⟩, -⟩ := hC
    have e : ∀ j, j < 6 → j ≠ J → va_up cf J (cf J + 1) j = cf j := fun j _ hj => va_up_ne _ _ hj
    have es : va_up cf J (cf J + 1) J = cf J + 1 := va_up_self _ _ _
    subst hm
    rcases (show J = 0 ∨ J = 1 ∨ J = 2 ∨ J = 3 ∨ J = 4 ∨ J = 5 by omega) with rfl | rfl | rfl | rfl | rfl | rfl
    all_goals
      simp only [List.getD_cons_zero, List.getD_cons_succ] at h
      refine ⟨?_, ?_, ?_, ?_, ?_, ?_⟩ <;> first | (rw [es]; omega) | (rw [e _ (by omega) (by omega)]; assumption)
  · rw [(g.2.2.2 i (fun e => absurd e h1)).1, (g.2.2.2 i (fun e => absurd e h1)).2]
    exact hC.2 i
end
section
def v_x_Cert : List Cond := .code yX1_init cX1_init 7 none :: vA
set_option maxHeartbeats 4000000 in
set_option maxRecDepth 100000 in
theorem x_Cert (l : Launch) (dC : Nat → ClassId) (dI : Nat → Nat → Nat) (q : Nat) (b0 : Int32) (b1 : Int32) (b2 : Int32) (b3 : Int32) (b4 : Int32) (b5 : Int32) (sz : Nat)  : Met l yX1_init v_x_Cert ({ frames := 1, cells := 0, slots := 0, locals := 40 }) (va_Pc [.ref q, .int b0, .int b1, .int b2, .int b3, .int b4, .int b5] (fun U => U.heap.size = sz ∧ va_P (dC, dI) vwCl [(q, .inr (2, [.int 0, .int 0, .int 0, .int 0, .int 0, .int 0]))] U.heap ∧ va_K (dC, dI) vwCl [] U ∧ va_D (fun _ => True) [(q, .inr (2, [.int 0, .int 0, .int 0, .int 0, .int 0, .int 0]))])) (va_Qv (S := Unit) (fun _ => True) (fun u t => va_P (dC, dI) vwCl [(q, .inr (2, [.int b0, .int b1, .int b2, .int b3, .int b4, .int b5]))] t.heap ∧ va_K (dC, dI) vwCl [] t ∧ va_D (va_A [(q, .inr (2, [.int 0, .int 0, .int 0, .int 0, .int 0, .int 0]))] sz) [(q, .inr (2, [.int b0, .int b1, .int b2, .int b3, .int b4, .int b5]))]) (va_A [(q, .inr (2, [.int 0, .int 0, .int 0, .int 0, .int 0, .int 0]))] sz)) 0 0 (va_A [(q, .inr (2, [.int 0, .int 0, .int 0, .int 0, .int 0, .int 0]))] sz) := by
  refine Met.ofW (cc := cX1_init) (maxL := 7) (ret := none) (by decide) rfl ?_
  intro p e s m args below meth c s₁ B hml hv
  obtain ⟨rfl, hsz, hP, hK, hD0⟩ := hv
  have hx := B.exec
  have hb := B.bytes
  have hr := B.returns
  have hts := atoms_spec (ws := v_x_Cert) B.pre
  have hown : s.vm.findClass RX1 = some m.cls := findClass_of_methodNamed B.named
  have hlocks := B.notSynchronized
  have hin : meth.name = "<init>" := (name_of_methodNamed B.named B.method).1
  subst hsz
  have hD := hD0.self (sz := s.heap.size)
  generalize hAe : va_A [(q, .inr (2, [.int 0, .int 0, .int 0, .int 0, .int 0, .int 0]))] s.heap.size = A at hD ⊢
  have hA : ∀ q : Nat, s.heap.size ≤ q → A q := fun q h => by rw [← hAe]; exact Or.inr h
  have hS : va_S A s.heap s.heap [] := va_S.rf
  have hP : va_P (dC, dI) vwCl [(q, .inr (2, [.int 0, .int 0, .int 0, .int 0, .int 0, .int 0]))] s.heap := hP
  have hl := lv_entry ([.ref q, .int b0, .int b1, .int b2, .int b3, .int b4, .int b5]) (n := 7) (Nat.le_of_ble_eq_true rfl)
  rw [lg_entry_eq]
  generalize (lg_sl ([.ref q, .int b0, .int b1, .int b2, .int b3, .int b4, .int b5]) ++ List.replicate (7 - (lg_sl ([.ref q, .int b0, .int b1, .int b2, .int b3, .int b4, .int b5])).length) Slot.unset).toArray = ls at hl ⊢
  have hl : lv_has ls 7 [(0, .ref q), (1, .int b0), (2, .int b1), (3, .int b2), (4, .int b3), (5, .int b4), (6, .int b5)] := hl
  refine lv_aload_n hx hb dX1_init_0 rfl (lv_at hl 0 rfl) ?_
  refine W.objInit hx hb hown (hts _ (vA_in _ _ (in_10 _ (zs16 (zs16 (zs4 (zs0))))))) (hts _ (vA_in _ _ (in_4 _ (zs16 (zs1 (zs0)))))) (hts _ (vA_in _ _ (in_4 _ (zs16 (zs1 (zs1 (zs0))))))) rfl (by rw [hml]; exact hl.1) rfl dX1_init_1 (Nat.le_of_ble_eq_true rfl) (Nat.le_of_ble_eq_true rfl) ?_
  refine W.eq (g2 := F0 m 4 ls []) rfl ?_
  refine lv_aload_n hx hb dX1_init_4 rfl (lv_at hl 0 rfl) ?_
  refine lv_iload_n hx hb dX1_init_5 rfl (lv_at hl 1 rfl) ?_
  refine va_putF (D := (dC, dI)) (ci := 2) (v := .int b0) (ty := .int) (C := RX1) (T := TX1) (N := 6) hx hb hts (fun w h => vA_in _ w (in_X1 w h)) tyX1 tyX1_ok nmX1 hown hK hP hD hS 0 rfl rfl 0 (by decide) (hts _ (vA_in _ _ (in_10 _ (zs16 (zs16 (zs4 (zs1 (zs0)))))))) (fun _ h9 => h9) rfl hin rfl (by decide +kernel) rfl rfl (Nat.le_of_ble_eq_true rfl) dX1_init_6 (fun H locs hP hD hS => ?_)
  have hP : va_P (dC, dI) vwCl [(q, .inr (2, [.int b0, .int 0, .int 0, .int 0, .int 0, .int 0]))] H := hP
  have hD : va_D A [(q, .inr (2, [.int b0, .int 0, .int 0, .int 0, .int 0, .int 0]))] := hD
  refine lv_aload_n hx hb dX1_init_9 rfl (lv_at hl 0 rfl) ?_
  refine lv_iload_n hx hb dX1_init_10 rfl (lv_at hl 2 rfl) ?_
  refine va_putF (D := (dC, dI)) (ci := 2) (v := .int b1) (ty := .int) (C := RX1) (T := TX1) (N := 6) hx hb hts (fun w h => vA_in _ w (in_X1 w h)) tyX1 tyX1_ok nmX1 hown hK hP hD hS 0 rfl rfl 1 (by decide) (hts _ (vA_in _ _ (in_10 _ (zs16 (zs16 (zs4 (zs1 (zs1 (zs0))))))))) (fun _ h9 => h9) rfl hin rfl (by decide +kernel) rfl rfl (Nat.le_of_ble_eq_true rfl) dX1_init_11 (fun H locs hP hD hS => ?_)
  have hP : va_P (dC, dI) vwCl [(q, .inr (2, [.int b0, .int b1, .int 0, .int 0, .int 0, .int 0]))] H := hP
  have hD : va_D A [(q, .inr (2, [.int b0, .int b1, .int 0, .int 0, .int 0, .int 0]))] := hD
  refine lv_aload_n hx hb dX1_init_14 rfl (lv_at hl 0 rfl) ?_
  refine lv_iload_n hx hb dX1_init_15 rfl (lv_at hl 3 rfl) ?_
  refine va_putF (D := (dC, dI)) (ci := 2) (v := .int b2) (ty := .int) (C := RX1) (T := TX1) (N := 6) hx hb hts (fun w h => vA_in _ w (in_X1 w h)) tyX1 tyX1_ok nmX1 hown hK hP hD hS 0 rfl rfl 2 (by decide) (hts _ (vA_in _ _ (in_10 _ (zs16 (zs16 (zs4 (zs1 (zs1 (zs1 (zs0)))))))))) (fun _ h9 => h9) rfl hin rfl (by decide +kernel) rfl rfl (Nat.le_of_ble_eq_true rfl) dX1_init_16 (fun H locs hP hD hS => ?_)
  have hP : va_P (dC, dI) vwCl [(q, .inr (2, [.int b0, .int b1, .int b2, .int 0, .int 0, .int 0]))] H := hP
  have hD : va_D A [(q, .inr (2, [.int b0, .int b1, .int b2, .int 0, .int 0, .int 0]))] := hD
  refine lv_aload_n hx hb dX1_init_19 rfl (lv_at hl 0 rfl) ?_
  refine lv_iload hx hb dX1_init_20 (lv_at hl 4 rfl) ?_
  refine va_putF (D := (dC, dI)) (ci := 2) (v := .int b3) (ty := .int) (C := RX1) (T := TX1) (N := 6) hx hb hts (fun w h => vA_in _ w (in_X1 w h)) tyX1 tyX1_ok nmX1 hown hK hP hD hS 0 rfl rfl 3 (by decide) (hts _ (vA_in _ _ (in_11 _ zs0))) (fun _ h9 => h9) rfl hin rfl (by decide +kernel) rfl rfl (Nat.le_of_ble_eq_true rfl) dX1_init_22 (fun H locs hP hD hS => ?_)
  have hP : va_P (dC, dI) vwCl [(q, .inr (2, [.int b0, .int b1, .int b2, .int b3, .int 0, .int 0]))] H := hP
  have hD : va_D A [(q, .inr (2, [.int b0, .int b1, .int b2, .int b3, .int 0, .int 0]))] := hD
  refine lv_aload_n hx hb dX1_init_25 rfl (lv_at hl 0 rfl) ?_
  refine lv_iload hx hb dX1_init_26 (lv_at hl 5 rfl) ?_
  refine va_putF (D := (dC, dI)) (ci := 2) (v := .int b4) (ty := .int) (C := RX1) (T := TX1) (N := 6) hx hb hts (fun w h => vA_in _ w (in_X1 w h)) tyX1 tyX1_ok nmX1 hown hK hP hD hS 0 rfl rfl 4 (by decide) (hts _ (vA_in _ _ (in_11 _ (zs1 (zs0))))) (fun _ h9 => h9) rfl hin rfl (by decide +kernel) rfl rfl (Nat.le_of_ble_eq_true rfl) dX1_init_28 (fun H locs hP hD hS => ?_)
  have hP : va_P (dC, dI) vwCl [(q, .inr (2, [.int b0, .int b1, .int b2, .int b3, .int b4, .int 0]))] H := hP
  have hD : va_D A [(q, .inr (2, [.int b0, .int b1, .int b2, .int b3, .int b4, .int 0]))] := hD
  refine lv_aload_n hx hb dX1_init_31 rfl (lv_at hl 0 rfl) ?_
  refine lv_iload hx hb dX1_init_32 (lv_at hl 6 rfl) ?_
  refine va_putF (D := (dC, dI)) (ci := 2) (v := .int b5) (ty := .int) (C := RX1) (T := TX1) (N := 6) hx hb hts (fun w h => vA_in _ w (in_X1 w h)) tyX1 tyX1_ok nmX1 hown hK hP hD hS 0 rfl rfl 5 (by decide) (hts _ (vA_in _ _ (in_11 _ (zs1 (zs1 (zs0)))))) (fun _ h9 => h9) rfl hin rfl (by decide +kernel) rfl rfl (Nat.le_of_ble_eq_true rfl) dX1_init_34 (fun H locs hP hD hS => ?_)
  have hP : va_P (dC, dI) vwCl [(q, .inr (2, [.int b0, .int b1, .int b2, .int b3, .int b4, .int b5]))] H := hP
  have hD : va_D A [(q, .inr (2, [.int b0, .int b1, .int b2, .int b3, .int b4, .int b5]))] := hD
  have hP9 := hP.sub (ws' := [(q, .inr (2, [.int b0, .int b1, .int b2, .int b3, .int b4, .int b5]))]) [0] rfl
  have hD9 := hD.sub (ws' := [(q, .inr (2, [.int b0, .int b1, .int b2, .int b3, .int b4, .int b5]))]) [0] (by decide) rfl
  have hK9 := hK.sub (tys' := []) [] rfl
  exact W.vret hx hb hr (fun t ht hW => ⟨⟨(), rfl, trivial, (by rw [ht]; exact hP9), va_K.moved hW.alike hK9, hD9⟩, hS.F ht⟩) hS.2.2 dX1_init_37
def v_x_Result : List Cond := .code yX6_init cX6_init 6 none :: vA
set_option maxHeartbeats 4000000 in
set_option maxRecDepth 100000 in
theorem x_Result (l : Launch) (dC : Nat → ClassId) (dI : Nat → Nat → Nat) (q : Nat) (b0 : Int32) (b1 : Int32) (b2 : Int32) (b3 : Int32) (b4 : Int32) (sz : Nat)  : Met l yX6_init v_x_Result ({ frames := 1, cells := 0, slots := 0, locals := 40 }) (va_Pc [.ref q, .int b0, .int b1, .int b2, .int b3, .int b4] (fun U => U.heap.size = sz ∧ va_P (dC, dI) vwCl [(q, .inr (7, [.int 0, .int 0, .int 0, .int 0, .int 0]))] U.heap ∧ va_K (dC, dI) vwCl [] U ∧ va_D (fun _ => True) [(q, .inr (7, [.int 0, .int 0, .int 0, .int 0, .int 0]))])) (va_Qv (S := Unit) (fun _ => True) (fun u t => va_P (dC, dI) vwCl [(q, .inr (7, [.int b0, .int b1, .int b2, .int b3, .int b4]))] t.heap ∧ va_K (dC, dI) vwCl [] t ∧ va_D (va_A [(q, .inr (7, [.int 0, .int 0, .int 0, .int 0, .int 0]))] sz) [(q, .inr (7, [.int b0, .int b1, .int b2, .int b3, .int b4]))]) (va_A [(q, .inr (7, [.int 0, .int 0, .int 0, .int 0, .int 0]))] sz)) 0 0 (va_A [(q, .inr (7, [.int 0, .int 0, .int 0, .int 0, .int 0]))] sz) := by
  refine Met.ofW (cc := cX6_init) (maxL := 6) (ret := none) (by decide) rfl ?_
  intro p e s m args below meth c s₁ B hml hv
  obtain ⟨rfl, hsz, hP, hK, hD0⟩ := hv
  have hx := B.exec
  have hb := B.bytes
  have hr := B.returns
  have hts := atoms_spec (ws := v_x_Result) B.pre
  have hown : s.vm.findClass RX6 = some m.cls := findClass_of_methodNamed B.named
  have hlocks := B.notSynchronized
  have hin : meth.name = "<init>" := (name_of_methodNamed B.named B.method).1
  subst hsz
  have hD := hD0.self (sz := s.heap.size)
  generalize hAe : va_A [(q, .inr (7, [.int 0, .int 0, .int 0, .int 0, .int 0]))] s.heap.size = A at hD ⊢
  have hA : ∀ q : Nat, s.heap.size ≤ q → A q := fun q h => by rw [← hAe]; exact Or.inr h
  have hS : va_S A s.heap s.heap [] := va_S.rf
  have hP : va_P (dC, dI) vwCl [(q, .inr (7, [.int 0, .int 0, .int 0, .int 0, .int 0]))] s.heap := hP
  have hl := lv_entry ([.ref q, .int b0, .int b1, .int b2, .int b3, .int b4]) (n := 6) (Nat.le_of_ble_eq_true rfl)
  rw [lg_entry_eq]
  generalize (lg_sl ([.ref q, .int b0, .int b1, .int b2, .int b3, .int b4]) ++ List.replicate (6 - (lg_sl ([.ref q, .int b0, .int b1, .int b2, .int b3, .int b4])).length) Slot.unset).toArray = ls at hl ⊢
  have hl : lv_has ls 6 [(0, .ref q), (1, .int b0), (2, .int b1), (3, .int b2), (4, .int b3), (5, .int b4)] := hl
  refine lv_aload_n hx hb dX6_init_0 rfl (lv_at hl 0 rfl) ?_
  refine W.objInit hx hb hown (hts _ (vA_in _ _ (in_22 _ (zs16 (zs4 (zs4 (zs4 (zs1 (zs0))))))))) (hts _ (vA_in _ _ (in_4 _ (zs16 (zs1 (zs0)))))) (hts _ (vA_in _ _ (in_4 _ (zs16 (zs1 (zs1 (zs0))))))) rfl (by rw [hml]; exact hl.1) rfl dX6_init_1 (Nat.le_of_ble_eq_true rfl) (Nat.le_of_ble_eq_true rfl) ?_
  refine W.eq (g2 := F0 m 4 ls []) rfl ?_
  refine lv_aload_n hx hb dX6_init_4 rfl (lv_at hl 0 rfl) ?_
  refine lv_iload_n hx hb dX6_init_5 rfl (lv_at hl 1 rfl) ?_
  refine va_putF (D := (dC, dI)) (ci := 7) (v := .int b0) (ty := .int) (C := RX6) (T := TX6) (N := 5) hx hb hts (fun w h => vA_in _ w (in_X6 w h)) tyX6 tyX6_ok nmX6 hown hK hP hD hS 0 rfl rfl 0 (by decide) (hts _ (vA_in _ _ (in_22 _ (zs16 (zs4 (zs4 (zs4 (zs1 (zs1 (zs0)))))))))) (fun _ h9 => h9) rfl hin rfl (by decide +kernel) rfl rfl (Nat.le_of_ble_eq_true rfl) dX6_init_6 (fun H locs hP hD hS => ?_)
  have hP : va_P (dC, dI) vwCl [(q, .inr (7, [.int b0, .int 0, .int 0, .int 0, .int 0]))] H := hP
  have hD : va_D A [(q, .inr (7, [.int b0, .int 0, .int 0, .int 0, .int 0]))] := hD
  refine lv_aload_n hx hb dX6_init_9 rfl (lv_at hl 0 rfl) ?_
  refine lv_iload_n hx hb dX6_init_10 rfl (lv_at hl 2 rfl) ?_
  refine va_putF (D := (dC, dI)) (ci := 7) (v := .int b1) (ty := .int) (C := RX6) (T := TX6) (N := 5) hx hb hts (fun w h => vA_in _ w (in_X6 w h)) tyX6 tyX6_ok nmX6 hown hK hP hD hS 0 rfl rfl 1 (by decide) (hts _ (vA_in _ _ (in_22 _ (zs16 (zs4 (zs4 (zs4 (zs1 (zs1 (zs1 (zs0))))))))))) (fun _ h9 => h9) rfl hin rfl (by decide +kernel) rfl rfl (Nat.le_of_ble_eq_true rfl) dX6_init_11 (fun H locs hP hD hS => ?_)
  have hP : va_P (dC, dI) vwCl [(q, .inr (7, [.int b0, .int b1, .int 0, .int 0, .int 0]))] H := hP
  have hD : va_D A [(q, .inr (7, [.int b0, .int b1, .int 0, .int 0, .int 0]))] := hD
  refine lv_aload_n hx hb dX6_init_14 rfl (lv_at hl 0 rfl) ?_
  refine lv_iload_n hx hb dX6_init_15 rfl (lv_at hl 3 rfl) ?_
  refine va_putF (D := (dC, dI)) (ci := 7) (v := .int b2) (ty := .int) (C := RX6) (T := TX6) (N := 5) hx hb hts (fun w h => vA_in _ w (in_X6 w h)) tyX6 tyX6_ok nmX6 hown hK hP hD hS 0 rfl rfl 2 (by decide) (hts _ (vA_in _ _ (in_22 _ (zs16 (zs16 (zs0)))))) (fun _ h9 => h9) rfl hin rfl (by decide +kernel) rfl rfl (Nat.le_of_ble_eq_true rfl) dX6_init_16 (fun H locs hP hD hS => ?_)
  have hP : va_P (dC, dI) vwCl [(q, .inr (7, [.int b0, .int b1, .int b2, .int 0, .int 0]))] H := hP
  have hD : va_D A [(q, .inr (7, [.int b0, .int b1, .int b2, .int 0, .int 0]))] := hD
  refine lv_aload_n hx hb dX6_init_19 rfl (lv_at hl 0 rfl) ?_
  refine lv_iload hx hb dX6_init_20 (lv_at hl 4 rfl) ?_
  refine va_putF (D := (dC, dI)) (ci := 7) (v := .int b3) (ty := .int) (C := RX6) (T := TX6) (N := 5) hx hb hts (fun w h => vA_in _ w (in_X6 w h)) tyX6 tyX6_ok nmX6 hown hK hP hD hS 0 rfl rfl 3 (by decide) (hts _ (vA_in _ _ (in_22 _ (zs16 (zs16 (zs1 (zs0))))))) (fun _ h9 => h9) rfl hin rfl (by decide +kernel) rfl rfl (Nat.le_of_ble_eq_true rfl) dX6_init_22 (fun H locs hP hD hS => ?_)
  have hP : va_P (dC, dI) vwCl [(q, .inr (7, [.int b0, .int b1, .int b2, .int b3, .int 0]))] H := hP
  have hD : va_D A [(q, .inr (7, [.int b0, .int b1, .int b2, .int b3, .int 0]))] := hD
  refine lv_aload_n hx hb dX6_init_25 rfl (lv_at hl 0 rfl) ?_
  refine lv_iload hx hb dX6_init_26 (lv_at hl 5 rfl) ?_
  refine va_putF (D := (dC, dI)) (ci := 7) (v := .int b4) (ty := .int) (C := RX6) (T := TX6) (N := 5) hx hb hts (fun w h => vA_in _ w (in_X6 w h)) tyX6 tyX6_ok nmX6 hown hK hP hD hS 0 rfl rfl 4 (by decide) (hts _ (vA_in _ _ (in_22 _ (zs16 (zs16 (zs1 (zs1 (zs0)))))))) (fun _ h9 => h9) rfl hin rfl (by decide +kernel) rfl rfl (Nat.le_of_ble_eq_true rfl) dX6_init_28 (fun H locs hP hD hS => ?_)
  have hP : va_P (dC, dI) vwCl [(q, .inr (7, [.int b0, .int b1, .int b2, .int b3, .int b4]))] H := hP
  have hD : va_D A [(q, .inr (7, [.int b0, .int b1, .int b2, .int b3, .int b4]))] := hD
  have hP9 := hP.sub (ws' := [(q, .inr (7, [.int b0, .int b1, .int b2, .int b3, .int b4]))]) [0] rfl
  have hD9 := hD.sub (ws' := [(q, .inr (7, [.int b0, .int b1, .int b2, .int b3, .int b4]))]) [0] (by decide) rfl
  have hK9 := hK.sub (tys' := []) [] rfl
  exact W.vret hx hb hr (fun t ht hW => ⟨⟨(), rfl, trivial, (by rw [ht]; exact hP9), va_K.moved hW.alike hK9, hD9⟩, hS.F ht⟩) hS.2.2 dX6_init_31
def v_x_Word : List Cond := .code yX11_init cX11_init 4 none :: vA
set_option maxHeartbeats 4000000 in
set_option maxRecDepth 100000 in
theorem x_Word (l : Launch) (dC : Nat → ClassId) (dI : Nat → Nat → Nat) (q : Nat) (b0 : Int32) (b1 : Int32) (b2 : Int32) (sz : Nat)  : Met l yX11_init v_x_Word ({ frames := 1, cells := 0, slots := 0, locals := 40 }) (va_Pc [.ref q, .int b0, .int b1, .int b2] (fun U => U.heap.size = sz ∧ va_P (dC, dI) vwCl [(q, .inr (12, [.int 0, .int 0, .int 0, .int 0, .int 0, .int 0, .int 0, .int 0]))] U.heap ∧ va_K (dC, dI) vwCl [] U ∧ va_D (fun _ => True) [(q, .inr (12, [.int 0, .int 0, .int 0, .int 0, .int 0, .int 0, .int 0, .int 0]))])) (va_Qv (S := Unit) (fun _ => True) (fun u t => va_P (dC, dI) vwCl [(q, .inr (12, [.int b0, .int b1, .int b2, .int 0, .int 0, .int 0, .int 0, .int 0]))] t.heap ∧ va_K (dC, dI) vwCl [] t ∧ va_D (va_A [(q, .inr (12, [.int 0, .int 0, .int 0, .int 0, .int 0, .int 0, .int 0, .int 0]))] sz) [(q, .inr (12, [.int b0, .int b1, .int b2, .int 0, .int 0, .int 0, .int 0, .int 0]))]) (va_A [(q, .inr (12, [.int 0, .int 0, .int 0, .int 0, .int 0, .int 0, .int 0, .int 0]))] sz)) 0 0 (va_A [(q, .inr (12, [.int 0, .int 0, .int 0, .int 0, .int 0, .int 0, .int 0, .int 0]))] sz) := by
  refine Met.ofW (cc := cX11_init) (maxL := 4) (ret := none) (by decide) rfl ?_
  intro p e s m args below meth c s₁ B hml hv
  obtain ⟨rfl, hsz, hP, hK, hD0⟩ := hv
  have hx := B.exec
  have hb := B.bytes
  have hr := B.returns
  have hts := atoms_spec (ws := v_x_Word) B.pre
  have hown : s.vm.findClass RX11 = some m.cls := findClass_of_methodNamed B.named
  have hlocks := B.notSynchronized
  have hin : meth.name = "<init>" := (name_of_methodNamed B.named B.method).1
  subst hsz
  have hD := hD0.self (sz := s.heap.size)
  generalize hAe : va_A [(q, .inr (12, [.int 0, .int 0, .int 0, .int 0, .int 0, .int 0, .int 0, .int 0]))] s.heap.size = A at hD ⊢
  have hA : ∀ q : Nat, s.heap.size ≤ q → A q := fun q h => by rw [← hAe]; exact Or.inr h
  have hS : va_S A s.heap s.heap [] := va_S.rf
  have hP : va_P (dC, dI) vwCl [(q, .inr (12, [.int 0, .int 0, .int 0, .int 0, .int 0, .int 0, .int 0, .int 0]))] s.heap := hP
  have hl := lv_entry ([.ref q, .int b0, .int b1, .int b2]) (n := 4) (Nat.le_of_ble_eq_true rfl)
  rw [lg_entry_eq]
  generalize (lg_sl ([.ref q, .int b0, .int b1, .int b2]) ++ List.replicate (4 - (lg_sl ([.ref q, .int b0, .int b1, .int b2])).length) Slot.unset).toArray = ls at hl ⊢
  have hl : lv_has ls 4 [(0, .ref q), (1, .int b0), (2, .int b1), (3, .int b2)] := hl
  refine lv_aload_n hx hb dX11_init_0 rfl (lv_at hl 0 rfl) ?_
  refine W.objInit hx hb hown (hts _ (vA_in _ _ (in_10 _ (zs4 (zs1 (zs0)))))) (hts _ (vA_in _ _ (in_4 _ (zs16 (zs1 (zs0)))))) (hts _ (vA_in _ _ (in_4 _ (zs16 (zs1 (zs1 (zs0))))))) rfl (by rw [hml]; exact hl.1) rfl dX11_init_1 (Nat.le_of_ble_eq_true rfl) (Nat.le_of_ble_eq_true rfl) ?_
  refine W.eq (g2 := F0 m 4 ls []) rfl ?_
  refine lv_aload_n hx hb dX11_init_4 rfl (lv_at hl 0 rfl) ?_
  refine lv_iload_n hx hb dX11_init_5 rfl (lv_at hl 1 rfl) ?_
  refine va_putF (D := (dC, dI)) (ci := 12) (v := .int b0) (ty := .int) (C := RX11) (T := TX11) (N := 8) hx hb hts (fun w h => vA_in _ w (in_X11 w h)) tyX11 tyX11_ok nmX11 hown hK hP hD hS 0 rfl rfl 0 (by decide) (hts _ (vA_in _ _ (in_10 _ (zs4 (zs1 (zs1 (zs0))))))) (fun _ h9 => h9) rfl hin rfl (by decide +kernel) rfl rfl (Nat.le_of_ble_eq_true rfl) dX11_init_6 (fun H locs hP hD hS => ?_)
  have hP : va_P (dC, dI) vwCl [(q, .inr (12, [.int b0, .int 0, .int 0, .int 0, .int 0, .int 0, .int 0, .int 0]))] H := hP
  have hD : va_D A [(q, .inr (12, [.int b0, .int 0, .int 0, .int 0, .int 0, .int 0, .int 0, .int 0]))] := hD
  refine lv_aload_n hx hb dX11_init_9 rfl (lv_at hl 0 rfl) ?_
  refine lv_iload_n hx hb dX11_init_10 rfl (lv_at hl 2 rfl) ?_
  refine va_putF (D := (dC, dI)) (ci := 12) (v := .int b1) (ty := .int) (C := RX11) (T := TX11) (N := 8) hx hb hts (fun w h => vA_in _ w (in_X11 w h)) tyX11 tyX11_ok nmX11 hown hK hP hD hS 0 rfl rfl 1 (by decide) (hts _ (vA_in _ _ (in_10 _ (zs4 (zs1 (zs1 (zs1 (zs0)))))))) (fun _ h9 => h9) rfl hin rfl (by decide +kernel) rfl rfl (Nat.le_of_ble_eq_true rfl) dX11_init_11 (fun H locs hP hD hS => ?_)
  have hP : va_P (dC, dI) vwCl [(q, .inr (12, [.int b0, .int b1, .int 0, .int 0, .int 0, .int 0, .int 0, .int 0]))] H := hP
  have hD : va_D A [(q, .inr (12, [.int b0, .int b1, .int 0, .int 0, .int 0, .int 0, .int 0, .int 0]))] := hD
  refine lv_aload_n hx hb dX11_init_14 rfl (lv_at hl 0 rfl) ?_
  refine lv_iload_n hx hb dX11_init_15 rfl (lv_at hl 3 rfl) ?_
  refine va_putF (D := (dC, dI)) (ci := 12) (v := .int b2) (ty := .int) (C := RX11) (T := TX11) (N := 8) hx hb hts (fun w h => vA_in _ w (in_X11 w h)) tyX11 tyX11_ok nmX11 hown hK hP hD hS 0 rfl rfl 2 (by decide) (hts _ (vA_in _ _ (in_10 _ (zs4 (zs4 (zs0)))))) (fun _ h9 => h9) rfl hin rfl (by decide +kernel) rfl rfl (Nat.le_of_ble_eq_true rfl) dX11_init_16 (fun H locs hP hD hS => ?_)
  have hP : va_P (dC, dI) vwCl [(q, .inr (12, [.int b0, .int b1, .int b2, .int 0, .int 0, .int 0, .int 0, .int 0]))] H := hP
  have hD : va_D A [(q, .inr (12, [.int b0, .int b1, .int b2, .int 0, .int 0, .int 0, .int 0, .int 0]))] := hD
  have hP9 := hP.sub (ws' := [(q, .inr (12, [.int b0, .int b1, .int b2, .int 0, .int 0, .int 0, .int 0, .int 0]))]) [0] rfl
  have hD9 := hD.sub (ws' := [(q, .inr (12, [.int b0, .int b1, .int b2, .int 0, .int 0, .int 0, .int 0, .int 0]))]) [0] (by decide) rfl
  have hK9 := hK.sub (tys' := []) [] rfl
  exact W.vret hx hb hr (fun t ht hW => ⟨⟨(), rfl, trivial, (by rw [ht]; exact hP9), va_K.moved hW.alike hK9, hD9⟩, hS.F ht⟩) hS.2.2 dX11_init_19
def v_x_Protest : List Cond := .code yX4_init cX4_init 6 none :: vA
set_option maxHeartbeats 4000000 in
set_option maxRecDepth 100000 in
theorem x_Protest (l : Launch) (dC : Nat → ClassId) (dI : Nat → Nat → Nat) (q : Nat) (b0 : Int32) (b1 : Int32) (b2 : Int32) (b3 : Int32) (b4 : Int32) (sz : Nat)  : Met l yX4_init v_x_Protest ({ frames := 1, cells := 0, slots := 0, locals := 40 }) (va_Pc [.ref q, .int b0, .int b1, .int b2, .int b3, .int b4] (fun U => U.heap.size = sz ∧ va_P (dC, dI) vwCl [(q, .inr (5, [.int 0, .int 0, .int 0, .int 0, .int 0, .int 0, .int 0, .int 0, .int 0, .int 0]))] U.heap ∧ va_K (dC, dI) vwCl [] U ∧ va_D (fun _ => True) [(q, .inr (5, [.int 0, .int 0, .int 0, .int 0, .int 0, .int 0, .int 0, .int 0, .int 0, .int 0]))])) (va_Qv (S := Unit) (fun _ => True) (fun u t => va_P (dC, dI) vwCl [(q, .inr (5, [.int b0, .int b1, .int b2, .int b3, .int b4, .int (-1), .int 0, .int (-1), .int (-1), .int 0]))] t.heap ∧ va_K (dC, dI) vwCl [] t ∧ va_D (va_A [(q, .inr (5, [.int 0, .int 0, .int 0, .int 0, .int 0, .int 0, .int 0, .int 0, .int 0, .int 0]))] sz) [(q, .inr (5, [.int b0, .int b1, .int b2, .int b3, .int b4, .int (-1), .int 0, .int (-1), .int (-1), .int 0]))]) (va_A [(q, .inr (5, [.int 0, .int 0, .int 0, .int 0, .int 0, .int 0, .int 0, .int 0, .int 0, .int 0]))] sz)) 0 0 (va_A [(q, .inr (5, [.int 0, .int 0, .int 0, .int 0, .int 0, .int 0, .int 0, .int 0, .int 0, .int 0]))] sz) := by
  refine Met.ofW (cc := cX4_init) (maxL := 6) (ret := none) (by decide) rfl ?_
  intro p e s m args below meth c s₁ B hml hv
  obtain ⟨rfl, hsz, hP, hK, hD0⟩ := hv
  have hx := B.exec
  have hb := B.bytes
  have hr := B.returns
  have hts := atoms_spec (ws := v_x_Protest) B.pre
  have hown : s.vm.findClass RX4 = some m.cls := findClass_of_methodNamed B.named
  have hlocks := B.notSynchronized
  have hin : meth.name = "<init>" := (name_of_methodNamed B.named B.method).1
  subst hsz
  have hD := hD0.self (sz := s.heap.size)
  generalize hAe : va_A [(q, .inr (5, [.int 0, .int 0, .int 0, .int 0, .int 0, .int 0, .int 0, .int 0, .int 0, .int 0]))] s.heap.size = A at hD ⊢
  have hA : ∀ q : Nat, s.heap.size ≤ q → A q := fun q h => by rw [← hAe]; exact Or.inr h
  have hS : va_S A s.heap s.heap [] := va_S.rf
  have hP : va_P (dC, dI) vwCl [(q, .inr (5, [.int 0, .int 0, .int 0, .int 0, .int 0, .int 0, .int 0, .int 0, .int 0, .int 0]))] s.heap := hP
  have hl := lv_entry ([.ref q, .int b0, .int b1, .int b2, .int b3, .int b4]) (n := 6) (Nat.le_of_ble_eq_true rfl)
  rw [lg_entry_eq]
  generalize (lg_sl ([.ref q, .int b0, .int b1, .int b2, .int b3, .int b4]) ++ List.replicate (6 - (lg_sl ([.ref q, .int b0, .int b1, .int b2, .int b3, .int b4])).length) Slot.unset).toArray = ls at hl ⊢
  have hl : lv_has ls 6 [(0, .ref q), (1, .int b0), (2, .int b1), (3, .int b2), (4, .int b3), (5, .int b4)] := hl
  refine lv_aload_n hx hb dX4_init_0 rfl (lv_at hl 0 rfl) ?_
  refine W.objInit hx hb hown (hts _ (vA_in _ _ (in_21 _ (zs1 (zs0))))) (hts _ (vA_in _ _ (in_4 _ (zs16 (zs1 (zs0)))))) (hts _ (vA_in _ _ (in_4 _ (zs16 (zs1 (zs1 (zs0))))))) rfl (by rw [hml]; exact hl.1) rfl dX4_init_1 (Nat.le_of_ble_eq_true rfl) (Nat.le_of_ble_eq_true rfl) ?_
  refine W.eq (g2 := F0 m 4 ls []) rfl ?_
  refine lv_aload_n hx hb dX4_init_4 rfl (lv_at hl 0 rfl) ?_
  refine lv_iconst (v := -1) hx hb dX4_init_5 (by decide) ?_
  refine va_put (D := (dC, dI)) (ci := 5) (v := .int (-1)) (ty := .int) (C := RX4) (T := TX4) (N := 10) hx hb hts (fun w h => vA_in _ w (in_X4 w h)) tyX4 tyX4_ok nmX4 hown hK hP hD hS 0 rfl rfl 5 (by decide) (hts _ (vA_in _ _ (in_5 _ (zs16 (zs4 (zs1 (zs0))))))) (fun _ h9 => h9) rfl (by decide +kernel) rfl rfl (Nat.le_of_ble_eq_true rfl) dX4_init_6 (fun H locs hP hD hS => ?_)
  have hP : va_P (dC, dI) vwCl [(q, .inr (5, [.int 0, .int 0, .int 0, .int 0, .int 0, .int (-1), .int 0, .int 0, .int 0, .int 0]))] H := hP
  have hD : va_D A [(q, .inr (5, [.int 0, .int 0, .int 0, .int 0, .int 0, .int (-1), .int 0, .int 0, .int 0, .int 0]))] := hD
  refine lv_aload_n hx hb dX4_init_9 rfl (lv_at hl 0 rfl) ?_
  refine lv_iconst (v := -1) hx hb dX4_init_10 (by decide) ?_
  refine va_put (D := (dC, dI)) (ci := 5) (v := .int (-1)) (ty := .int) (C := RX4) (T := TX4) (N := 10) hx hb hts (fun w h => vA_in _ w (in_X4 w h)) tyX4 tyX4_ok nmX4 hown hK hP hD hS 0 rfl rfl 7 (by decide) (hts _ (vA_in _ _ (in_5 _ (zs16 (zs4 (zs0)))))) (fun _ h9 => h9) rfl (by decide +kernel) rfl rfl (Nat.le_of_ble_eq_true rfl) dX4_init_11 (fun H locs hP hD hS => ?_)
  have hP : va_P (dC, dI) vwCl [(q, .inr (5, [.int 0, .int 0, .int 0, .int 0, .int 0, .int (-1), .int 0, .int (-1), .int 0, .int 0]))] H := hP
  have hD : va_D A [(q, .inr (5, [.int 0, .int 0, .int 0, .int 0, .int 0, .int (-1), .int 0, .int (-1), .int 0, .int 0]))] := hD
  refine lv_aload_n hx hb dX4_init_14 rfl (lv_at hl 0 rfl) ?_
  refine lv_iconst (v := -1) hx hb dX4_init_15 (by decide) ?_
  refine va_put (D := (dC, dI)) (ci := 5) (v := .int (-1)) (ty := .int) (C := RX4) (T := TX4) (N := 10) hx hb hts (fun w h => vA_in _ w (in_X4 w h)) tyX4 tyX4_ok nmX4 hown hK hP hD hS 0 rfl rfl 8 (by decide) (hts _ (vA_in _ _ (in_5 _ (zs16 (zs1 (zs1 (zs0))))))) (fun _ h9 => h9) rfl (by decide +kernel) rfl rfl (Nat.le_of_ble_eq_true rfl) dX4_init_16 (fun H locs hP hD hS => ?_)
  have hP : va_P (dC, dI) vwCl [(q, .inr (5, [.int 0, .int 0, .int 0, .int 0, .int 0, .int (-1), .int 0, .int (-1), .int (-1), .int 0]))] H := hP
  have hD : va_D A [(q, .inr (5, [.int 0, .int 0, .int 0, .int 0, .int 0, .int (-1), .int 0, .int (-1), .int (-1), .int 0]))] := hD
  refine lv_aload_n hx hb dX4_init_19 rfl (lv_at hl 0 rfl) ?_
  refine lv_iload_n hx hb dX4_init_20 rfl (lv_at hl 1 rfl) ?_
  refine va_putF (D := (dC, dI)) (ci := 5) (v := .int b0) (ty := .int) (C := RX4) (T := TX4) (N := 10) hx hb hts (fun w h => vA_in _ w (in_X4 w h)) tyX4 tyX4_ok nmX4 hown hK hP hD hS 0 rfl rfl 0 (by decide) (hts _ (vA_in _ _ (in_21 _ (zs1 (zs1 (zs0)))))) (fun _ h9 => h9) rfl hin rfl (by decide +kernel) rfl rfl (Nat.le_of_ble_eq_true rfl) dX4_init_21 (fun H locs hP hD hS => ?_)
  have hP : va_P (dC, dI) vwCl [(q, .inr (5, [.int b0, .int 0, .int 0, .int 0, .int 0, .int (-1), .int 0, .int (-1), .int (-1), .int 0]))] H := hP
  have hD : va_D A [(q, .inr (5, [.int b0, .int 0, .int 0, .int 0, .int 0, .int (-1), .int 0, .int (-1), .int (-1), .int 0]))] := hD
  refine lv_aload_n hx hb dX4_init_24 rfl (lv_at hl 0 rfl) ?_
  refine lv_iload_n hx hb dX4_init_25 rfl (lv_at hl 2 rfl) ?_
  refine va_putF (D := (dC, dI)) (ci := 5) (v := .int b1) (ty := .int) (C := RX4) (T := TX4) (N := 10) hx hb hts (fun w h => vA_in _ w (in_X4 w h)) tyX4 tyX4_ok nmX4 hown hK hP hD hS 0 rfl rfl 1 (by decide) (hts _ (vA_in _ _ (in_21 _ (zs1 (zs1 (zs1 (zs0))))))) (fun _ h9 => h9) rfl hin rfl (by decide +kernel) rfl rfl (Nat.le_of_ble_eq_true rfl) dX4_init_26 (fun H locs hP hD hS => ?_)
  have hP : va_P (dC, dI) vwCl [(q, .inr (5, [.int b0, .int b1, .int 0, .int 0, .int 0, .int (-1), .int 0, .int (-1), .int (-1), .int 0]))] H := hP
  have hD : va_D A [(q, .inr (5, [.int b0, .int b1, .int 0, .int 0, .int 0, .int (-1), .int 0, .int (-1), .int (-1), .int 0]))] := hD
  refine lv_aload_n hx hb dX4_init_29 rfl (lv_at hl 0 rfl) ?_
  refine lv_iload_n hx hb dX4_init_30 rfl (lv_at hl 3 rfl) ?_
  refine va_putF (D := (dC, dI)) (ci := 5) (v := .int b2) (ty := .int) (C := RX4) (T := TX4) (N := 10) hx hb hts (fun w h => vA_in _ w (in_X4 w h)) tyX4 tyX4_ok nmX4 hown hK hP hD hS 0 rfl rfl 2 (by decide) (hts _ (vA_in _ _ (in_21 _ (zs4 (zs0))))) (fun _ h9 => h9) rfl hin rfl (by decide +kernel) rfl rfl (Nat.le_of_ble_eq_true rfl) dX4_init_31 (fun H locs hP hD hS => ?_)
  have hP : va_P (dC, dI) vwCl [(q, .inr (5, [.int b0, .int b1, .int b2, .int 0, .int 0, .int (-1), .int 0, .int (-1), .int (-1), .int 0]))] H := hP
  have hD : va_D A [(q, .inr (5, [.int b0, .int b1, .int b2, .int 0, .int 0, .int (-1), .int 0, .int (-1), .int (-1), .int 0]))] := hD
  refine lv_aload_n hx hb dX4_init_34 rfl (lv_at hl 0 rfl) ?_
  refine lv_iload hx hb dX4_init_35 (lv_at hl 4 rfl) ?_
  refine va_putF (D := (dC, dI)) (ci := 5) (v := .int b3) (ty := .int) (C := RX4) (T := TX4) (N := 10) hx hb hts (fun w h => vA_in _ w (in_X4 w h)) tyX4 tyX4_ok nmX4 hown hK hP hD hS 0 rfl rfl 3 (by decide) (hts _ (vA_in _ _ (in_21 _ (zs4 (zs1 (zs0)))))) (fun _ h9 => h9) rfl hin rfl (by decide +kernel) rfl rfl (Nat.le_of_ble_eq_true rfl) dX4_init_37 (fun H locs hP hD hS => ?_)
  have hP : va_P (dC, dI) vwCl [(q, .inr (5, [.int b0, .int b1, .int b2, .int b3, .int 0, .int (-1), .int 0, .int (-1), .int (-1), .int 0]))] H := hP
  have hD : va_D A [(q, .inr (5, [.int b0, .int b1, .int b2, .int b3, .int 0, .int (-1), .int 0, .int (-1), .int (-1), .int 0]))] := hD
  refine lv_aload_n hx hb dX4_init_40 rfl (lv_at hl 0 rfl) ?_
  refine lv_iload hx hb dX4_init_41 (lv_at hl 5 rfl) ?_
  refine va_putF (D := (dC, dI)) (ci := 5) (v := .int b4) (ty := .int) (C := RX4) (T := TX4) (N := 10) hx hb hts (fun w h => vA_in _ w (in_X4 w h)) tyX4 tyX4_ok nmX4 hown hK hP hD hS 0 rfl rfl 4 (by decide) (hts _ (vA_in _ _ (in_21 _ (zs4 (zs1 (zs1 (zs0))))))) (fun _ h9 => h9) rfl hin rfl (by decide +kernel) rfl rfl (Nat.le_of_ble_eq_true rfl) dX4_init_43 (fun H locs hP hD hS => ?_)
  have hP : va_P (dC, dI) vwCl [(q, .inr (5, [.int b0, .int b1, .int b2, .int b3, .int b4, .int (-1), .int 0, .int (-1), .int (-1), .int 0]))] H := hP
  have hD : va_D A [(q, .inr (5, [.int b0, .int b1, .int b2, .int b3, .int b4, .int (-1), .int 0, .int (-1), .int (-1), .int 0]))] := hD
  have hP9 := hP.sub (ws' := [(q, .inr (5, [.int b0, .int b1, .int b2, .int b3, .int b4, .int (-1), .int 0, .int (-1), .int (-1), .int 0]))]) [0] rfl
  have hD9 := hD.sub (ws' := [(q, .inr (5, [.int b0, .int b1, .int b2, .int b3, .int b4, .int (-1), .int 0, .int (-1), .int (-1), .int 0]))]) [0] (by decide) rfl
  have hK9 := hK.sub (tys' := []) [] rfl
  exact W.vret hx hb hr (fun t ht hW => ⟨⟨(), rfl, trivial, (by rw [ht]; exact hP9), va_K.moved hW.alike hK9, hD9⟩, hS.F ht⟩) hS.2.2 dX4_init_46
def v_x_say : List Cond := .code yX11_say cX11_say 6 none :: vA
set_option maxHeartbeats 4000000 in
set_option maxRecDepth 100000 in
theorem x_say (l : Launch) (dC : Nat → ClassId) (dI : Nat → Nat → Nat) (q : Nat) (b0 : Int32) (b1 : Int32) (b2 : Int32) (d0 : Int32) (d1 : Int32) (d2 : Int32) (d3 : Int32) (d4 : Int32) (sz : Nat)  : Met l yX11_say v_x_say ({ frames := 0, cells := 0, slots := 0, locals := 0 }) (va_Pc [.ref q, .int d0, .int d1, .int d2, .int d3, .int d4] (fun U => U.heap.size = sz ∧ va_P (dC, dI) vwCl [(q, .inr (12, [.int b0, .int b1, .int b2, .int 0, .int 0, .int 0, .int 0, .int 0]))] U.heap ∧ va_K (dC, dI) vwCl [] U ∧ va_D (fun _ => True) [(q, .inr (12, [.int b0, .int b1, .int b2, .int 0, .int 0, .int 0, .int 0, .int 0]))])) (va_Qv (S := Unit) (fun _ => True) (fun u t => va_P (dC, dI) vwCl [(q, .inr (12, [.int b0, .int b1, .int b2, .int d0, .int d1, .int d2, .int d3, .int d4]))] t.heap ∧ va_K (dC, dI) vwCl [] t ∧ va_D (va_A [(q, .inr (12, [.int b0, .int b1, .int b2, .int 0, .int 0, .int 0, .int 0, .int 0]))] sz) [(q, .inr (12, [.int b0, .int b1, .int b2, .int d0, .int d1, .int d2, .int d3, .int d4]))]) (va_A [(q, .inr (12, [.int b0, .int b1, .int b2, .int 0, .int 0, .int 0, .int 0, .int 0]))] sz)) 0 0 (va_A [(q, .inr (12, [.int b0, .int b1, .int b2, .int 0, .int 0, .int 0, .int 0, .int 0]))] sz) := by
  refine Met.ofW (cc := cX11_say) (maxL := 6) (ret := none) (by decide) rfl ?_
  intro p e s m args below meth c s₁ B hml hv
  obtain ⟨rfl, hsz, hP, hK, hD0⟩ := hv
  have hx := B.exec
  have hb := B.bytes
  have hr := B.returns
  have hts := atoms_spec (ws := v_x_say) B.pre
  have hown : s.vm.findClass RX11 = some m.cls := findClass_of_methodNamed B.named
  have hlocks := B.notSynchronized
  subst hsz
  have hD := hD0.self (sz := s.heap.size)
  generalize hAe : va_A [(q, .inr (12, [.int b0, .int b1, .int b2, .int 0, .int 0, .int 0, .int 0, .int 0]))] s.heap.size = A at hD ⊢
  have hA : ∀ q : Nat, s.heap.size ≤ q → A q := fun q h => by rw [← hAe]; exact Or.inr h
  have hS : va_S A s.heap s.heap [] := va_S.rf
  have hP : va_P (dC, dI) vwCl [(q, .inr (12, [.int b0, .int b1, .int b2, .int 0, .int 0, .int 0, .int 0, .int 0]))] s.heap := hP
  have hl := lv_entry ([.ref q, .int d0, .int d1, .int d2, .int d3, .int d4]) (n := 6) (Nat.le_of_ble_eq_true rfl)
  rw [lg_entry_eq]
  generalize (lg_sl ([.ref q, .int d0, .int d1, .int d2, .int d3, .int d4]) ++ List.replicate (6 - (lg_sl ([.ref q, .int d0, .int d1, .int d2, .int d3, .int d4])).length) Slot.unset).toArray = ls at hl ⊢
  have hl : lv_has ls 6 [(0, .ref q), (1, .int d0), (2, .int d1), (3, .int d2), (4, .int d3), (5, .int d4)] := hl
  refine lv_aload_n hx hb dX11_say_0 rfl (lv_at hl 0 rfl) ?_
  refine lv_iload_n hx hb dX11_say_1 rfl (lv_at hl 1 rfl) ?_
  refine va_put (D := (dC, dI)) (ci := 12) (v := .int d0) (ty := .int) (C := RX11) (T := TX11) (N := 8) hx hb hts (fun w h => vA_in _ w (in_X11 w h)) tyX11 tyX11_ok nmX11 hown hK hP hD hS 0 rfl rfl 3 (by decide) (hts _ (vA_in _ _ (in_10 _ (zs4 (zs4 (zs1 (zs1 (zs0)))))))) (fun _ h9 => h9) rfl (by decide +kernel) rfl rfl (Nat.le_of_ble_eq_true rfl) dX11_say_2 (fun H locs hP hD hS => ?_)
  have hP : va_P (dC, dI) vwCl [(q, .inr (12, [.int b0, .int b1, .int b2, .int d0, .int 0, .int 0, .int 0, .int 0]))] H := hP
  have hD : va_D A [(q, .inr (12, [.int b0, .int b1, .int b2, .int d0, .int 0, .int 0, .int 0, .int 0]))] := hD
  refine lv_aload_n hx hb dX11_say_5 rfl (lv_at hl 0 rfl) ?_
  refine lv_iload_n hx hb dX11_say_6 rfl (lv_at hl 2 rfl) ?_
  refine va_put (D := (dC, dI)) (ci := 12) (v := .int d1) (ty := .int) (C := RX11) (T := TX11) (N := 8) hx hb hts (fun w h => vA_in _ w (in_X11 w h)) tyX11 tyX11_ok nmX11 hown hK hP hD hS 0 rfl rfl 4 (by decide) (hts _ (vA_in _ _ (in_10 _ (zs4 (zs4 (zs1 (zs1 (zs1 (zs0))))))))) (fun _ h9 => h9) rfl (by decide +kernel) rfl rfl (Nat.le_of_ble_eq_true rfl) dX11_say_7 (fun H locs hP hD hS => ?_)
  have hP : va_P (dC, dI) vwCl [(q, .inr (12, [.int b0, .int b1, .int b2, .int d0, .int d1, .int 0, .int 0, .int 0]))] H := hP
  have hD : va_D A [(q, .inr (12, [.int b0, .int b1, .int b2, .int d0, .int d1, .int 0, .int 0, .int 0]))] := hD
  refine lv_aload_n hx hb dX11_say_10 rfl (lv_at hl 0 rfl) ?_
  refine lv_iload_n hx hb dX11_say_11 rfl (lv_at hl 3 rfl) ?_
  refine va_put (D := (dC, dI)) (ci := 12) (v := .int d2) (ty := .int) (C := RX11) (T := TX11) (N := 8) hx hb hts (fun w h => vA_in _ w (in_X11 w h)) tyX11 tyX11_ok nmX11 hown hK hP hD hS 0 rfl rfl 5 (by decide) (hts _ (vA_in _ _ (in_10 _ (zs4 (zs4 (zs4 (zs0))))))) (fun _ h9 => h9) rfl (by decide +kernel) rfl rfl (Nat.le_of_ble_eq_true rfl) dX11_say_12 (fun H locs hP hD hS => ?_)
  have hP : va_P (dC, dI) vwCl [(q, .inr (12, [.int b0, .int b1, .int b2, .int d0, .int d1, .int d2, .int 0, .int 0]))] H := hP
  have hD : va_D A [(q, .inr (12, [.int b0, .int b1, .int b2, .int d0, .int d1, .int d2, .int 0, .int 0]))] := hD
  refine lv_aload_n hx hb dX11_say_15 rfl (lv_at hl 0 rfl) ?_
  refine lv_iload hx hb dX11_say_16 (lv_at hl 4 rfl) ?_
  refine va_put (D := (dC, dI)) (ci := 12) (v := .int d3) (ty := .int) (C := RX11) (T := TX11) (N := 8) hx hb hts (fun w h => vA_in _ w (in_X11 w h)) tyX11 tyX11_ok nmX11 hown hK hP hD hS 0 rfl rfl 6 (by decide) (hts _ (vA_in _ _ (in_10 _ (zs4 (zs4 (zs4 (zs1 (zs0)))))))) (fun _ h9 => h9) rfl (by decide +kernel) rfl rfl (Nat.le_of_ble_eq_true rfl) dX11_say_18 (fun H locs hP hD hS => ?_)
  have hP : va_P (dC, dI) vwCl [(q, .inr (12, [.int b0, .int b1, .int b2, .int d0, .int d1, .int d2, .int d3, .int 0]))] H := hP
  have hD : va_D A [(q, .inr (12, [.int b0, .int b1, .int b2, .int d0, .int d1, .int d2, .int d3, .int 0]))] := hD
  refine lv_aload_n hx hb dX11_say_21 rfl (lv_at hl 0 rfl) ?_
  refine lv_iload hx hb dX11_say_22 (lv_at hl 5 rfl) ?_
  refine va_put (D := (dC, dI)) (ci := 12) (v := .int d4) (ty := .int) (C := RX11) (T := TX11) (N := 8) hx hb hts (fun w h => vA_in _ w (in_X11 w h)) tyX11 tyX11_ok nmX11 hown hK hP hD hS 0 rfl rfl 7 (by decide) (hts _ (vA_in _ _ (in_10 _ (zs4 (zs4 (zs4 (zs1 (zs1 (zs0))))))))) (fun _ h9 => h9) rfl (by decide +kernel) rfl rfl (Nat.le_of_ble_eq_true rfl) dX11_say_24 (fun H locs hP hD hS => ?_)
  have hP : va_P (dC, dI) vwCl [(q, .inr (12, [.int b0, .int b1, .int b2, .int d0, .int d1, .int d2, .int d3, .int d4]))] H := hP
  have hD : va_D A [(q, .inr (12, [.int b0, .int b1, .int b2, .int d0, .int d1, .int d2, .int d3, .int d4]))] := hD
  have hP9 := hP.sub (ws' := [(q, .inr (12, [.int b0, .int b1, .int b2, .int d0, .int d1, .int d2, .int d3, .int d4]))]) [0] rfl
  have hD9 := hD.sub (ws' := [(q, .inr (12, [.int b0, .int b1, .int b2, .int d0, .int d1, .int d2, .int d3, .int d4]))]) [0] (by decide) rfl
  have hK9 := hK.sub (tys' := []) [] rfl
  exact W.vret hx hb hr (fun t ht hW => ⟨⟨(), rfl, trivial, (by rw [ht]; exact hP9), va_K.moved hW.alike hK9, hD9⟩, hS.F ht⟩) hS.2.2 dX11_say_27
end

