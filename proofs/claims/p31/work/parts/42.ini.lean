def tyX3 : Nat → FieldType := fun k => match k with
  | 0 => .object "UnlikeBoats$Book"
  | 1 => .object "UnlikeBoats$Sheet"
  | 2 => .array .boolean
  | 3 => .array .int
  | 4 => .array .int
  | 5 => .array .int
  | 6 => .array .int
  | 7 => .array .int
  | 8 => .array .int
  | 9 => .array .int
  | 10 => .array .int
  | 11 => .array .int
  | 12 => .array .int
  | 13 => .array .int
  | 14 => .array .int
  | 15 => .int
  | 16 => .int
  | _ => .array .int
theorem nmX3 : ∀ a, a < 18 → ∀ b, b < 18 → a ≠ b → (TX3 a).2.1 ≠ (TX3 b).2.1 := by decide +kernel
theorem tyX3_ok : ∀ k, k < 18 → parseFieldDescriptor (TX3 k).2.2.1 = some (tyX3 k) := by decide +kernel
def tyX8 : Nat → FieldType := fun k => match k with
  | 0 => .object "UnlikeBoats$Book"
  | 1 => .object "UnlikeBoats$Sheet"
  | 2 => .int
  | 3 => .array .int
  | 4 => .array .int
  | 5 => .array .boolean
  | 6 => .array .boolean
  | 7 => .array .int
  | 8 => .array .int
  | _ => .array .int
theorem nmX8 : ∀ a, a < 10 → ∀ b, b < 10 → a ≠ b → (TX8 a).2.1 ≠ (TX8 b).2.1 := by decide +kernel
theorem tyX8_ok : ∀ k, k < 10 → parseFieldDescriptor (TX8 k).2.2.1 = some (tyX8 k) := by decide +kernel
def tyX9 : Nat → FieldType := fun k => match k with
  | 0 => .object "UnlikeBoats$Book"
  | 1 => .array .int
  | 2 => .array .int
  | 3 => .array .int
  | 4 => .array .int
  | 5 => .array .int
  | 6 => .int
  | 7 => .int
  | _ => .int
theorem nmX9 : ∀ a, a < 9 → ∀ b, b < 9 → a ≠ b → (TX9 a).2.1 ≠ (TX9 b).2.1 := by decide +kernel
theorem tyX9_ok : ∀ k, k < 9 → parseFieldDescriptor (TX9 k).2.2.1 = some (tyX9 k) := by decide +kernel
def tyX10 : Nat → FieldType := fun k => match k with
  | 0 => .array .int
  | 1 => .int
  | 2 => .int
  | 3 => .int
  | 4 => .array .int
  | 5 => .int
  | 6 => .array .int
  | 7 => .array .int
  | 8 => .array .int
  | _ => .int
theorem nmX10 : ∀ a, a < 10 → ∀ b, b < 10 → a ≠ b → (TX10 a).2.1 ≠ (TX10 b).2.1 := by decide +kernel
theorem tyX10_ok : ∀ k, k < 10 → parseFieldDescriptor (TX10 k).2.2.1 = some (tyX10 k) := by decide +kernel
set_option maxRecDepth 100000 in
theorem zh_dX0_init_0_0 : zc cX0_init 0 [42, 183, 0, 3, 42, 187, 0, 9, 89, 183, 0, 11, 181, 0, 12, 42] = true := by decide +kernel
set_option maxRecDepth 100000 in
theorem zh_dX0_init_16_16 : zc cX0_init 16 [187, 0, 9, 89, 183, 0, 11, 181, 0, 18, 42, 187, 0, 9, 89, 183] = true := by decide +kernel
set_option maxRecDepth 100000 in
theorem zh_dX0_init_31_32 : zc cX0_init 32 [0, 11, 181, 0, 21, 42, 187, 0, 9, 89, 183, 0, 11, 181, 0, 24] = true := by decide +kernel
set_option maxRecDepth 100000 in
theorem zh_dX0_init_48_48 : zc cX0_init 48 [42, 187, 0, 9, 89, 183, 0, 11, 181, 0, 27, 42, 187, 0, 9, 89] = true := by decide +kernel
set_option maxRecDepth 100000 in
theorem zh_dX0_init_64_64 : zc cX0_init 64 [183, 0, 11, 181, 0, 30, 42, 18, 33, 182, 0, 35, 188, 10, 181, 0] = true := by decide +kernel
set_option maxRecDepth 100000 in
theorem zh_dX0_init_78_80 : zc cX0_init 80 [41, 42, 17, 0, 200, 188, 10, 181, 0, 45, 177] = true := by decide +kernel
set_option maxRecDepth 100000 in
theorem zh_dX2_init_0_0 : zc cX2_init 0 [42, 183, 0, 3, 42, 5, 188, 10, 181, 0, 9, 42, 5, 188, 10, 181] = true := by decide +kernel
set_option maxRecDepth 100000 in
theorem zh_dX2_init_15_16 : zc cX2_init 16 [0, 15, 42, 5, 188, 10, 181, 0, 18, 42, 5, 188, 10, 181, 0, 21] = true := by decide +kernel
set_option maxRecDepth 100000 in
theorem zh_dX2_init_32_32 : zc cX2_init 32 [42, 5, 188, 10, 181, 0, 24, 42, 43, 181, 0, 27, 177] = true := by decide +kernel
set_option maxRecDepth 100000 in
theorem zh_dX3_init_0_0 : zc cX3_init 0 [42, 183, 0, 5, 42, 17, 1, 64, 188, 4, 181, 0, 11, 42, 17, 1] = true := by decide +kernel
set_option maxRecDepth 100000 in
theorem zh_dX3_init_14_16 : zc cX3_init 16 [64, 188, 10, 181, 0, 15, 42, 17, 1, 64, 188, 10, 181, 0, 19, 42] = true := by decide +kernel
set_option maxRecDepth 100000 in
theorem zh_dX3_init_32_32 : zc cX3_init 32 [17, 1, 64, 188, 10, 181, 0, 22, 42, 16, 20, 188, 10, 181, 0, 25] = true := by decide +kernel
set_option maxRecDepth 100000 in
theorem zh_dX3_init_48_48 : zc cX3_init 48 [42, 16, 20, 188, 10, 181, 0, 28, 42, 16, 20, 188, 10, 181, 0, 31] = true := by decide +kernel
set_option maxRecDepth 100000 in
theorem zh_dX3_init_64_64 : zc cX3_init 64 [42, 16, 20, 188, 10, 181, 0, 34, 42, 16, 16, 188, 10, 181, 0, 37] = true := by decide +kernel
set_option maxRecDepth 100000 in
theorem zh_dX3_init_80_80 : zc cX3_init 80 [42, 17, 2, 48, 188, 10, 181, 0, 40, 42, 7, 188, 10, 181, 0, 43] = true := by decide +kernel
set_option maxRecDepth 100000 in
theorem zh_dX3_init_96_96 : zc cX3_init 96 [42, 7, 188, 10, 181, 0, 46, 42, 7, 188, 10, 181, 0, 49, 42, 16] = true := by decide +kernel
set_option maxRecDepth 100000 in
theorem zh_dX3_init_111_112 : zc cX3_init 112 [16, 188, 10, 181, 0, 52, 42, 43, 181, 0, 55, 42, 44, 181, 0, 59] = true := by decide +kernel
set_option maxRecDepth 100000 in
theorem zh_dX3_init_128_128 : zc cX3_init 128 [177] = true := by decide +kernel
set_option maxRecDepth 100000 in
theorem zh_dX8_init_0_0 : zc cX8_init 0 [42, 183, 0, 3, 42, 17, 1, 64, 188, 10, 181, 0, 9, 42, 17, 1] = true := by decide +kernel
set_option maxRecDepth 100000 in
theorem zh_dX8_init_14_16 : zc cX8_init 16 [64, 188, 10, 181, 0, 15, 42, 17, 1, 64, 188, 4, 181, 0, 18, 42] = true := by decide +kernel
set_option maxRecDepth 100000 in
theorem zh_dX8_init_32_32 : zc cX8_init 32 [16, 16, 188, 4, 181, 0, 22, 42, 16, 16, 188, 10, 181, 0, 25, 42] = true := by decide +kernel
set_option maxRecDepth 100000 in
theorem zh_dX8_init_48_48 : zc cX8_init 48 [16, 20, 188, 10, 181, 0, 28, 42, 16, 20, 188, 10, 181, 0, 31, 42] = true := by decide +kernel
set_option maxRecDepth 100000 in
theorem zh_dX8_init_64_64 : zc cX8_init 64 [43, 181, 0, 34, 42, 44, 181, 0, 38, 177] = true := by decide +kernel
set_option maxRecDepth 100000 in
theorem zh_dX9_init_0_0 : zc cX9_init 0 [42, 183, 0, 3, 42, 16, 16, 188, 10, 181, 0, 9, 42, 16, 16, 188] = true := by decide +kernel
set_option maxRecDepth 100000 in
theorem zh_dX9_init_15_16 : zc cX9_init 16 [10, 181, 0, 15, 42, 16, 16, 188, 10, 181, 0, 18, 42, 16, 16, 188] = true := by decide +kernel
set_option maxRecDepth 100000 in
theorem zh_dX9_init_31_32 : zc cX9_init 32 [10, 181, 0, 21, 42, 16, 16, 188, 10, 181, 0, 24, 42, 43, 181, 0] = true := by decide +kernel
set_option maxRecDepth 100000 in
theorem zh_dX9_init_46_48 : zc cX9_init 48 [27, 177] = true := by decide +kernel
set_option maxRecDepth 100000 in
theorem zh_dX10_init_0_0 : zc cX10_init 0 [42, 183, 0, 3, 42, 17, 0, 200, 188, 10, 181, 0, 9, 42, 17, 0] = true := by decide +kernel
set_option maxRecDepth 100000 in
theorem zh_dX10_init_14_16 : zc cX10_init 16 [200, 188, 10, 181, 0, 15, 42, 16, 51, 188, 10, 181, 0, 18, 42, 16] = true := by decide +kernel
set_option maxRecDepth 100000 in
theorem zh_dX10_init_31_32 : zc cX10_init 32 [52, 188, 10, 181, 0, 21, 42, 16, 51, 188, 10, 181, 0, 24, 177] = true := by decide +kernel
set_option maxRecDepth 100000 in
theorem zh_dJxa1e45_init_da8c8_0_0 : zc cJxa1e45_init_da8c8 0 [42, 183, 0, 1, 177] = true := by decide +kernel
set_option maxRecDepth 100000 in
theorem zh_dJxc12de_init_da8c8_0_0 : zc cJxc12de_init_da8c8 0 [42, 183, 0, 1, 42, 3, 181, 0, 7, 177] = true := by decide +kernel
set_option maxRecDepth 100000 in
theorem zh_dJx4a65c_init_da8c8_0_0 : zc cJx4a65c_init_da8c8 0 [42, 183, 0, 1, 42, 178, 0, 39, 181, 0, 9, 177] = true := by decide +kernel
theorem dX0_init_0 : decode cX0_init 0 = .ok (.aload_n 0, 1) := zo_42 (zi_at zh_dX0_init_0_0 0 rfl)
theorem dX0_init_1 : decode cX0_init 1 = .ok (.invokespecial 3, 3) := zo_183 (zi_at zh_dX0_init_0_0 1 rfl) (zi_at zh_dX0_init_0_0 2 rfl) (zi_at zh_dX0_init_0_0 3 rfl) rfl
theorem dX0_init_4 : decode cX0_init 4 = .ok (.aload_n 0, 1) := zo_42 (zi_at zh_dX0_init_0_0 4 rfl)
theorem dX0_init_5 : decode cX0_init 5 = .ok (.new 9, 3) := zo_187 (zi_at zh_dX0_init_0_0 5 rfl) (zi_at zh_dX0_init_0_0 6 rfl) (zi_at zh_dX0_init_0_0 7 rfl) rfl
theorem dX0_init_8 : decode cX0_init 8 = .ok (.dup, 1) := zo_89 (zi_at zh_dX0_init_0_0 8 rfl)
theorem dX0_init_9 : decode cX0_init 9 = .ok (.invokespecial 11, 3) := zo_183 (zi_at zh_dX0_init_0_0 9 rfl) (zi_at zh_dX0_init_0_0 10 rfl) (zi_at zh_dX0_init_0_0 11 rfl) rfl
theorem dX0_init_12 : decode cX0_init 12 = .ok (.putfield 12, 3) := zo_181 (zi_at zh_dX0_init_0_0 12 rfl) (zi_at zh_dX0_init_0_0 13 rfl) (zi_at zh_dX0_init_0_0 14 rfl) rfl
theorem dX0_init_15 : decode cX0_init 15 = .ok (.aload_n 0, 1) := zo_42 (zi_at zh_dX0_init_0_0 15 rfl)
theorem dX0_init_16 : decode cX0_init 16 = .ok (.new 9, 3) := zo_187 (zi_at zh_dX0_init_16_16 0 rfl) (zi_at zh_dX0_init_16_16 1 rfl) (zi_at zh_dX0_init_16_16 2 rfl) rfl
theorem dX0_init_19 : decode cX0_init 19 = .ok (.dup, 1) := zo_89 (zi_at zh_dX0_init_16_16 3 rfl)
theorem dX0_init_20 : decode cX0_init 20 = .ok (.invokespecial 11, 3) := zo_183 (zi_at zh_dX0_init_16_16 4 rfl) (zi_at zh_dX0_init_16_16 5 rfl) (zi_at zh_dX0_init_16_16 6 rfl) rfl
theorem dX0_init_23 : decode cX0_init 23 = .ok (.putfield 18, 3) := zo_181 (zi_at zh_dX0_init_16_16 7 rfl) (zi_at zh_dX0_init_16_16 8 rfl) (zi_at zh_dX0_init_16_16 9 rfl) rfl
theorem dX0_init_26 : decode cX0_init 26 = .ok (.aload_n 0, 1) := zo_42 (zi_at zh_dX0_init_16_16 10 rfl)
theorem dX0_init_27 : decode cX0_init 27 = .ok (.new 9, 3) := zo_187 (zi_at zh_dX0_init_16_16 11 rfl) (zi_at zh_dX0_init_16_16 12 rfl) (zi_at zh_dX0_init_16_16 13 rfl) rfl
theorem dX0_init_30 : decode cX0_init 30 = .ok (.dup, 1) := zo_89 (zi_at zh_dX0_init_16_16 14 rfl)
theorem dX0_init_31 : decode cX0_init 31 = .ok (.invokespecial 11, 3) := zo_183 (zi_at zh_dX0_init_16_16 15 rfl) (zi_at zh_dX0_init_31_32 0 rfl) (zi_at zh_dX0_init_31_32 1 rfl) rfl
theorem dX0_init_34 : decode cX0_init 34 = .ok (.putfield 21, 3) := zo_181 (zi_at zh_dX0_init_31_32 2 rfl) (zi_at zh_dX0_init_31_32 3 rfl) (zi_at zh_dX0_init_31_32 4 rfl) rfl
theorem dX0_init_37 : decode cX0_init 37 = .ok (.aload_n 0, 1) := zo_42 (zi_at zh_dX0_init_31_32 5 rfl)
theorem dX0_init_38 : decode cX0_init 38 = .ok (.new 9, 3) := zo_187 (zi_at zh_dX0_init_31_32 6 rfl) (zi_at zh_dX0_init_31_32 7 rfl) (zi_at zh_dX0_init_31_32 8 rfl) rfl
theorem dX0_init_41 : decode cX0_init 41 = .ok (.dup, 1) := zo_89 (zi_at zh_dX0_init_31_32 9 rfl)
theorem dX0_init_42 : decode cX0_init 42 = .ok (.invokespecial 11, 3) := zo_183 (zi_at zh_dX0_init_31_32 10 rfl) (zi_at zh_dX0_init_31_32 11 rfl) (zi_at zh_dX0_init_31_32 12 rfl) rfl
theorem dX0_init_45 : decode cX0_init 45 = .ok (.putfield 24, 3) := zo_181 (zi_at zh_dX0_init_31_32 13 rfl) (zi_at zh_dX0_init_31_32 14 rfl) (zi_at zh_dX0_init_31_32 15 rfl) rfl
theorem dX0_init_48 : decode cX0_init 48 = .ok (.aload_n 0, 1) := zo_42 (zi_at zh_dX0_init_48_48 0 rfl)
theorem dX0_init_49 : decode cX0_init 49 = .ok (.new 9, 3) := zo_187 (zi_at zh_dX0_init_48_48 1 rfl) (zi_at zh_dX0_init_48_48 2 rfl) (zi_at zh_dX0_init_48_48 3 rfl) rfl
theorem dX0_init_52 : decode cX0_init 52 = .ok (.dup, 1) := zo_89 (zi_at zh_dX0_init_48_48 4 rfl)
theorem dX0_init_53 : decode cX0_init 53 = .ok (.invokespecial 11, 3) := zo_183 (zi_at zh_dX0_init_48_48 5 rfl) (zi_at zh_dX0_init_48_48 6 rfl) (zi_at zh_dX0_init_48_48 7 rfl) rfl
theorem dX0_init_56 : decode cX0_init 56 = .ok (.putfield 27, 3) := zo_181 (zi_at zh_dX0_init_48_48 8 rfl) (zi_at zh_dX0_init_48_48 9 rfl) (zi_at zh_dX0_init_48_48 10 rfl) rfl
theorem dX0_init_59 : decode cX0_init 59 = .ok (.aload_n 0, 1) := zo_42 (zi_at zh_dX0_init_48_48 11 rfl)
theorem dX0_init_60 : decode cX0_init 60 = .ok (.new 9, 3) := zo_187 (zi_at zh_dX0_init_48_48 12 rfl) (zi_at zh_dX0_init_48_48 13 rfl) (zi_at zh_dX0_init_48_48 14 rfl) rfl
theorem dX0_init_63 : decode cX0_init 63 = .ok (.dup, 1) := zo_89 (zi_at zh_dX0_init_48_48 15 rfl)
theorem dX0_init_64 : decode cX0_init 64 = .ok (.invokespecial 11, 3) := zo_183 (zi_at zh_dX0_init_64_64 0 rfl) (zi_at zh_dX0_init_64_64 1 rfl) (zi_at zh_dX0_init_64_64 2 rfl) rfl
theorem dX0_init_67 : decode cX0_init 67 = .ok (.putfield 30, 3) := zo_181 (zi_at zh_dX0_init_64_64 3 rfl) (zi_at zh_dX0_init_64_64 4 rfl) (zi_at zh_dX0_init_64_64 5 rfl) rfl
theorem dX0_init_70 : decode cX0_init 70 = .ok (.aload_n 0, 1) := zo_42 (zi_at zh_dX0_init_64_64 6 rfl)
theorem dX0_init_71 : decode cX0_init 71 = .ok (.ldc 33, 2) := zo_18 (zi_at zh_dX0_init_64_64 7 rfl) (zi_at zh_dX0_init_64_64 8 rfl)
theorem dX0_init_73 : decode cX0_init 73 = .ok (.invokevirtual 35, 3) := zo_182 (zi_at zh_dX0_init_64_64 9 rfl) (zi_at zh_dX0_init_64_64 10 rfl) (zi_at zh_dX0_init_64_64 11 rfl) rfl
theorem dX0_init_76 : decode cX0_init 76 = .ok (.newarray .int, 2) := zo_188_10 (zi_at zh_dX0_init_64_64 12 rfl) (zi_at zh_dX0_init_64_64 13 rfl)
theorem dX0_init_78 : decode cX0_init 78 = .ok (.putfield 41, 3) := zo_181 (zi_at zh_dX0_init_64_64 14 rfl) (zi_at zh_dX0_init_64_64 15 rfl) (zi_at zh_dX0_init_78_80 0 rfl) rfl
theorem dX0_init_81 : decode cX0_init 81 = .ok (.aload_n 0, 1) := zo_42 (zi_at zh_dX0_init_78_80 1 rfl)
theorem dX0_init_82 : decode cX0_init 82 = .ok (.sipush 200, 3) := zo_17 (zi_at zh_dX0_init_78_80 2 rfl) (zi_at zh_dX0_init_78_80 3 rfl) (zi_at zh_dX0_init_78_80 4 rfl) rfl
theorem dX0_init_85 : decode cX0_init 85 = .ok (.newarray .int, 2) := zo_188_10 (zi_at zh_dX0_init_78_80 5 rfl) (zi_at zh_dX0_init_78_80 6 rfl)
theorem dX0_init_87 : decode cX0_init 87 = .ok (.putfield 45, 3) := zo_181 (zi_at zh_dX0_init_78_80 7 rfl) (zi_at zh_dX0_init_78_80 8 rfl) (zi_at zh_dX0_init_78_80 9 rfl) rfl
theorem dX0_init_90 : decode cX0_init 90 = .ok (.return_, 1) := zo_177 (zi_at zh_dX0_init_78_80 10 rfl)
theorem dX2_init_0 : decode cX2_init 0 = .ok (.aload_n 0, 1) := zo_42 (zi_at zh_dX2_init_0_0 0 rfl)
theorem dX2_init_1 : decode cX2_init 1 = .ok (.invokespecial 3, 3) := zo_183 (zi_at zh_dX2_init_0_0 1 rfl) (zi_at zh_dX2_init_0_0 2 rfl) (zi_at zh_dX2_init_0_0 3 rfl) rfl
theorem dX2_init_4 : decode cX2_init 4 = .ok (.aload_n 0, 1) := zo_42 (zi_at zh_dX2_init_0_0 4 rfl)
theorem dX2_init_5 : decode cX2_init 5 = .ok (.iconst 2, 1) := zo_5 (zi_at zh_dX2_init_0_0 5 rfl)
theorem dX2_init_6 : decode cX2_init 6 = .ok (.newarray .int, 2) := zo_188_10 (zi_at zh_dX2_init_0_0 6 rfl) (zi_at zh_dX2_init_0_0 7 rfl)
theorem dX2_init_8 : decode cX2_init 8 = .ok (.putfield 9, 3) := zo_181 (zi_at zh_dX2_init_0_0 8 rfl) (zi_at zh_dX2_init_0_0 9 rfl) (zi_at zh_dX2_init_0_0 10 rfl) rfl
theorem dX2_init_11 : decode cX2_init 11 = .ok (.aload_n 0, 1) := zo_42 (zi_at zh_dX2_init_0_0 11 rfl)
theorem dX2_init_12 : decode cX2_init 12 = .ok (.iconst 2, 1) := zo_5 (zi_at zh_dX2_init_0_0 12 rfl)
theorem dX2_init_13 : decode cX2_init 13 = .ok (.newarray .int, 2) := zo_188_10 (zi_at zh_dX2_init_0_0 13 rfl) (zi_at zh_dX2_init_0_0 14 rfl)
theorem dX2_init_15 : decode cX2_init 15 = .ok (.putfield 15, 3) := zo_181 (zi_at zh_dX2_init_0_0 15 rfl) (zi_at zh_dX2_init_15_16 0 rfl) (zi_at zh_dX2_init_15_16 1 rfl) rfl
theorem dX2_init_18 : decode cX2_init 18 = .ok (.aload_n 0, 1) := zo_42 (zi_at zh_dX2_init_15_16 2 rfl)
theorem dX2_init_19 : decode cX2_init 19 = .ok (.iconst 2, 1) := zo_5 (zi_at zh_dX2_init_15_16 3 rfl)
theorem dX2_init_20 : decode cX2_init 20 = .ok (.newarray .int, 2) := zo_188_10 (zi_at zh_dX2_init_15_16 4 rfl) (zi_at zh_dX2_init_15_16 5 rfl)
theorem dX2_init_22 : decode cX2_init 22 = .ok (.putfield 18, 3) := zo_181 (zi_at zh_dX2_init_15_16 6 rfl) (zi_at zh_dX2_init_15_16 7 rfl) (zi_at zh_dX2_init_15_16 8 rfl) rfl
theorem dX2_init_25 : decode cX2_init 25 = .ok (.aload_n 0, 1) := zo_42 (zi_at zh_dX2_init_15_16 9 rfl)
theorem dX2_init_26 : decode cX2_init 26 = .ok (.iconst 2, 1) := zo_5 (zi_at zh_dX2_init_15_16 10 rfl)
theorem dX2_init_27 : decode cX2_init 27 = .ok (.newarray .int, 2) := zo_188_10 (zi_at zh_dX2_init_15_16 11 rfl) (zi_at zh_dX2_init_15_16 12 rfl)
theorem dX2_init_29 : decode cX2_init 29 = .ok (.putfield 21, 3) := zo_181 (zi_at zh_dX2_init_15_16 13 rfl) (zi_at zh_dX2_init_15_16 14 rfl) (zi_at zh_dX2_init_15_16 15 rfl) rfl
theorem dX2_init_32 : decode cX2_init 32 = .ok (.aload_n 0, 1) := zo_42 (zi_at zh_dX2_init_32_32 0 rfl)
theorem dX2_init_33 : decode cX2_init 33 = .ok (.iconst 2, 1) := zo_5 (zi_at zh_dX2_init_32_32 1 rfl)
theorem dX2_init_34 : decode cX2_init 34 = .ok (.newarray .int, 2) := zo_188_10 (zi_at zh_dX2_init_32_32 2 rfl) (zi_at zh_dX2_init_32_32 3 rfl)
theorem dX2_init_36 : decode cX2_init 36 = .ok (.putfield 24, 3) := zo_181 (zi_at zh_dX2_init_32_32 4 rfl) (zi_at zh_dX2_init_32_32 5 rfl) (zi_at zh_dX2_init_32_32 6 rfl) rfl
theorem dX2_init_39 : decode cX2_init 39 = .ok (.aload_n 0, 1) := zo_42 (zi_at zh_dX2_init_32_32 7 rfl)
theorem dX2_init_40 : decode cX2_init 40 = .ok (.aload_n 1, 1) := zo_43 (zi_at zh_dX2_init_32_32 8 rfl)
theorem dX2_init_41 : decode cX2_init 41 = .ok (.putfield 27, 3) := zo_181 (zi_at zh_dX2_init_32_32 9 rfl) (zi_at zh_dX2_init_32_32 10 rfl) (zi_at zh_dX2_init_32_32 11 rfl) rfl
theorem dX2_init_44 : decode cX2_init 44 = .ok (.return_, 1) := zo_177 (zi_at zh_dX2_init_32_32 12 rfl)
theorem dX3_init_0 : decode cX3_init 0 = .ok (.aload_n 0, 1) := zo_42 (zi_at zh_dX3_init_0_0 0 rfl)
theorem dX3_init_1 : decode cX3_init 1 = .ok (.invokespecial 5, 3) := zo_183 (zi_at zh_dX3_init_0_0 1 rfl) (zi_at zh_dX3_init_0_0 2 rfl) (zi_at zh_dX3_init_0_0 3 rfl) rfl
theorem dX3_init_4 : decode cX3_init 4 = .ok (.aload_n 0, 1) := zo_42 (zi_at zh_dX3_init_0_0 4 rfl)
theorem dX3_init_5 : decode cX3_init 5 = .ok (.sipush 320, 3) := zo_17 (zi_at zh_dX3_init_0_0 5 rfl) (zi_at zh_dX3_init_0_0 6 rfl) (zi_at zh_dX3_init_0_0 7 rfl) rfl
theorem dX3_init_8 : decode cX3_init 8 = .ok (.newarray .boolean, 2) := zo_188_4 (zi_at zh_dX3_init_0_0 8 rfl) (zi_at zh_dX3_init_0_0 9 rfl)
theorem dX3_init_10 : decode cX3_init 10 = .ok (.putfield 11, 3) := zo_181 (zi_at zh_dX3_init_0_0 10 rfl) (zi_at zh_dX3_init_0_0 11 rfl) (zi_at zh_dX3_init_0_0 12 rfl) rfl
theorem dX3_init_13 : decode cX3_init 13 = .ok (.aload_n 0, 1) := zo_42 (zi_at zh_dX3_init_0_0 13 rfl)
theorem dX3_init_14 : decode cX3_init 14 = .ok (.sipush 320, 3) := zo_17 (zi_at zh_dX3_init_0_0 14 rfl) (zi_at zh_dX3_init_0_0 15 rfl) (zi_at zh_dX3_init_14_16 0 rfl) rfl
theorem dX3_init_17 : decode cX3_init 17 = .ok (.newarray .int, 2) := zo_188_10 (zi_at zh_dX3_init_14_16 1 rfl) (zi_at zh_dX3_init_14_16 2 rfl)
theorem dX3_init_19 : decode cX3_init 19 = .ok (.putfield 15, 3) := zo_181 (zi_at zh_dX3_init_14_16 3 rfl) (zi_at zh_dX3_init_14_16 4 rfl) (zi_at zh_dX3_init_14_16 5 rfl) rfl
theorem dX3_init_22 : decode cX3_init 22 = .ok (.aload_n 0, 1) := zo_42 (zi_at zh_dX3_init_14_16 6 rfl)
theorem dX3_init_23 : decode cX3_init 23 = .ok (.sipush 320, 3) := zo_17 (zi_at zh_dX3_init_14_16 7 rfl) (zi_at zh_dX3_init_14_16 8 rfl) (zi_at zh_dX3_init_14_16 9 rfl) rfl
theorem dX3_init_26 : decode cX3_init 26 = .ok (.newarray .int, 2) := zo_188_10 (zi_at zh_dX3_init_14_16 10 rfl) (zi_at zh_dX3_init_14_16 11 rfl)
theorem dX3_init_28 : decode cX3_init 28 = .ok (.putfield 19, 3) := zo_181 (zi_at zh_dX3_init_14_16 12 rfl) (zi_at zh_dX3_init_14_16 13 rfl) (zi_at zh_dX3_init_14_16 14 rfl) rfl
theorem dX3_init_31 : decode cX3_init 31 = .ok (.aload_n 0, 1) := zo_42 (zi_at zh_dX3_init_14_16 15 rfl)
theorem dX3_init_32 : decode cX3_init 32 = .ok (.sipush 320, 3) := zo_17 (zi_at zh_dX3_init_32_32 0 rfl) (zi_at zh_dX3_init_32_32 1 rfl) (zi_at zh_dX3_init_32_32 2 rfl) rfl
theorem dX3_init_35 : decode cX3_init 35 = .ok (.newarray .int, 2) := zo_188_10 (zi_at zh_dX3_init_32_32 3 rfl) (zi_at zh_dX3_init_32_32 4 rfl)
theorem dX3_init_37 : decode cX3_init 37 = .ok (.putfield 22, 3) := zo_181 (zi_at zh_dX3_init_32_32 5 rfl) (zi_at zh_dX3_init_32_32 6 rfl) (zi_at zh_dX3_init_32_32 7 rfl) rfl
theorem dX3_init_40 : decode cX3_init 40 = .ok (.aload_n 0, 1) := zo_42 (zi_at zh_dX3_init_32_32 8 rfl)
theorem dX3_init_41 : decode cX3_init 41 = .ok (.bipush 20, 2) := zo_16 (zi_at zh_dX3_init_32_32 9 rfl) (zi_at zh_dX3_init_32_32 10 rfl) rfl
theorem dX3_init_43 : decode cX3_init 43 = .ok (.newarray .int, 2) := zo_188_10 (zi_at zh_dX3_init_32_32 11 rfl) (zi_at zh_dX3_init_32_32 12 rfl)
theorem dX3_init_45 : decode cX3_init 45 = .ok (.putfield 25, 3) := zo_181 (zi_at zh_dX3_init_32_32 13 rfl) (zi_at zh_dX3_init_32_32 14 rfl) (zi_at zh_dX3_init_32_32 15 rfl) rfl
theorem dX3_init_48 : decode cX3_init 48 = .ok (.aload_n 0, 1) := zo_42 (zi_at zh_dX3_init_48_48 0 rfl)
theorem dX3_init_49 : decode cX3_init 49 = .ok (.bipush 20, 2) := zo_16 (zi_at zh_dX3_init_48_48 1 rfl) (zi_at zh_dX3_init_48_48 2 rfl) rfl
theorem dX3_init_51 : decode cX3_init 51 = .ok (.newarray .int, 2) := zo_188_10 (zi_at zh_dX3_init_48_48 3 rfl) (zi_at zh_dX3_init_48_48 4 rfl)
theorem dX3_init_53 : decode cX3_init 53 = .ok (.putfield 28, 3) := zo_181 (zi_at zh_dX3_init_48_48 5 rfl) (zi_at zh_dX3_init_48_48 6 rfl) (zi_at zh_dX3_init_48_48 7 rfl) rfl
theorem dX3_init_56 : decode cX3_init 56 = .ok (.aload_n 0, 1) := zo_42 (zi_at zh_dX3_init_48_48 8 rfl)
theorem dX3_init_57 : decode cX3_init 57 = .ok (.bipush 20, 2) := zo_16 (zi_at zh_dX3_init_48_48 9 rfl) (zi_at zh_dX3_init_48_48 10 rfl) rfl
theorem dX3_init_59 : decode cX3_init 59 = .ok (.newarray .int, 2) := zo_188_10 (zi_at zh_dX3_init_48_48 11 rfl) (zi_at zh_dX3_init_48_48 12 rfl)
theorem dX3_init_61 : decode cX3_init 61 = .ok (.putfield 31, 3) := zo_181 (zi_at zh_dX3_init_48_48 13 rfl) (zi_at zh_dX3_init_48_48 14 rfl) (zi_at zh_dX3_init_48_48 15 rfl) rfl
theorem dX3_init_64 : decode cX3_init 64 = .ok (.aload_n 0, 1) := zo_42 (zi_at zh_dX3_init_64_64 0 rfl)
theorem dX3_init_65 : decode cX3_init 65 = .ok (.bipush 20, 2) := zo_16 (zi_at zh_dX3_init_64_64 1 rfl) (zi_at zh_dX3_init_64_64 2 rfl) rfl
theorem dX3_init_67 : decode cX3_init 67 = .ok (.newarray .int, 2) := zo_188_10 (zi_at zh_dX3_init_64_64 3 rfl) (zi_at zh_dX3_init_64_64 4 rfl)
theorem dX3_init_69 : decode cX3_init 69 = .ok (.putfield 34, 3) := zo_181 (zi_at zh_dX3_init_64_64 5 rfl) (zi_at zh_dX3_init_64_64 6 rfl) (zi_at zh_dX3_init_64_64 7 rfl) rfl
theorem dX3_init_72 : decode cX3_init 72 = .ok (.aload_n 0, 1) := zo_42 (zi_at zh_dX3_init_64_64 8 rfl)
theorem dX3_init_73 : decode cX3_init 73 = .ok (.bipush 16, 2) := zo_16 (zi_at zh_dX3_init_64_64 9 rfl) (zi_at zh_dX3_init_64_64 10 rfl) rfl
theorem dX3_init_75 : decode cX3_init 75 = .ok (.newarray .int, 2) := zo_188_10 (zi_at zh_dX3_init_64_64 11 rfl) (zi_at zh_dX3_init_64_64 12 rfl)
theorem dX3_init_77 : decode cX3_init 77 = .ok (.putfield 37, 3) := zo_181 (zi_at zh_dX3_init_64_64 13 rfl) (zi_at zh_dX3_init_64_64 14 rfl) (zi_at zh_dX3_init_64_64 15 rfl) rfl
theorem dX3_init_80 : decode cX3_init 80 = .ok (.aload_n 0, 1) := zo_42 (zi_at zh_dX3_init_80_80 0 rfl)
theorem dX3_init_81 : decode cX3_init 81 = .ok (.sipush 560, 3) := zo_17 (zi_at zh_dX3_init_80_80 1 rfl) (zi_at zh_dX3_init_80_80 2 rfl) (zi_at zh_dX3_init_80_80 3 rfl) rfl
theorem dX3_init_84 : decode cX3_init 84 = .ok (.newarray .int, 2) := zo_188_10 (zi_at zh_dX3_init_80_80 4 rfl) (zi_at zh_dX3_init_80_80 5 rfl)
theorem dX3_init_86 : decode cX3_init 86 = .ok (.putfield 40, 3) := zo_181 (zi_at zh_dX3_init_80_80 6 rfl) (zi_at zh_dX3_init_80_80 7 rfl) (zi_at zh_dX3_init_80_80 8 rfl) rfl
theorem dX3_init_89 : decode cX3_init 89 = .ok (.aload_n 0, 1) := zo_42 (zi_at zh_dX3_init_80_80 9 rfl)
theorem dX3_init_90 : decode cX3_init 90 = .ok (.iconst 4, 1) := zo_7 (zi_at zh_dX3_init_80_80 10 rfl)
theorem dX3_init_91 : decode cX3_init 91 = .ok (.newarray .int, 2) := zo_188_10 (zi_at zh_dX3_init_80_80 11 rfl) (zi_at zh_dX3_init_80_80 12 rfl)
theorem dX3_init_93 : decode cX3_init 93 = .ok (.putfield 43, 3) := zo_181 (zi_at zh_dX3_init_80_80 13 rfl) (zi_at zh_dX3_init_80_80 14 rfl) (zi_at zh_dX3_init_80_80 15 rfl) rfl
theorem dX3_init_96 : decode cX3_init 96 = .ok (.aload_n 0, 1) := zo_42 (zi_at zh_dX3_init_96_96 0 rfl)
theorem dX3_init_97 : decode cX3_init 97 = .ok (.iconst 4, 1) := zo_7 (zi_at zh_dX3_init_96_96 1 rfl)
theorem dX3_init_98 : decode cX3_init 98 = .ok (.newarray .int, 2) := zo_188_10 (zi_at zh_dX3_init_96_96 2 rfl) (zi_at zh_dX3_init_96_96 3 rfl)
theorem dX3_init_100 : decode cX3_init 100 = .ok (.putfield 46, 3) := zo_181 (zi_at zh_dX3_init_96_96 4 rfl) (zi_at zh_dX3_init_96_96 5 rfl) (zi_at zh_dX3_init_96_96 6 rfl) rfl
theorem dX3_init_103 : decode cX3_init 103 = .ok (.aload_n 0, 1) := zo_42 (zi_at zh_dX3_init_96_96 7 rfl)
theorem dX3_init_104 : decode cX3_init 104 = .ok (.iconst 4, 1) := zo_7 (zi_at zh_dX3_init_96_96 8 rfl)
theorem dX3_init_105 : decode cX3_init 105 = .ok (.newarray .int, 2) := zo_188_10 (zi_at zh_dX3_init_96_96 9 rfl) (zi_at zh_dX3_init_96_96 10 rfl)
theorem dX3_init_107 : decode cX3_init 107 = .ok (.putfield 49, 3) := zo_181 (zi_at zh_dX3_init_96_96 11 rfl) (zi_at zh_dX3_init_96_96 12 rfl) (zi_at zh_dX3_init_96_96 13 rfl) rfl
theorem dX3_init_110 : decode cX3_init 110 = .ok (.aload_n 0, 1) := zo_42 (zi_at zh_dX3_init_96_96 14 rfl)
theorem dX3_init_111 : decode cX3_init 111 = .ok (.bipush 16, 2) := zo_16 (zi_at zh_dX3_init_96_96 15 rfl) (zi_at zh_dX3_init_111_112 0 rfl) rfl
theorem dX3_init_113 : decode cX3_init 113 = .ok (.newarray .int, 2) := zo_188_10 (zi_at zh_dX3_init_111_112 1 rfl) (zi_at zh_dX3_init_111_112 2 rfl)
theorem dX3_init_115 : decode cX3_init 115 = .ok (.putfield 52, 3) := zo_181 (zi_at zh_dX3_init_111_112 3 rfl) (zi_at zh_dX3_init_111_112 4 rfl) (zi_at zh_dX3_init_111_112 5 rfl) rfl
theorem dX3_init_118 : decode cX3_init 118 = .ok (.aload_n 0, 1) := zo_42 (zi_at zh_dX3_init_111_112 6 rfl)
theorem dX3_init_119 : decode cX3_init 119 = .ok (.aload_n 1, 1) := zo_43 (zi_at zh_dX3_init_111_112 7 rfl)
theorem dX3_init_120 : decode cX3_init 120 = .ok (.putfield 55, 3) := zo_181 (zi_at zh_dX3_init_111_112 8 rfl) (zi_at zh_dX3_init_111_112 9 rfl) (zi_at zh_dX3_init_111_112 10 rfl) rfl
theorem dX3_init_123 : decode cX3_init 123 = .ok (.aload_n 0, 1) := zo_42 (zi_at zh_dX3_init_111_112 11 rfl)
theorem dX3_init_124 : decode cX3_init 124 = .ok (.aload_n 2, 1) := zo_44 (zi_at zh_dX3_init_111_112 12 rfl)
theorem dX3_init_125 : decode cX3_init 125 = .ok (.putfield 59, 3) := zo_181 (zi_at zh_dX3_init_111_112 13 rfl) (zi_at zh_dX3_init_111_112 14 rfl) (zi_at zh_dX3_init_111_112 15 rfl) rfl
theorem dX3_init_128 : decode cX3_init 128 = .ok (.return_, 1) := zo_177 (zi_at zh_dX3_init_128_128 0 rfl)
theorem dX8_init_0 : decode cX8_init 0 = .ok (.aload_n 0, 1) := zo_42 (zi_at zh_dX8_init_0_0 0 rfl)
theorem dX8_init_1 : decode cX8_init 1 = .ok (.invokespecial 3, 3) := zo_183 (zi_at zh_dX8_init_0_0 1 rfl) (zi_at zh_dX8_init_0_0 2 rfl) (zi_at zh_dX8_init_0_0 3 rfl) rfl
theorem dX8_init_4 : decode cX8_init 4 = .ok (.aload_n 0, 1) := zo_42 (zi_at zh_dX8_init_0_0 4 rfl)
theorem dX8_init_5 : decode cX8_init 5 = .ok (.sipush 320, 3) := zo_17 (zi_at zh_dX8_init_0_0 5 rfl) (zi_at zh_dX8_init_0_0 6 rfl) (zi_at zh_dX8_init_0_0 7 rfl) rfl
theorem dX8_init_8 : decode cX8_init 8 = .ok (.newarray .int, 2) := zo_188_10 (zi_at zh_dX8_init_0_0 8 rfl) (zi_at zh_dX8_init_0_0 9 rfl)
theorem dX8_init_10 : decode cX8_init 10 = .ok (.putfield 9, 3) := zo_181 (zi_at zh_dX8_init_0_0 10 rfl) (zi_at zh_dX8_init_0_0 11 rfl) (zi_at zh_dX8_init_0_0 12 rfl) rfl
theorem dX8_init_13 : decode cX8_init 13 = .ok (.aload_n 0, 1) := zo_42 (zi_at zh_dX8_init_0_0 13 rfl)
theorem dX8_init_14 : decode cX8_init 14 = .ok (.sipush 320, 3) := zo_17 (zi_at zh_dX8_init_0_0 14 rfl) (zi_at zh_dX8_init_0_0 15 rfl) (zi_at zh_dX8_init_14_16 0 rfl) rfl
theorem dX8_init_17 : decode cX8_init 17 = .ok (.newarray .int, 2) := zo_188_10 (zi_at zh_dX8_init_14_16 1 rfl) (zi_at zh_dX8_init_14_16 2 rfl)
theorem dX8_init_19 : decode cX8_init 19 = .ok (.putfield 15, 3) := zo_181 (zi_at zh_dX8_init_14_16 3 rfl) (zi_at zh_dX8_init_14_16 4 rfl) (zi_at zh_dX8_init_14_16 5 rfl) rfl
theorem dX8_init_22 : decode cX8_init 22 = .ok (.aload_n 0, 1) := zo_42 (zi_at zh_dX8_init_14_16 6 rfl)
theorem dX8_init_23 : decode cX8_init 23 = .ok (.sipush 320, 3) := zo_17 (zi_at zh_dX8_init_14_16 7 rfl) (zi_at zh_dX8_init_14_16 8 rfl) (zi_at zh_dX8_init_14_16 9 rfl) rfl
theorem dX8_init_26 : decode cX8_init 26 = .ok (.newarray .boolean, 2) := zo_188_4 (zi_at zh_dX8_init_14_16 10 rfl) (zi_at zh_dX8_init_14_16 11 rfl)
theorem dX8_init_28 : decode cX8_init 28 = .ok (.putfield 18, 3) := zo_181 (zi_at zh_dX8_init_14_16 12 rfl) (zi_at zh_dX8_init_14_16 13 rfl) (zi_at zh_dX8_init_14_16 14 rfl) rfl
theorem dX8_init_31 : decode cX8_init 31 = .ok (.aload_n 0, 1) := zo_42 (zi_at zh_dX8_init_14_16 15 rfl)
theorem dX8_init_32 : decode cX8_init 32 = .ok (.bipush 16, 2) := zo_16 (zi_at zh_dX8_init_32_32 0 rfl) (zi_at zh_dX8_init_32_32 1 rfl) rfl
theorem dX8_init_34 : decode cX8_init 34 = .ok (.newarray .boolean, 2) := zo_188_4 (zi_at zh_dX8_init_32_32 2 rfl) (zi_at zh_dX8_init_32_32 3 rfl)
theorem dX8_init_36 : decode cX8_init 36 = .ok (.putfield 22, 3) := zo_181 (zi_at zh_dX8_init_32_32 4 rfl) (zi_at zh_dX8_init_32_32 5 rfl) (zi_at zh_dX8_init_32_32 6 rfl) rfl
theorem dX8_init_39 : decode cX8_init 39 = .ok (.aload_n 0, 1) := zo_42 (zi_at zh_dX8_init_32_32 7 rfl)
theorem dX8_init_40 : decode cX8_init 40 = .ok (.bipush 16, 2) := zo_16 (zi_at zh_dX8_init_32_32 8 rfl) (zi_at zh_dX8_init_32_32 9 rfl) rfl
theorem dX8_init_42 : decode cX8_init 42 = .ok (.newarray .int, 2) := zo_188_10 (zi_at zh_dX8_init_32_32 10 rfl) (zi_at zh_dX8_init_32_32 11 rfl)
theorem dX8_init_44 : decode cX8_init 44 = .ok (.putfield 25, 3) := zo_181 (zi_at zh_dX8_init_32_32 12 rfl) (zi_at zh_dX8_init_32_32 13 rfl) (zi_at zh_dX8_init_32_32 14 rfl) rfl
theorem dX8_init_47 : decode cX8_init 47 = .ok (.aload_n 0, 1) := zo_42 (zi_at zh_dX8_init_32_32 15 rfl)
theorem dX8_init_48 : decode cX8_init 48 = .ok (.bipush 20, 2) := zo_16 (zi_at zh_dX8_init_48_48 0 rfl) (zi_at zh_dX8_init_48_48 1 rfl) rfl
theorem dX8_init_50 : decode cX8_init 50 = .ok (.newarray .int, 2) := zo_188_10 (zi_at zh_dX8_init_48_48 2 rfl) (zi_at zh_dX8_init_48_48 3 rfl)
theorem dX8_init_52 : decode cX8_init 52 = .ok (.putfield 28, 3) := zo_181 (zi_at zh_dX8_init_48_48 4 rfl) (zi_at zh_dX8_init_48_48 5 rfl) (zi_at zh_dX8_init_48_48 6 rfl) rfl
theorem dX8_init_55 : decode cX8_init 55 = .ok (.aload_n 0, 1) := zo_42 (zi_at zh_dX8_init_48_48 7 rfl)
theorem dX8_init_56 : decode cX8_init 56 = .ok (.bipush 20, 2) := zo_16 (zi_at zh_dX8_init_48_48 8 rfl) (zi_at zh_dX8_init_48_48 9 rfl) rfl
theorem dX8_init_58 : decode cX8_init 58 = .ok (.newarray .int, 2) := zo_188_10 (zi_at zh_dX8_init_48_48 10 rfl) (zi_at zh_dX8_init_48_48 11 rfl)
theorem dX8_init_60 : decode cX8_init 60 = .ok (.putfield 31, 3) := zo_181 (zi_at zh_dX8_init_48_48 12 rfl) (zi_at zh_dX8_init_48_48 13 rfl) (zi_at zh_dX8_init_48_48 14 rfl) rfl
theorem dX8_init_63 : decode cX8_init 63 = .ok (.aload_n 0, 1) := zo_42 (zi_at zh_dX8_init_48_48 15 rfl)
theorem dX8_init_64 : decode cX8_init 64 = .ok (.aload_n 1, 1) := zo_43 (zi_at zh_dX8_init_64_64 0 rfl)
theorem dX8_init_65 : decode cX8_init 65 = .ok (.putfield 34, 3) := zo_181 (zi_at zh_dX8_init_64_64 1 rfl) (zi_at zh_dX8_init_64_64 2 rfl) (zi_at zh_dX8_init_64_64 3 rfl) rfl
theorem dX8_init_68 : decode cX8_init 68 = .ok (.aload_n 0, 1) := zo_42 (zi_at zh_dX8_init_64_64 4 rfl)
theorem dX8_init_69 : decode cX8_init 69 = .ok (.aload_n 2, 1) := zo_44 (zi_at zh_dX8_init_64_64 5 rfl)
theorem dX8_init_70 : decode cX8_init 70 = .ok (.putfield 38, 3) := zo_181 (zi_at zh_dX8_init_64_64 6 rfl) (zi_at zh_dX8_init_64_64 7 rfl) (zi_at zh_dX8_init_64_64 8 rfl) rfl
theorem dX8_init_73 : decode cX8_init 73 = .ok (.return_, 1) := zo_177 (zi_at zh_dX8_init_64_64 9 rfl)
theorem dX9_init_0 : decode cX9_init 0 = .ok (.aload_n 0, 1) := zo_42 (zi_at zh_dX9_init_0_0 0 rfl)
theorem dX9_init_1 : decode cX9_init 1 = .ok (.invokespecial 3, 3) := zo_183 (zi_at zh_dX9_init_0_0 1 rfl) (zi_at zh_dX9_init_0_0 2 rfl) (zi_at zh_dX9_init_0_0 3 rfl) rfl
theorem dX9_init_4 : decode cX9_init 4 = .ok (.aload_n 0, 1) := zo_42 (zi_at zh_dX9_init_0_0 4 rfl)
theorem dX9_init_5 : decode cX9_init 5 = .ok (.bipush 16, 2) := zo_16 (zi_at zh_dX9_init_0_0 5 rfl) (zi_at zh_dX9_init_0_0 6 rfl) rfl
theorem dX9_init_7 : decode cX9_init 7 = .ok (.newarray .int, 2) := zo_188_10 (zi_at zh_dX9_init_0_0 7 rfl) (zi_at zh_dX9_init_0_0 8 rfl)
theorem dX9_init_9 : decode cX9_init 9 = .ok (.putfield 9, 3) := zo_181 (zi_at zh_dX9_init_0_0 9 rfl) (zi_at zh_dX9_init_0_0 10 rfl) (zi_at zh_dX9_init_0_0 11 rfl) rfl
theorem dX9_init_12 : decode cX9_init 12 = .ok (.aload_n 0, 1) := zo_42 (zi_at zh_dX9_init_0_0 12 rfl)
theorem dX9_init_13 : decode cX9_init 13 = .ok (.bipush 16, 2) := zo_16 (zi_at zh_dX9_init_0_0 13 rfl) (zi_at zh_dX9_init_0_0 14 rfl) rfl
theorem dX9_init_15 : decode cX9_init 15 = .ok (.newarray .int, 2) := zo_188_10 (zi_at zh_dX9_init_0_0 15 rfl) (zi_at zh_dX9_init_15_16 0 rfl)
theorem dX9_init_17 : decode cX9_init 17 = .ok (.putfield 15, 3) := zo_181 (zi_at zh_dX9_init_15_16 1 rfl) (zi_at zh_dX9_init_15_16 2 rfl) (zi_at zh_dX9_init_15_16 3 rfl) rfl
theorem dX9_init_20 : decode cX9_init 20 = .ok (.aload_n 0, 1) := zo_42 (zi_at zh_dX9_init_15_16 4 rfl)
theorem dX9_init_21 : decode cX9_init 21 = .ok (.bipush 16, 2) := zo_16 (zi_at zh_dX9_init_15_16 5 rfl) (zi_at zh_dX9_init_15_16 6 rfl) rfl
theorem dX9_init_23 : decode cX9_init 23 = .ok (.newarray .int, 2) := zo_188_10 (zi_at zh_dX9_init_15_16 7 rfl) (zi_at zh_dX9_init_15_16 8 rfl)
theorem dX9_init_25 : decode cX9_init 25 = .ok (.putfield 18, 3) := zo_181 (zi_at zh_dX9_init_15_16 9 rfl) (zi_at zh_dX9_init_15_16 10 rfl) (zi_at zh_dX9_init_15_16 11 rfl) rfl
theorem dX9_init_28 : decode cX9_init 28 = .ok (.aload_n 0, 1) := zo_42 (zi_at zh_dX9_init_15_16 12 rfl)
theorem dX9_init_29 : decode cX9_init 29 = .ok (.bipush 16, 2) := zo_16 (zi_at zh_dX9_init_15_16 13 rfl) (zi_at zh_dX9_init_15_16 14 rfl) rfl
theorem dX9_init_31 : decode cX9_init 31 = .ok (.newarray .int, 2) := zo_188_10 (zi_at zh_dX9_init_15_16 15 rfl) (zi_at zh_dX9_init_31_32 0 rfl)
theorem dX9_init_33 : decode cX9_init 33 = .ok (.putfield 21, 3) := zo_181 (zi_at zh_dX9_init_31_32 1 rfl) (zi_at zh_dX9_init_31_32 2 rfl) (zi_at zh_dX9_init_31_32 3 rfl) rfl
theorem dX9_init_36 : decode cX9_init 36 = .ok (.aload_n 0, 1) := zo_42 (zi_at zh_dX9_init_31_32 4 rfl)
theorem dX9_init_37 : decode cX9_init 37 = .ok (.bipush 16, 2) := zo_16 (zi_at zh_dX9_init_31_32 5 rfl) (zi_at zh_dX9_init_31_32 6 rfl) rfl
theorem dX9_init_39 : decode cX9_init 39 = .ok (.newarray .int, 2) := zo_188_10 (zi_at zh_dX9_init_31_32 7 rfl) (zi_at zh_dX9_init_31_32 8 rfl)
theorem dX9_init_41 : decode cX9_init 41 = .ok (.putfield 24, 3) := zo_181 (zi_at zh_dX9_init_31_32 9 rfl) (zi_at zh_dX9_init_31_32 10 rfl) (zi_at zh_dX9_init_31_32 11 rfl) rfl
theorem dX9_init_44 : decode cX9_init 44 = .ok (.aload_n 0, 1) := zo_42 (zi_at zh_dX9_init_31_32 12 rfl)
theorem dX9_init_45 : decode cX9_init 45 = .ok (.aload_n 1, 1) := zo_43 (zi_at zh_dX9_init_31_32 13 rfl)
theorem dX9_init_46 : decode cX9_init 46 = .ok (.putfield 27, 3) := zo_181 (zi_at zh_dX9_init_31_32 14 rfl) (zi_at zh_dX9_init_31_32 15 rfl) (zi_at zh_dX9_init_46_48 0 rfl) rfl
theorem dX9_init_49 : decode cX9_init 49 = .ok (.return_, 1) := zo_177 (zi_at zh_dX9_init_46_48 1 rfl)
theorem dX10_init_0 : decode cX10_init 0 = .ok (.aload_n 0, 1) := zo_42 (zi_at zh_dX10_init_0_0 0 rfl)
theorem dX10_init_1 : decode cX10_init 1 = .ok (.invokespecial 3, 3) := zo_183 (zi_at zh_dX10_init_0_0 1 rfl) (zi_at zh_dX10_init_0_0 2 rfl) (zi_at zh_dX10_init_0_0 3 rfl) rfl
theorem dX10_init_4 : decode cX10_init 4 = .ok (.aload_n 0, 1) := zo_42 (zi_at zh_dX10_init_0_0 4 rfl)
theorem dX10_init_5 : decode cX10_init 5 = .ok (.sipush 200, 3) := zo_17 (zi_at zh_dX10_init_0_0 5 rfl) (zi_at zh_dX10_init_0_0 6 rfl) (zi_at zh_dX10_init_0_0 7 rfl) rfl
theorem dX10_init_8 : decode cX10_init 8 = .ok (.newarray .int, 2) := zo_188_10 (zi_at zh_dX10_init_0_0 8 rfl) (zi_at zh_dX10_init_0_0 9 rfl)
theorem dX10_init_10 : decode cX10_init 10 = .ok (.putfield 9, 3) := zo_181 (zi_at zh_dX10_init_0_0 10 rfl) (zi_at zh_dX10_init_0_0 11 rfl) (zi_at zh_dX10_init_0_0 12 rfl) rfl
theorem dX10_init_13 : decode cX10_init 13 = .ok (.aload_n 0, 1) := zo_42 (zi_at zh_dX10_init_0_0 13 rfl)
theorem dX10_init_14 : decode cX10_init 14 = .ok (.sipush 200, 3) := zo_17 (zi_at zh_dX10_init_0_0 14 rfl) (zi_at zh_dX10_init_0_0 15 rfl) (zi_at zh_dX10_init_14_16 0 rfl) rfl
theorem dX10_init_17 : decode cX10_init 17 = .ok (.newarray .int, 2) := zo_188_10 (zi_at zh_dX10_init_14_16 1 rfl) (zi_at zh_dX10_init_14_16 2 rfl)
theorem dX10_init_19 : decode cX10_init 19 = .ok (.putfield 15, 3) := zo_181 (zi_at zh_dX10_init_14_16 3 rfl) (zi_at zh_dX10_init_14_16 4 rfl) (zi_at zh_dX10_init_14_16 5 rfl) rfl
theorem dX10_init_22 : decode cX10_init 22 = .ok (.aload_n 0, 1) := zo_42 (zi_at zh_dX10_init_14_16 6 rfl)
theorem dX10_init_23 : decode cX10_init 23 = .ok (.bipush 51, 2) := zo_16 (zi_at zh_dX10_init_14_16 7 rfl) (zi_at zh_dX10_init_14_16 8 rfl) rfl
theorem dX10_init_25 : decode cX10_init 25 = .ok (.newarray .int, 2) := zo_188_10 (zi_at zh_dX10_init_14_16 9 rfl) (zi_at zh_dX10_init_14_16 10 rfl)
theorem dX10_init_27 : decode cX10_init 27 = .ok (.putfield 18, 3) := zo_181 (zi_at zh_dX10_init_14_16 11 rfl) (zi_at zh_dX10_init_14_16 12 rfl) (zi_at zh_dX10_init_14_16 13 rfl) rfl
theorem dX10_init_30 : decode cX10_init 30 = .ok (.aload_n 0, 1) := zo_42 (zi_at zh_dX10_init_14_16 14 rfl)
theorem dX10_init_31 : decode cX10_init 31 = .ok (.bipush 52, 2) := zo_16 (zi_at zh_dX10_init_14_16 15 rfl) (zi_at zh_dX10_init_31_32 0 rfl) rfl
theorem dX10_init_33 : decode cX10_init 33 = .ok (.newarray .int, 2) := zo_188_10 (zi_at zh_dX10_init_31_32 1 rfl) (zi_at zh_dX10_init_31_32 2 rfl)
theorem dX10_init_35 : decode cX10_init 35 = .ok (.putfield 21, 3) := zo_181 (zi_at zh_dX10_init_31_32 3 rfl) (zi_at zh_dX10_init_31_32 4 rfl) (zi_at zh_dX10_init_31_32 5 rfl) rfl
theorem dX10_init_38 : decode cX10_init 38 = .ok (.aload_n 0, 1) := zo_42 (zi_at zh_dX10_init_31_32 6 rfl)
theorem dX10_init_39 : decode cX10_init 39 = .ok (.bipush 51, 2) := zo_16 (zi_at zh_dX10_init_31_32 7 rfl) (zi_at zh_dX10_init_31_32 8 rfl) rfl
theorem dX10_init_41 : decode cX10_init 41 = .ok (.newarray .int, 2) := zo_188_10 (zi_at zh_dX10_init_31_32 9 rfl) (zi_at zh_dX10_init_31_32 10 rfl)
theorem dX10_init_43 : decode cX10_init 43 = .ok (.putfield 24, 3) := zo_181 (zi_at zh_dX10_init_31_32 11 rfl) (zi_at zh_dX10_init_31_32 12 rfl) (zi_at zh_dX10_init_31_32 13 rfl) rfl
theorem dX10_init_46 : decode cX10_init 46 = .ok (.return_, 1) := zo_177 (zi_at zh_dX10_init_31_32 14 rfl)
theorem dJxa1e45_init_da8c8_0 : decode cJxa1e45_init_da8c8 0 = .ok (.aload_n 0, 1) := zo_42 (zi_at zh_dJxa1e45_init_da8c8_0_0 0 rfl)
theorem dJxa1e45_init_da8c8_1 : decode cJxa1e45_init_da8c8 1 = .ok (.invokespecial 1, 3) := zo_183 (zi_at zh_dJxa1e45_init_da8c8_0_0 1 rfl) (zi_at zh_dJxa1e45_init_da8c8_0_0 2 rfl) (zi_at zh_dJxa1e45_init_da8c8_0_0 3 rfl) rfl
theorem dJxa1e45_init_da8c8_4 : decode cJxa1e45_init_da8c8 4 = .ok (.return_, 1) := zo_177 (zi_at zh_dJxa1e45_init_da8c8_0_0 4 rfl)
theorem dJxc12de_init_da8c8_0 : decode cJxc12de_init_da8c8 0 = .ok (.aload_n 0, 1) := zo_42 (zi_at zh_dJxc12de_init_da8c8_0_0 0 rfl)
theorem dJxc12de_init_da8c8_1 : decode cJxc12de_init_da8c8 1 = .ok (.invokespecial 1, 3) := zo_183 (zi_at zh_dJxc12de_init_da8c8_0_0 1 rfl) (zi_at zh_dJxc12de_init_da8c8_0_0 2 rfl) (zi_at zh_dJxc12de_init_da8c8_0_0 3 rfl) rfl
theorem dJxc12de_init_da8c8_4 : decode cJxc12de_init_da8c8 4 = .ok (.aload_n 0, 1) := zo_42 (zi_at zh_dJxc12de_init_da8c8_0_0 4 rfl)
theorem dJxc12de_init_da8c8_5 : decode cJxc12de_init_da8c8 5 = .ok (.iconst 0, 1) := zo_3 (zi_at zh_dJxc12de_init_da8c8_0_0 5 rfl)
theorem dJxc12de_init_da8c8_6 : decode cJxc12de_init_da8c8 6 = .ok (.putfield 7, 3) := zo_181 (zi_at zh_dJxc12de_init_da8c8_0_0 6 rfl) (zi_at zh_dJxc12de_init_da8c8_0_0 7 rfl) (zi_at zh_dJxc12de_init_da8c8_0_0 8 rfl) rfl
theorem dJxc12de_init_da8c8_9 : decode cJxc12de_init_da8c8 9 = .ok (.return_, 1) := zo_177 (zi_at zh_dJxc12de_init_da8c8_0_0 9 rfl)
theorem dJx4a65c_init_da8c8_0 : decode cJx4a65c_init_da8c8 0 = .ok (.aload_n 0, 1) := zo_42 (zi_at zh_dJx4a65c_init_da8c8_0_0 0 rfl)
theorem dJx4a65c_init_da8c8_1 : decode cJx4a65c_init_da8c8 1 = .ok (.invokespecial 1, 3) := zo_183 (zi_at zh_dJx4a65c_init_da8c8_0_0 1 rfl) (zi_at zh_dJx4a65c_init_da8c8_0_0 2 rfl) (zi_at zh_dJx4a65c_init_da8c8_0_0 3 rfl) rfl
theorem dJx4a65c_init_da8c8_4 : decode cJx4a65c_init_da8c8 4 = .ok (.aload_n 0, 1) := zo_42 (zi_at zh_dJx4a65c_init_da8c8_0_0 4 rfl)
theorem dJx4a65c_init_da8c8_5 : decode cJx4a65c_init_da8c8 5 = .ok (.getstatic 39, 3) := zo_178 (zi_at zh_dJx4a65c_init_da8c8_0_0 5 rfl) (zi_at zh_dJx4a65c_init_da8c8_0_0 6 rfl) (zi_at zh_dJx4a65c_init_da8c8_0_0 7 rfl) rfl
theorem dJx4a65c_init_da8c8_8 : decode cJx4a65c_init_da8c8 8 = .ok (.putfield 9, 3) := zo_181 (zi_at zh_dJx4a65c_init_da8c8_0_0 8 rfl) (zi_at zh_dJx4a65c_init_da8c8_0_0 9 rfl) (zi_at zh_dJx4a65c_init_da8c8_0_0 10 rfl) rfl
theorem dJx4a65c_init_da8c8_11 : decode cJx4a65c_init_da8c8 11 = .ok (.return_, 1) := zo_177 (zi_at zh_dJx4a65c_init_da8c8_0_0 11 rfl)
theorem hz_yJxa1e45_init_da8c8_0 : yJxa1e45_init_da8c8.cls ≠ "java/lang/invoke/MethodHandle" ∧ yJxa1e45_init_da8c8.cls ≠ "java/lang/invoke/VarHandle" ∧ (parseMethodDescriptor yJxa1e45_init_da8c8.desc).map (fun d => d.parameters.length) = some 0 := by decide +kernel
theorem hz_yJxc12de_init_da8c8_0 : yJxc12de_init_da8c8.cls ≠ "java/lang/invoke/MethodHandle" ∧ yJxc12de_init_da8c8.cls ≠ "java/lang/invoke/VarHandle" ∧ (parseMethodDescriptor yJxc12de_init_da8c8.desc).map (fun d => d.parameters.length) = some 0 := by decide +kernel
theorem hz_yJx4a65c_init_da8c8_0 : yJx4a65c_init_da8c8.cls ≠ "java/lang/invoke/MethodHandle" ∧ yJx4a65c_init_da8c8.cls ≠ "java/lang/invoke/VarHandle" ∧ (parseMethodDescriptor yJx4a65c_init_da8c8.desc).map (fun d => d.parameters.length) = some 0 := by decide +kernel

theorem ub_sa_boolean {D : va_G} {cl : List vw_C} {tys : List (ClassId × FieldType)} {U : State} {a b : ClassId} (hK : va_K D cl tys U) (i j : Nat) (hi : tys[i]? = some (a, .boolean)) (hj : tys[j]? = some (b, .boolean)) : a = b := by
  have h1 : U.vm.findClass ("[" ++ FieldType.boolean.toString) = some a := (hK.2 i _ hi).2
  have h2 : U.vm.findClass ("[" ++ FieldType.boolean.toString) = some b := (hK.2 j _ hj).2
  exact Option.some.inj (h1.symm.trans h2)
/-- the static row of no elements that a fresh list holds -/
def ub_ZE (ed : Nat) (A : Nat → Prop) (U : State) (H : Heap) : Prop := va_Z "java/util/ArrayList" "DEFAULTCAPACITY_EMPTY_ELEMENTDATA" "[Ljava/lang/Object;" (.ref ed) A U H ∧ va_T (.object "java/lang/Object") ed 0 (fun _ => .null) A U H
theorem ub_Z_c {ed : Nat} {A : Nat → Prop} {U : State} {a : Array Value} {g : JFrame} {mk : MethodId} (h : ub_ZE ed A U U.heap) : ub_ZE ed A (U.calling g mk a) (U.calling g mk a).heap :=
  ⟨va_Z.moved (U := U.calling g mk a) (Vm.Alike.refl U.vm) h.1, va_T.moved (U := U.calling g mk a) (Vm.Alike.refl U.vm) h.2⟩
theorem ub_Z_w {ed : Nat} {s U : State} {H : Heap} {locs : List Loc} {A A1 : Nat → Prop} (hU : U.heap = H) (hW : s.WarmedH U.vm) (hS : va_S A s.heap H locs) (hF : ∀ q, A1 q → A q) (h : ub_ZE ed A s s.heap) : ub_ZE ed A1 U U.heap := by
  rw [hU]
  exact ⟨va_Z.moved hW.alike ((h.1.kept hS.2.1).narrow hF), va_T.moved hW.alike ((h.2.kept hS.2.1).narrow hF)⟩
/-- a text of 14 signs -/
def ub_SQ (qs : Nat) (A : Nat → Prop) (U : State) (H : Heap) : Prop := va_O "java/lang/String" qs A U H ∧ va_OF "java/lang/String" "coder" "B" (.int 0) qs A U H ∧ (∃ vs : Nat, va_OF "java/lang/String" "value" "[B" (.ref vs) qs A U H ∧ ∃ fb : Nat → Value, va_T .byte vs 14 fb A U H) ∧ va_Z "java/lang/String" "COMPACT_STRINGS" "Z" (.int 1) A U H
theorem ub_Q_c {qs : Nat} {A : Nat → Prop} {U : State} {a : Array Value} {g : JFrame} {mk : MethodId} (h : ub_SQ qs A U U.heap) : ub_SQ qs A (U.calling g mk a) (U.calling g mk a).heap := by
  obtain ⟨h1, h2, ⟨vs, h3, fb, h4⟩, h5⟩ := h
  exact ⟨va_O.moved (U := U.calling g mk a) (Vm.Alike.refl U.vm) h1, va_OF.moved (U := U.calling g mk a) (Vm.Alike.refl U.vm) h2, ⟨vs, va_OF.moved (U := U.calling g mk a) (Vm.Alike.refl U.vm) h3, fb, va_T.moved (U := U.calling g mk a) (Vm.Alike.refl U.vm) h4⟩, va_Z.moved (U := U.calling g mk a) (Vm.Alike.refl U.vm) h5⟩
theorem ub_SQ_n {qs : Nat} {s U : State} {H : Heap} {locs : List Loc} {A A1 : Nat → Prop} (hU : U.heap = H) (hW : s.WarmedH U.vm) (hS : va_S A s.heap H locs) (hF : ∀ q, A1 q → A q) (h : ub_SQ qs A s s.heap) : ub_SQ qs A1 U U.heap := by
  obtain ⟨h1, h2, ⟨vs, h3, fb, h4⟩, h5⟩ := h
  rw [hU]
  exact ⟨va_O.moved hW.alike ((h1.kept hS.2.1).narrow hF), va_OF.moved hW.alike ((h2.kept hS.2.1).narrow hF), ⟨vs, va_OF.moved hW.alike ((h3.kept hS.2.1).narrow hF), fb, va_T.moved hW.alike ((h4.kept hS.2.1).narrow hF)⟩, va_Z.moved hW.alike ((h5.kept hS.2.1).narrow hF)⟩
theorem ub_Q_w {qs : Nat} {s U : State} {H : Heap} {locs : List Loc} {A : Nat → Prop} (hU : U.heap = H) (hW : s.WarmedH U.vm) (hS : va_S A s.heap H locs) (h : ub_SQ qs A s s.heap) : ub_SQ qs (fun _ => False) U U.heap := ub_SQ_n hU hW hS (fun _ hh => hh.elim) h
/-- the text of the letters, whose length is asked -/
def ub_SL (A : Nat → Prop) (U : State) (H : Heap) : Prop := ∃ qs : Nat, vk_R RX0 33 "lswkrefcdghumo" qs U ∧ ub_SQ qs A U H
theorem ub_L_c {A : Nat → Prop} {U : State} {a : Array Value} {g : JFrame} {mk : MethodId} (h : ub_SL A U U.heap) : ub_SL A (U.calling g mk a) (U.calling g mk a).heap := by
  obtain ⟨qs, h1, h2⟩ := h
  exact ⟨qs, vk_R.same rfl h1, ub_Q_c h2⟩
theorem ub_L_w {s U : State} {H : Heap} {locs : List Loc} {A A1 : Nat → Prop} (hU : U.heap = H) (hW : s.WarmedH U.vm) (hS : va_S A s.heap H locs) (hF : ∀ q, A1 q → A q) (h : ub_SL A s s.heap) : ub_SL A1 U U.heap := by
  obtain ⟨qs, h1, h2⟩ := h
  exact ⟨qs, vk_R.warm hW h1, ub_SQ_n hU hW hS hF h2⟩
def v_x_ACinit : List Cond := .code yJxa1e45_init_da8c8 cJxa1e45_init_da8c8 1 none :: vA
set_option maxHeartbeats 4000000 in
set_option maxRecDepth 100000 in
theorem x_ACinit (l : Launch) (dC : Nat → ClassId) (dI : Nat → Nat → Nat) (a : Nat) (sz : Nat)  : Met l yJxa1e45_init_da8c8 v_x_ACinit ({ frames := 1, cells := 0, slots := 0, locals := 40 }) (va_Pc [.ref a] (fun U => U.heap.size = sz ∧ va_P (dC, dI) vwCl [(a, .inr (0, [.int 0, .null, .int 0]))] U.heap ∧ va_K (dC, dI) vwCl [] U ∧ va_D (fun _ => True) [(a, .inr (0, [.int 0, .null, .int 0]))])) (va_Qv (S := Unit) (fun _ => True) (fun u t => va_P (dC, dI) vwCl [(a, .inr (0, [.int 0, .null, .int 0]))] t.heap ∧ va_K (dC, dI) vwCl [] t ∧ va_D (va_A [(a, .inr (0, [.int 0, .null, .int 0]))] sz) [(a, .inr (0, [.int 0, .null, .int 0]))]) (va_A [(a, .inr (0, [.int 0, .null, .int 0]))] sz)) 0 0 (va_A [(a, .inr (0, [.int 0, .null, .int 0]))] sz) := by
  refine Met.ofW (cc := cJxa1e45_init_da8c8) (maxL := 1) (ret := none) (by decide) rfl ?_
  intro p e s m args below meth c s₁ B hml hv
  obtain ⟨rfl, hsz, hP, hK, hD0⟩ := hv
  have hx := B.exec
  have hb := B.bytes
  have hr := B.returns
  have hts := atoms_spec (ws := v_x_ACinit) B.pre
  have hown : s.vm.findClass RJxa1e45 = some m.cls := findClass_of_methodNamed B.named
  have hlocks := B.notSynchronized
  have hin : meth.name = "<init>" := (name_of_methodNamed B.named B.method).1
  subst hsz
  have hD := hD0.self (sz := s.heap.size)
  generalize hAe : va_A [(a, .inr (0, [.int 0, .null, .int 0]))] s.heap.size = A at hD ⊢
  have hA : ∀ q : Nat, s.heap.size ≤ q → A q := fun q h => by rw [← hAe]; exact Or.inr h
  have hS : va_S A s.heap s.heap [] := va_S.rf
  have hP : va_P (dC, dI) vwCl [(a, .inr (0, [.int 0, .null, .int 0]))] s.heap := hP
  have hl := lv_entry ([.ref a]) (n := 1) (Nat.le_of_ble_eq_true rfl)
  rw [lg_entry_eq]
  generalize (lg_sl ([.ref a]) ++ List.replicate (1 - (lg_sl ([.ref a])).length) Slot.unset).toArray = ls at hl ⊢
  have hl : lv_has ls 1 [(0, .ref a)] := hl
  refine lv_aload_n hx hb dJxa1e45_init_da8c8_0 rfl (lv_at hl 0 rfl) ?_
  refine W.objInit hx hb hown (hts _ (vA_in _ _ (in_4 _ (zs16 (zs0))))) (hts _ (vA_in _ _ (in_4 _ (zs16 (zs1 (zs0)))))) (hts _ (vA_in _ _ (in_4 _ (zs16 (zs1 (zs1 (zs0))))))) rfl (by rw [hml]; exact hl.1) rfl dJxa1e45_init_da8c8_1 (Nat.le_of_ble_eq_true rfl) (Nat.le_of_ble_eq_true rfl) ?_
  refine W.eq (g2 := F0 m 4 ls []) rfl ?_
  have hP9 := hP.sub (ws' := [(a, .inr (0, [.int 0, .null, .int 0]))]) [0] rfl
  have hD9 := hD.sub (ws' := [(a, .inr (0, [.int 0, .null, .int 0]))]) [0] (by decide) rfl
  have hK9 := hK.sub (tys' := []) [] rfl
  exact W.vret hx hb hr (fun t ht hW => ⟨⟨(), rfl, trivial, (by rw [ht]; exact hP9), va_K.moved hW.alike hK9, hD9⟩, hS.F ht⟩) hS.2.2 dJxa1e45_init_da8c8_4
def v_x_ALinit0 : List Cond := .code yJxc12de_init_da8c8 cJxc12de_init_da8c8 1 none :: vA
set_option maxHeartbeats 4000000 in
set_option maxRecDepth 100000 in
theorem x_ALinit0 (l : Launch) (dC : Nat → ClassId) (dI : Nat → Nat → Nat) (a : Nat) (sz : Nat)  : Met l yJxc12de_init_da8c8 v_x_ALinit0 ({ frames := 2, cells := 0, slots := 0, locals := 80 }) (va_Pc [.ref a] (fun U => U.heap.size = sz ∧ va_P (dC, dI) vwCl [(a, .inr (0, [.int 0, .null, .int 0]))] U.heap ∧ va_K (dC, dI) vwCl [] U ∧ va_D (fun _ => True) [(a, .inr (0, [.int 0, .null, .int 0]))])) (va_Qv (S := Unit) (fun _ => True) (fun u t => va_P (dC, dI) vwCl [(a, .inr (0, [.int 0, .null, .int 0]))] t.heap ∧ va_K (dC, dI) vwCl [] t ∧ va_D (va_A [(a, .inr (0, [.int 0, .null, .int 0]))] sz) [(a, .inr (0, [.int 0, .null, .int 0]))]) (va_A [(a, .inr (0, [.int 0, .null, .int 0]))] sz)) 0 0 (va_A [(a, .inr (0, [.int 0, .null, .int 0]))] sz) := by
  refine Met.ofW (cc := cJxc12de_init_da8c8) (maxL := 1) (ret := none) (by decide) rfl ?_
  intro p e s m args below meth c s₁ B hml hv
  obtain ⟨rfl, hsz, hP, hK, hD0⟩ := hv
  have hx := B.exec
  have hb := B.bytes
  have hr := B.returns
  have hts := atoms_spec (ws := v_x_ALinit0) B.pre
  have hown : s.vm.findClass RJxc12de = some m.cls := findClass_of_methodNamed B.named
  have hlocks := B.notSynchronized
  have hin : meth.name = "<init>" := (name_of_methodNamed B.named B.method).1
  subst hsz
  have hD := hD0.self (sz := s.heap.size)
  generalize hAe : va_A [(a, .inr (0, [.int 0, .null, .int 0]))] s.heap.size = A at hD ⊢
  have hA : ∀ q : Nat, s.heap.size ≤ q → A q := fun q h => by rw [← hAe]; exact Or.inr h
  have hS : va_S A s.heap s.heap [] := va_S.rf
  have hP : va_P (dC, dI) vwCl [(a, .inr (0, [.int 0, .null, .int 0]))] s.heap := hP
  have hl := lv_entry ([.ref a]) (n := 1) (Nat.le_of_ble_eq_true rfl)
  rw [lg_entry_eq]
  generalize (lg_sl ([.ref a]) ++ List.replicate (1 - (lg_sl ([.ref a])).length) Slot.unset).toArray = ls at hl ⊢
  have hl : lv_has ls 1 [(0, .ref a)] := hl
  refine lv_aload_n hx hb dJxc12de_init_da8c8_0 rfl (lv_at hl 0 rfl) ?_
  have hPc := hP.sub (ws' := [(a, .inr (0, [.int 0, .null, .int 0]))]) [0] rfl
  have hKc := hK.sub (tys' := []) [] rfl
  have hDc := hD.sub (ws' := [(a, .inr (0, [.int 0, .null, .int 0]))]) [0] (by decide) rfl
  have hFc := va_free (wc := [(a, .inr (0, [.int 0, .null, .int 0]))]) hD hS hA [0] rfl
  refine va_callv (va_runI (As := []) (rest := []) ⟨hx, hb, hml, hown, hts⟩ (x_ACinit l dC dI a s.heap.size) (cwI 0 hts (gi_0 (in_4 _ (zs4 (zs4 (zs4 (zs1 (zs1 (zs1 (zs0))))))))) rfl rfl rfl (hts _ (vA_in _ _ (in_4 _ (zs4 (zs4 (zs4 (zs1 (zs1 (zs0))))))))) (hts _ (vA_in _ _ (in_4 _ (zs4 (zs4 (zs4 (zs0))))))) (hts _ (vA_in _ _ (in_4 _ (zs4 (zs4 (zs4 (zs1 (zs0)))))))) rfl hz_yJxa1e45_init_da8c8_0 ⟨Nat.le_of_ble_eq_true rfl, Nat.le_of_ble_eq_true rfl⟩) ⟨fun a U g mk q => by obtain ⟨e0, e1, qP, qK, qD⟩ := q; exact ⟨e0, e1, qP, va_K.moved (u := U) (U := U.calling g mk a) (Vm.Alike.refl U.vm) qK, qD⟩, fun U hU hW => ⟨rfl, by rw [hU], by rw [hU]; exact hPc, va_K.moved hW.alike hKc, hDc.weaken (fun _ _ _ _ => trivial)⟩⟩ rfl rfl hl.1 rfl (lv_room (Nat.le_of_ble_eq_true rfl)) dJxc12de_init_da8c8_1 ⟨Nat.le_of_ble_eq_true rfl, Nat.le_of_ble_eq_true rfl⟩) hS (fun q _ h => hFc q h) hFc (fun u2 t H1 locs ht hvm hw hB hz1 hk1 hS => ?_)
  obtain ⟨hP1, hK1, hD1⟩ := hB
  rw [ht] at hP1
  obtain ⟨hP, hD⟩ := va_join (wr := []) (w1 := [(a, .inr (0, [.int 0, .null, .int 0]))]) hP hD [0] [] rfl rfl (by decide) (by decide) hk1 hFc hP1 hD1
  generalize H1 = H at hP hS ⊢
  have hP : va_P (dC, dI) vwCl [(a, .inr (0, [.int 0, .null, .int 0]))] H := hP
  have hD : va_D A [(a, .inr (0, [.int 0, .null, .int 0]))] := hD
  refine W.widen (k := 0) (n := 0) (by first | exact Nat.le_of_ble_eq_true rfl | omega) (by first | exact Nat.le_of_ble_eq_true rfl | omega) ?_
  refine lv_aload_n hx hb dJxc12de_init_da8c8_4 rfl (lv_at hl 0 rfl) ?_
  refine lv_iconst (v := 0) hx hb dJxc12de_init_da8c8_5 (by decide) ?_
  refine va_put (D := (dC, dI)) (ci := 0) (v := .int 0) (ty := .int) (C := RJx4a65c) (T := TJx4a65c) (N := 3) hx hb hts (fun w h => vA_in _ w (in_Jx4a65c w h)) tyJx4a65c tyJx4a65c_ok nmJx4a65c hown hK hP hD hS 0 rfl rfl 0 (by decide) (hts _ (vA_in _ _ (in_4 _ (zs4 (zs4 (zs1 (zs1 (zs1 (zs0))))))))) (fun _ h9 => h9) rfl (by decide +kernel) rfl rfl (Nat.le_of_ble_eq_true rfl) dJxc12de_init_da8c8_6 (fun H locs hP hD hS => ?_)
  have hP : va_P (dC, dI) vwCl [(a, .inr (0, [.int 0, .null, .int 0]))] H := hP
  have hD : va_D A [(a, .inr (0, [.int 0, .null, .int 0]))] := hD
  have hP9 := hP.sub (ws' := [(a, .inr (0, [.int 0, .null, .int 0]))]) [0] rfl
  have hD9 := hD.sub (ws' := [(a, .inr (0, [.int 0, .null, .int 0]))]) [0] (by decide) rfl
  have hK9 := hK.sub (tys' := []) [] rfl
  exact W.vret hx hb hr (fun t ht hW => ⟨⟨(), rfl, trivial, (by rw [ht]; exact hP9), va_K.moved hW.alike hK9, hD9⟩, hS.F ht⟩) hS.2.2 dJxc12de_init_da8c8_9
def v_x_ALinit : List Cond := .code yJx4a65c_init_da8c8 cJx4a65c_init_da8c8 1 none :: vA
set_option maxHeartbeats 4000000 in
set_option maxRecDepth 100000 in
theorem x_ALinit (l : Launch) (dC : Nat → ClassId) (dI : Nat → Nat → Nat) (a : Nat) (ed : Nat) (sz : Nat)  : Met l yJx4a65c_init_da8c8 v_x_ALinit ({ frames := 3, cells := 0, slots := 0, locals := 120 }) (va_Pc [.ref a] (fun U => U.heap.size = sz ∧ va_P (dC, dI) vwCl [(a, .inr (0, [.int 0, .null, .int 0]))] U.heap ∧ va_K (dC, dI) vwCl [] U ∧ va_D (fun _ => True) [(a, .inr (0, [.int 0, .null, .int 0]))] ∧ ub_ZE ed (va_A [(a, .inr (0, [.int 0, .null, .int 0]))] sz) U U.heap)) (va_Qv (S := Unit) (fun _ => True) (fun u t => va_P (dC, dI) vwCl [(a, .inr (0, [.int 0, .ref ed, .int 0]))] t.heap ∧ va_K (dC, dI) vwCl [] t ∧ va_D (va_A [(a, .inr (0, [.int 0, .null, .int 0]))] sz) [(a, .inr (0, [.int 0, .ref ed, .int 0]))]) (va_A [(a, .inr (0, [.int 0, .null, .int 0]))] sz)) 0 0 (va_A [(a, .inr (0, [.int 0, .null, .int 0]))] sz) := by
  refine Met.ofW (cc := cJx4a65c_init_da8c8) (maxL := 1) (ret := none) (by decide) rfl ?_
  intro p e s m args below meth c s₁ B hml hv
  obtain ⟨rfl, hsz, hP, hK, hD0, hZ⟩ := hv
  have hx := B.exec
  have hb := B.bytes
  have hr := B.returns
  have hts := atoms_spec (ws := v_x_ALinit) B.pre
  have hown : s.vm.findClass RJx4a65c = some m.cls := findClass_of_methodNamed B.named
  have hlocks := B.notSynchronized
  have hin : meth.name = "<init>" := (name_of_methodNamed B.named B.method).1
  subst hsz
  have hD := hD0.self (sz := s.heap.size)
  generalize hAe : va_A [(a, .inr (0, [.int 0, .null, .int 0]))] s.heap.size = A at hD ⊢
  have hA : ∀ q : Nat, s.heap.size ≤ q → A q := fun q h => by rw [← hAe]; exact Or.inr h
  try rw [hAe] at hZ
  have hS : va_S A s.heap s.heap [] := va_S.rf
  have hP : va_P (dC, dI) vwCl [(a, .inr (0, [.int 0, .null, .int 0]))] s.heap := hP
  have hl := lv_entry ([.ref a]) (n := 1) (Nat.le_of_ble_eq_true rfl)
  rw [lg_entry_eq]
  generalize (lg_sl ([.ref a]) ++ List.replicate (1 - (lg_sl ([.ref a])).length) Slot.unset).toArray = ls at hl ⊢
  have hl : lv_has ls 1 [(0, .ref a)] := hl
  refine lv_aload_n hx hb dJx4a65c_init_da8c8_0 rfl (lv_at hl 0 rfl) ?_
  have hPc := hP.sub (ws' := [(a, .inr (0, [.int 0, .null, .int 0]))]) [0] rfl
  have hKc := hK.sub (tys' := []) [] rfl
  have hDc := hD.sub (ws' := [(a, .inr (0, [.int 0, .null, .int 0]))]) [0] (by decide) rfl
  have hFc := va_free (wc := [(a, .inr (0, [.int 0, .null, .int 0]))]) hD hS hA [0] rfl
  refine va_callv (va_runI (As := []) (rest := []) ⟨hx, hb, hml, hown, hts⟩ (x_ALinit0 l dC dI a s.heap.size) (cwI 0 hts (gi_0 (in_4 _ (zs4 (zs4 (zs1 (zs1 (zs0))))))) rfl rfl rfl (hts _ (vA_in _ _ (in_4 _ (zs4 (zs4 (zs1 (zs0))))))) (hts _ (vA_in _ _ (in_4 _ (zs4 (zs1 (zs1 (zs1 (zs0)))))))) (hts _ (vA_in _ _ (in_4 _ (zs4 (zs4 (zs0)))))) rfl hz_yJxc12de_init_da8c8_0 ⟨Nat.le_of_ble_eq_true rfl, Nat.le_of_ble_eq_true rfl⟩) ⟨fun a U g mk q => by obtain ⟨e0, e1, qP, qK, qD⟩ := q; exact ⟨e0, e1, qP, va_K.moved (u := U) (U := U.calling g mk a) (Vm.Alike.refl U.vm) qK, qD⟩, fun U hU hW => ⟨rfl, by rw [hU], by rw [hU]; exact hPc, va_K.moved hW.alike hKc, hDc.weaken (fun _ _ _ _ => trivial)⟩⟩ rfl rfl hl.1 rfl (lv_room (Nat.le_of_ble_eq_true rfl)) dJx4a65c_init_da8c8_1 ⟨Nat.le_of_ble_eq_true rfl, Nat.le_of_ble_eq_true rfl⟩) hS (fun q _ h => hFc q h) hFc (fun u2 t H1 locs ht hvm hw hB hz1 hk1 hS => ?_)
  obtain ⟨hP1, hK1, hD1⟩ := hB
  rw [ht] at hP1
  obtain ⟨hP, hD⟩ := va_join (wr := []) (w1 := [(a, .inr (0, [.int 0, .null, .int 0]))]) hP hD [0] [] rfl rfl (by decide) (by decide) hk1 hFc hP1 hD1
  generalize H1 = H at hP hS ⊢
  have hP : va_P (dC, dI) vwCl [(a, .inr (0, [.int 0, .null, .int 0]))] H := hP
  have hD : va_D A [(a, .inr (0, [.int 0, .null, .int 0]))] := hD
  refine W.widen (k := 0) (n := 0) (by first | exact Nat.le_of_ble_eq_true rfl | omega) (by first | exact Nat.le_of_ble_eq_true rfl | omega) ?_
  refine lv_aload_n hx hb dJx4a65c_init_da8c8_4 rfl (lv_at hl 0 rfl) ?_
  refine va_gets hx hb hZ.1 hS hown (hts _ (vA_in _ _ (in_3 _ (zs16 (zs4 (zs4 (zs1 (zs0)))))))) (fun _ h9 => h9) dJx4a65c_init_da8c8_5 ?_
  refine va_put (D := (dC, dI)) (ci := 0) (v := .ref ed) (ty := .array (.object "java/lang/Object")) (C := RJx4a65c) (T := TJx4a65c) (N := 3) hx hb hts (fun w h => vA_in _ w (in_Jx4a65c w h)) tyJx4a65c tyJx4a65c_ok nmJx4a65c hown hK hP hD hS 0 rfl rfl 1 (by decide) (hts _ (vA_in _ _ (in_3 _ (zs16 (zs4 (zs4 (zs0))))))) (fun _ h9 => h9) rfl (by decide +kernel) rfl rfl (Nat.le_of_ble_eq_true rfl) dJx4a65c_init_da8c8_8 (fun H locs hP hD hS => ?_)
  have hP : va_P (dC, dI) vwCl [(a, .inr (0, [.int 0, .ref ed, .int 0]))] H := hP
  have hD : va_D A [(a, .inr (0, [.int 0, .ref ed, .int 0]))] := hD
  have hP9 := hP.sub (ws' := [(a, .inr (0, [.int 0, .ref ed, .int 0]))]) [0] rfl
  have hD9 := hD.sub (ws' := [(a, .inr (0, [.int 0, .ref ed, .int 0]))]) [0] (by decide) rfl
  have hK9 := hK.sub (tys' := []) [] rfl
  exact W.vret hx hb hr (fun t ht hW => ⟨⟨(), rfl, trivial, (by rw [ht]; exact hP9), va_K.moved hW.alike hK9, hD9⟩, hS.F ht⟩) hS.2.2 dJx4a65c_init_da8c8_11
def v_x_coder : List Cond := .code yJ0_coder_7d493 cJ0_coder_7d493 1 (some .byte) :: vA
set_option maxHeartbeats 4000000 in
set_option maxRecDepth 100000 in
theorem x_coder (l : Launch) (dC : Nat → ClassId) (dI : Nat → Nat → Nat) (qs : Nat)  : Met l yJ0_coder_7d493 v_x_coder ({ frames := 0, cells := 0, slots := 0, locals := 0 }) (va_Pc [.ref qs] (fun U => va_P (dC, dI) vwCl [] U.heap ∧ va_K (dC, dI) vwCl [] U ∧ ub_SQ qs (fun _ => False) U U.heap)) (va_Qi (S := Unit) (fun r _ => r = 0) (fun _ _ => True) (fun _ => False)) 0 0 (fun _ => False) := by
  refine Met.ofW (cc := cJ0_coder_7d493) (maxL := 1) (ret := (some .byte)) (by decide) rfl ?_
  intro p e s m args below meth c s₁ B hml hv
  obtain ⟨rfl, hP, hK, hQ⟩ := hv
  have hx := B.exec
  have hb := B.bytes
  have hr := B.returns
  have hts := atoms_spec (ws := v_x_coder) B.pre
  have hown : s.vm.findClass RJ0 = some m.cls := findClass_of_methodNamed B.named
  have hlocks := B.notSynchronized
  have hS : va_S (fun _ : Nat => False) s.heap s.heap [] := va_S.rf
  have hl := lv_entry ([.ref qs]) (n := 1) (Nat.le_of_ble_eq_true rfl)
  rw [lg_entry_eq]
  generalize (lg_sl ([.ref qs]) ++ List.replicate (1 - (lg_sl ([.ref qs])).length) Slot.unset).toArray = ls at hl ⊢
  have hl : lv_has ls 1 [(0, .ref qs)] := hl
  refine va_gets hx hb hQ.2.2.2 hS hown (hts _ (vA_in _ _ (in_0 _ (zs4 (zs1 (zs1 (zs1 (zs0)))))))) (fun _ h9 => h9) dJ0_coder_7d493_0 ?_
  refine lv_if_eq (tgt := 13) hx hb dJ0_coder_7d493_3 (by decide) (fun c1 => by first | exact absurd c1 (by decide) | exact absurd (by decide) c1) (fun c1 => ?_)
  refine lv_aload_n hx hb dJ0_coder_7d493_6 rfl (lv_at hl 0 rfl) ?_
  refine vk_getf hx hb hQ.2.1 hS hown (hts _ (vA_in _ _ (in_0 _ (zs4 (zs4 (zs0)))))) (fun _ h9 => h9) dJ0_coder_7d493_7 ?_
  refine lv_goto (tgt := 14) hx hb dJ0_coder_7d493_10 (by decide) ?_
  exact W.zret (v := (0)) hx hb hr rfl (fun t ht hW => ⟨⟨(0), (), rfl, rfl, trivial⟩, hS.F ht⟩) hS.2.2 dJ0_coder_7d493_14
def v_x_strlen : List Cond := .code yJ0_length_8abf5 cJ0_length_8abf5 1 (some .int) :: vA
set_option maxHeartbeats 4000000 in
set_option maxRecDepth 100000 in
theorem x_strlen (l : Launch) (dC : Nat → ClassId) (dI : Nat → Nat → Nat) (qs : Nat)  : Met l yJ0_length_8abf5 v_x_strlen ({ frames := 1, cells := 0, slots := 0, locals := 40 }) (va_Pc [.ref qs] (fun U => va_P (dC, dI) vwCl [] U.heap ∧ va_K (dC, dI) vwCl [] U ∧ ub_SQ qs (fun _ => False) U U.heap)) (va_Qi (S := Unit) (fun r _ => r = 14) (fun _ _ => True) (fun _ => False)) 0 0 (fun _ => False) := by
  refine Met.ofW (cc := cJ0_length_8abf5) (maxL := 1) (ret := (some .int)) (by decide) rfl ?_
  intro p e s m args below meth c s₁ B hml hv
  obtain ⟨rfl, hP, hK, hQ⟩ := hv
  have hx := B.exec
  have hb := B.bytes
  have hr := B.returns
  have hts := atoms_spec (ws := v_x_strlen) B.pre
  have hown : s.vm.findClass RJ0 = some m.cls := findClass_of_methodNamed B.named
  have hlocks := B.notSynchronized
  have hS : va_S (fun _ : Nat => False) s.heap s.heap [] := va_S.rf
  have hl := lv_entry ([.ref qs]) (n := 1) (Nat.le_of_ble_eq_true rfl)
  rw [lg_entry_eq]
  generalize (lg_sl ([.ref qs]) ++ List.replicate (1 - (lg_sl ([.ref qs])).length) Slot.unset).toArray = ls at hl ⊢
  have hl : lv_has ls 1 [(0, .ref qs)] := hl
  obtain ⟨vs, hq3, fb, hq4⟩ := hQ.2.2.1
  refine lv_aload_n hx hb dJ0_length_8abf5_0 rfl (lv_at hl 0 rfl) ?_
  refine vk_getf hx hb hq3 hS hown (hts _ (vA_in _ _ (in_0 _ (zs4 (zs4 (zs4 (zs1 (zs1 (zs1 (zs0)))))))))) (fun _ h9 => h9) dJ0_length_8abf5_1 ?_
  refine va_tlen (v := 14) hx hb hq4 hS rfl dJ0_length_8abf5_4 ?_
  refine lv_aload_n hx hb dJ0_length_8abf5_5 rfl (lv_at hl 0 rfl) ?_
  have hPc := hP.sub (ws' := []) [] rfl
  have hKc := hK.sub (tys' := []) [] rfl
  refine va_calli (va_runV (As := []) (rest := [.int 14]) ⟨hx, hb, hml, hown, hts⟩ (x_coder l dC dI qs) (cwV 0 hts (gi_V (in_0 _ (zs16 (zs4 (zs4 (zs0))))) (in_0 _ (zs16 (zs4 (zs4 (zs1 (zs0)))))) (in_0 _ (zs16 (zs4 (zs4 (zs1 (zs1 (zs0))))))) (in_0 _ (zs4 (zs4 (zs4 (zs1 (zs0)))))) (in_0 _ (zs4 (zs1 (zs1 (zs0)))))) rfl rfl rfl ⟨rfl, hz_yJ0_coder_7d493_0⟩ ⟨Nat.le_of_ble_eq_true rfl, Nat.le_of_ble_eq_true rfl⟩) ⟨fun a U g mk q => by obtain ⟨e0, qP, qK, qQ⟩ := q; exact ⟨e0, qP, va_K.moved (u := U) (U := U.calling g mk a) (Vm.Alike.refl U.vm) qK, ub_Q_c qQ⟩, va_Orecv hQ.1 hS, fun U hU hW => ⟨rfl, by rw [hU]; exact hPc, va_K.moved hW.alike hKc, ub_Q_w hU hW hS hQ⟩⟩ rfl rfl hl.1 rfl (lv_room (Nat.le_of_ble_eq_true rfl)) dJ0_length_8abf5_6 ⟨Nat.le_of_ble_eq_true rfl, Nat.le_of_ble_eq_true rfl⟩) hS (fun _ _ h => h.elim) (fun _ h => h.elim) (fun r1 u2 t H1 locs ht hvm hw hB hz1 hk1 hS => ?_)
  generalize H1 = H at hS ⊢
  obtain rfl : (0 : Int32) = r1 := hw.symm
  refine lv_ishr hx hb dJ0_length_8abf5_9 ?_
  refine lv_topi (fun y3 ey3 => ?_)
  obtain rfl : (14 : Int32) = y3 := (ey3.trans (by decide)).symm
  exact W.iret (v := (14)) hx hb hr (fun t ht hW => ⟨⟨(14), (), rfl, rfl, trivial⟩, hS.F ht⟩) hS.2.2 dJ0_length_8abf5_10
def v_x_BookI : List Cond := .code yX0_init cX0_init 1 none :: vA
set_option maxHeartbeats 4000000 in
set_option maxRecDepth 100000 in
theorem x_BookI (l : Launch) (dC : Nat → ClassId) (dI : Nat → Nat → Nat) (p1 : Nat) (ed : Nat) (sz : Nat)  : Met l yX0_init v_x_BookI ({ frames := 4, cells := 8, slots := 232, locals := 160 }) (va_Pc [.ref p1] (fun U => U.heap.size = sz ∧ va_P (dC, dI) vwCl [(p1, .inr (1, [.int 0, .int 0, .int 0, .null, .null, .null, .null, .null, .null, .null, .null]))] U.heap ∧ va_K (dC, dI) vwCl [] U ∧ va_D (fun _ => True) [(p1, .inr (1, [.int 0, .int 0, .int 0, .null, .null, .null, .null, .null, .null, .null, .null]))] ∧ ub_ZE ed (va_A [(p1, .inr (1, [.int 0, .int 0, .int 0, .null, .null, .null, .null, .null, .null, .null, .null]))] sz) U U.heap ∧ ub_SL (va_A [(p1, .inr (1, [.int 0, .int 0, .int 0, .null, .null, .null, .null, .null, .null, .null, .null]))] sz) U U.heap)) (va_Qv (S := Nat × Nat × Nat × Nat × Nat × Nat × Nat × Nat × ClassId) (fun _ => True) (fun u t => match u with | (p7, p8, p9, p10, p11, p12, p19, p20, cI) => va_P (dC, dI) vwCl [(p1, .inr (1, [.int 0, .int 0, .int 0, .ref p7, .ref p8, .ref p9, .ref p10, .ref p11, .ref p12, .ref p19, .ref p20])), (p7, .inr (0, [.int 0, .ref ed, .int 0])), (p8, .inr (0, [.int 0, .ref ed, .int 0])), (p9, .inr (0, [.int 0, .ref ed, .int 0])), (p10, .inr (0, [.int 0, .ref ed, .int 0])), (p11, .inr (0, [.int 0, .ref ed, .int 0])), (p12, .inr (0, [.int 0, .ref ed, .int 0])), (p19, .inl (cI, 14, .inl ((fun _ => (0 : Int32))))), (p20, .inl (cI, 200, .inl ((fun _ => (0 : Int32)))))] t.heap ∧ va_K (dC, dI) vwCl [(cI, .int)] t ∧ va_D (va_A [(p1, .inr (1, [.int 0, .int 0, .int 0, .null, .null, .null, .null, .null, .null, .null, .null]))] sz) [(p1, .inr (1, [.int 0, .int 0, .int 0, .ref p7, .ref p8, .ref p9, .ref p10, .ref p11, .ref p12, .ref p19, .ref p20])), (p7, .inr (0, [.int 0, .ref ed, .int 0])), (p8, .inr (0, [.int 0, .ref ed, .int 0])), (p9, .inr (0, [.int 0, .ref ed, .int 0])), (p10, .inr (0, [.int 0, .ref ed, .int 0])), (p11, .inr (0, [.int 0, .ref ed, .int 0])), (p12, .inr (0, [.int 0, .ref ed, .int 0])), (p19, .inl (cI, 14, .inl ((fun _ => (0 : Int32))))), (p20, .inl (cI, 200, .inl ((fun _ => (0 : Int32)))))]) (va_A [(p1, .inr (1, [.int 0, .int 0, .int 0, .null, .null, .null, .null, .null, .null, .null, .null]))] sz)) 8 232 (va_A [(p1, .inr (1, [.int 0, .int 0, .int 0, .null, .null, .null, .null, .null, .null, .null, .null]))] sz) := by
  refine Met.ofW (cc := cX0_init) (maxL := 1) (ret := none) (by decide) rfl ?_
  intro p e s m args below meth c s₁ B hml hv
  obtain ⟨rfl, hsz, hP, hK, hD0, hZ, hL⟩ := hv
  have hx := B.exec
  have hb := B.bytes
  have hr := B.returns
  have hts := atoms_spec (ws := v_x_BookI) B.pre
  have hown : s.vm.findClass RX0 = some m.cls := findClass_of_methodNamed B.named
  have hlocks := B.notSynchronized
  have hin : meth.name = "<init>" := (name_of_methodNamed B.named B.method).1
  subst hsz
  have hD := hD0.self (sz := s.heap.size)
  generalize hAe : va_A [(p1, .inr (1, [.int 0, .int 0, .int 0, .null, .null, .null, .null, .null, .null, .null, .null]))] s.heap.size = A at hD ⊢
  have hA : ∀ q : Nat, s.heap.size ≤ q → A q := fun q h => by rw [← hAe]; exact Or.inr h
  try rw [hAe] at hZ
  try rw [hAe] at hL
  have hS : va_S A s.heap s.heap [] := va_S.rf
  have hP : va_P (dC, dI) vwCl [(p1, .inr (1, [.int 0, .int 0, .int 0, .null, .null, .null, .null, .null, .null, .null, .null]))] s.heap := hP
  have hl := lv_entry ([.ref p1]) (n := 1) (Nat.le_of_ble_eq_true rfl)
  rw [lg_entry_eq]
  generalize (lg_sl ([.ref p1]) ++ List.replicate (1 - (lg_sl ([.ref p1])).length) Slot.unset).toArray = ls at hl ⊢
  have hl : lv_has ls 1 [(0, .ref p1)] := hl
  refine lv_aload_n hx hb dX0_init_0 rfl (lv_at hl 0 rfl) ?_
  refine W.objInit hx hb hown (hts _ (vA_in _ _ (in_5 _ (zs16 (zs4 (zs4 (zs4 (zs0)))))))) (hts _ (vA_in _ _ (in_4 _ (zs16 (zs1 (zs0)))))) (hts _ (vA_in _ _ (in_4 _ (zs16 (zs1 (zs1 (zs0))))))) rfl (by rw [hml]; exact hl.1) rfl dX0_init_1 (Nat.le_of_ble_eq_true rfl) (Nat.le_of_ble_eq_true rfl) ?_
  refine W.eq (g2 := F0 m 4 ls []) rfl ?_
  refine lv_aload_n hx hb dX0_init_4 rfl (lv_at hl 0 rfl) ?_
  refine va_new (ci := 0) (fs := [.int 0, .null, .int 0]) (C := RJx4a65c) (T := TJx4a65c) (N := 3) hx hb hts (fun w h => vA_in _ w (in_Jx4a65c w h)) tyJx4a65c tyJx4a65c_ok hown (hts _ (vA_in _ _ (in_5 _ (zs16 (zs4 (zs4 (zs4 (zs1 (zs0))))))))) (hts _ (vA_in _ _ (in_5 _ (zs16 (zs4 (zs4 (zs4 (zs1 (zs1 (zs0)))))))))) (hts _ (vA_in _ _ (in_3 _ (zs16 (zs1 (zs1 (zs0))))))) hK hP hD hS hA rfl (fun j hj => by rcases (show j = 0 ∨ j = 1 ∨ j = 2 by omega) with rfl | rfl | rfl <;> rfl) (Nat.le_of_ble_eq_true rfl) (Nat.le_of_ble_eq_true rfl) dX0_init_5 (fun q1 H hP hD hS => ?_)
  have hP : va_P (dC, dI) vwCl [(p1, .inr (1, [.int 0, .int 0, .int 0, .null, .null, .null, .null, .null, .null, .null, .null])), (q1, .inr (0, [.int 0, .null, .int 0]))] H := hP
  have hD : va_D A [(p1, .inr (1, [.int 0, .int 0, .int 0, .null, .null, .null, .null, .null, .null, .null, .null])), (q1, .inr (0, [.int 0, .null, .int 0]))] := hD
  refine W.widen (k := 1) (n := 3) (by first | exact Nat.le_of_ble_eq_true rfl | omega) (by first | exact Nat.le_of_ble_eq_true rfl | omega) ?_
  refine lv_dup hx hb dX0_init_8 rfl ?_
  have hPc := hP.sub (ws' := [(q1, .inr (0, [.int 0, .null, .int 0]))]) [1] rfl
  have hKc := hK.sub (tys' := []) [] rfl
  have hDc := hD.sub (ws' := [(q1, .inr (0, [.int 0, .null, .int 0]))]) [1] (by decide) rfl
  have hFc := va_free (wc := [(q1, .inr (0, [.int 0, .null, .int 0]))]) hD hS hA [1] rfl
  refine va_callv (va_runI (As := []) (rest := [.ref q1, .ref p1]) ⟨hx, hb, hml, hown, hts⟩ (x_ALinit l dC dI q1 ed H.size) (cwI 0 hts (gi_0 (in_4 _ (zs4 (zs1 (zs1 (zs0)))))) rfl rfl rfl (hts _ (vA_in _ _ (in_3 _ (zs16 (zs1 (zs1 (zs0))))))) (hts _ (vA_in _ _ (in_5 _ (zs16 (zs16 (zs1 (zs1 (zs1 (zs0))))))))) (hts _ (vA_in _ _ (in_5 _ (zs16 (zs16 (zs4 (zs0))))))) rfl hz_yJx4a65c_init_da8c8_0 ⟨Nat.le_of_ble_eq_true rfl, Nat.le_of_ble_eq_true rfl⟩) ⟨fun a U g mk q => by obtain ⟨e0, e1, qP, qK, qD, qZ⟩ := q; exact ⟨e0, e1, qP, va_K.moved (u := U) (U := U.calling g mk a) (Vm.Alike.refl U.vm) qK, qD, ub_Z_c qZ⟩, fun U hU hW => ⟨rfl, by rw [hU], by rw [hU]; exact hPc, va_K.moved hW.alike hKc, hDc.weaken (fun _ _ _ _ => trivial), ub_Z_w hU hW hS hFc hZ⟩⟩ rfl rfl hl.1 rfl (lv_room (Nat.le_of_ble_eq_true rfl)) dX0_init_9 ⟨Nat.le_of_ble_eq_true rfl, Nat.le_of_ble_eq_true rfl⟩) hS (fun q _ h => hFc q h) hFc (fun u3 t H1 locs ht hvm hw hB hz1 hk1 hS => ?_)
  obtain ⟨hP1, hK1, hD1⟩ := hB
  rw [ht] at hP1
  obtain ⟨hP, hD⟩ := va_join (wr := [(p1, .inr (1, [.int 0, .int 0, .int 0, .null, .null, .null, .null, .null, .null, .null, .null]))]) (w1 := [(q1, .inr (0, [.int 0, .ref ed, .int 0]))]) hP hD [1] [0] rfl rfl (by decide) (by decide) hk1 hFc hP1 hD1
  generalize H1 = H at hP hS ⊢
  have hP : va_P (dC, dI) vwCl [(p1, .inr (1, [.int 0, .int 0, .int 0, .null, .null, .null, .null, .null, .null, .null, .null])), (q1, .inr (0, [.int 0, .ref ed, .int 0]))] H := hP
  have hD : va_D A [(p1, .inr (1, [.int 0, .int 0, .int 0, .null, .null, .null, .null, .null, .null, .null, .null])), (q1, .inr (0, [.int 0, .ref ed, .int 0]))] := hD
  refine W.widen (k := 1) (n := 3) (by first | exact Nat.le_of_ble_eq_true rfl | omega) (by first | exact Nat.le_of_ble_eq_true rfl | omega) ?_
  refine va_putF (D := (dC, dI)) (ci := 1) (v := .ref q1) (ty := .object "java/util/ArrayList") (C := RX0) (T := TX0) (N := 11) hx hb hts (fun w h => vA_in _ w (in_X0 w h)) tyX0 tyX0_ok nmX0 hown hK hP hD hS 0 rfl rfl 3 (by decide) (hts _ (vA_in _ _ (in_4 _ (zs16 (zs4 (zs4 (zs4 (zs1 (zs0))))))))) (fun _ h9 => h9) rfl hin rfl (by decide +kernel) rfl rfl (Nat.le_of_ble_eq_true rfl) dX0_init_12 (fun H locs hP hD hS => ?_)
  have hP : va_P (dC, dI) vwCl [(p1, .inr (1, [.int 0, .int 0, .int 0, .ref q1, .null, .null, .null, .null, .null, .null, .null])), (q1, .inr (0, [.int 0, .ref ed, .int 0]))] H := hP
  have hD : va_D A [(p1, .inr (1, [.int 0, .int 0, .int 0, .ref q1, .null, .null, .null, .null, .null, .null, .null])), (q1, .inr (0, [.int 0, .ref ed, .int 0]))] := hD
  refine lv_aload_n hx hb dX0_init_15 rfl (lv_at hl 0 rfl) ?_
  refine va_new (ci := 0) (fs := [.int 0, .null, .int 0]) (C := RJx4a65c) (T := TJx4a65c) (N := 3) hx hb hts (fun w h => vA_in _ w (in_Jx4a65c w h)) tyJx4a65c tyJx4a65c_ok hown (hts _ (vA_in _ _ (in_5 _ (zs16 (zs4 (zs4 (zs4 (zs1 (zs0))))))))) (hts _ (vA_in _ _ (in_5 _ (zs16 (zs4 (zs4 (zs4 (zs1 (zs1 (zs0)))))))))) (hts _ (vA_in _ _ (in_3 _ (zs16 (zs1 (zs1 (zs0))))))) hK hP hD hS hA rfl (fun j hj => by rcases (show j = 0 ∨ j = 1 ∨ j = 2 by omega) with rfl | rfl | rfl <;> rfl) (Nat.le_of_ble_eq_true rfl) (Nat.le_of_ble_eq_true rfl) dX0_init_16 (fun q4 H hP hD hS => ?_)
  have hP : va_P (dC, dI) vwCl [(p1, .inr (1, [.int 0, .int 0, .int 0, .ref q1, .null, .null, .null, .null, .null, .null, .null])), (q1, .inr (0, [.int 0, .ref ed, .int 0])), (q4, .inr (0, [.int 0, .null, .int 0]))] H := hP
  have hD : va_D A [(p1, .inr (1, [.int 0, .int 0, .int 0, .ref q1, .null, .null, .null, .null, .null, .null, .null])), (q1, .inr (0, [.int 0, .ref ed, .int 0])), (q4, .inr (0, [.int 0, .null, .int 0]))] := hD
  refine W.widen (k := 2) (n := 6) (by first | exact Nat.le_of_ble_eq_true rfl | omega) (by first | exact Nat.le_of_ble_eq_true rfl | omega) ?_
  refine lv_dup hx hb dX0_init_19 rfl ?_
  have hPc := hP.sub (ws' := [(q4, .inr (0, [.int 0, .null, .int 0]))]) [2] rfl
  have hKc := hK.sub (tys' := []) [] rfl
  have hDc := hD.sub (ws' := [(q4, .inr (0, [.int 0, .null, .int 0]))]) [2] (by decide) rfl
  have hFc := va_free (wc := [(q4, .inr (0, [.int 0, .null, .int 0]))]) hD hS hA [2] rfl
  refine va_callv (va_runI (As := []) (rest := [.ref q4, .ref p1]) ⟨hx, hb, hml, hown, hts⟩ (x_ALinit l dC dI q4 ed H.size) (cwI 0 hts (gi_0 (in_4 _ (zs4 (zs1 (zs1 (zs0)))))) rfl rfl rfl (hts _ (vA_in _ _ (in_3 _ (zs16 (zs1 (zs1 (zs0))))))) (hts _ (vA_in _ _ (in_5 _ (zs16 (zs16 (zs1 (zs1 (zs1 (zs0))))))))) (hts _ (vA_in _ _ (in_5 _ (zs16 (zs16 (zs4 (zs0))))))) rfl hz_yJx4a65c_init_da8c8_0 ⟨Nat.le_of_ble_eq_true rfl, Nat.le_of_ble_eq_true rfl⟩) ⟨fun a U g mk q => by obtain ⟨e0, e1, qP, qK, qD, qZ⟩ := q; exact ⟨e0, e1, qP, va_K.moved (u := U) (U := U.calling g mk a) (Vm.Alike.refl U.vm) qK, qD, ub_Z_c qZ⟩, fun U hU hW => ⟨rfl, by rw [hU], by rw [hU]; exact hPc, va_K.moved hW.alike hKc, hDc.weaken (fun _ _ _ _ => trivial), ub_Z_w hU hW hS hFc hZ⟩⟩ rfl rfl hl.1 rfl (lv_room (Nat.le_of_ble_eq_true rfl)) dX0_init_20 ⟨Nat.le_of_ble_eq_true rfl, Nat.le_of_ble_eq_true rfl⟩) hS (fun q _ h => hFc q h) hFc (fun u6 t H1 locs ht hvm hw hB hz1 hk1 hS => ?_)
  obtain ⟨hP1, hK1, hD1⟩ := hB
  rw [ht] at hP1
  obtain ⟨hP, hD⟩ := va_join (wr := [(p1, .inr (1, [.int 0, .int 0, .int 0, .ref q1, .null, .null, .null, .null, .null, .null, .null])), (q1, .inr (0, [.int 0, .ref ed, .int 0]))]) (w1 := [(q4, .inr (0, [.int 0, .ref ed, .int 0]))]) hP hD [2] [0, 1] rfl rfl (by decide) (by decide) hk1 hFc hP1 hD1
  generalize H1 = H at hP hS ⊢
  have hP : va_P (dC, dI) vwCl [(p1, .inr (1, [.int 0, .int 0, .int 0, .ref q1, .null, .null, .null, .null, .null, .null, .null])), (q1, .inr (0, [.int 0, .ref ed, .int 0])), (q4, .inr (0, [.int 0, .ref ed, .int 0]))] H := hP
  have hD : va_D A [(p1, .inr (1, [.int 0, .int 0, .int 0, .ref q1, .null, .null, .null, .null, .null, .null, .null])), (q1, .inr (0, [.int 0, .ref ed, .int 0])), (q4, .inr (0, [.int 0, .ref ed, .int 0]))] := hD
  refine W.widen (k := 2) (n := 6) (by first | exact Nat.le_of_ble_eq_true rfl | omega) (by first | exact Nat.le_of_ble_eq_true rfl | omega) ?_
  refine va_putF (D := (dC, dI)) (ci := 1) (v := .ref q4) (ty := .object "java/util/ArrayList") (C := RX0) (T := TX0) (N := 11) hx hb hts (fun w h => vA_in _ w (in_X0 w h)) tyX0 tyX0_ok nmX0 hown hK hP hD hS 0 rfl rfl 4 (by decide) (hts _ (vA_in _ _ (in_5 _ (zs16 (zs4 (zs4 (zs4 (zs1 (zs1 (zs1 (zs0))))))))))) (fun _ h9 => h9) rfl hin rfl (by decide +kernel) rfl rfl (Nat.le_of_ble_eq_true rfl) dX0_init_23 (fun H locs hP hD hS => ?_)
  have hP : va_P (dC, dI) vwCl [(p1, .inr (1, [.int 0, .int 0, .int 0, .ref q1, .ref q4, .null, .null, .null, .null, .null, .null])), (q1, .inr (0, [.int 0, .ref ed, .int 0])), (q4, .inr (0, [.int 0, .ref ed, .int 0]))] H := hP
  have hD : va_D A [(p1, .inr (1, [.int 0, .int 0, .int 0, .ref q1, .ref q4, .null, .null, .null, .null, .null, .null])), (q1, .inr (0, [.int 0, .ref ed, .int 0])), (q4, .inr (0, [.int 0, .ref ed, .int 0]))] := hD
  refine lv_aload_n hx hb dX0_init_26 rfl (lv_at hl 0 rfl) ?_
  refine va_new (ci := 0) (fs := [.int 0, .null, .int 0]) (C := RJx4a65c) (T := TJx4a65c) (N := 3) hx hb hts (fun w h => vA_in _ w (in_Jx4a65c w h)) tyJx4a65c tyJx4a65c_ok hown (hts _ (vA_in _ _ (in_5 _ (zs16 (zs4 (zs4 (zs4 (zs1 (zs0))))))))) (hts _ (vA_in _ _ (in_5 _ (zs16 (zs4 (zs4 (zs4 (zs1 (zs1 (zs0)))))))))) (hts _ (vA_in _ _ (in_3 _ (zs16 (zs1 (zs1 (zs0))))))) hK hP hD hS hA rfl (fun j hj => by rcases (show j = 0 ∨ j = 1 ∨ j = 2 by omega) with rfl | rfl | rfl <;> rfl) (Nat.le_of_ble_eq_true rfl) (Nat.le_of_ble_eq_true rfl) dX0_init_27 (fun q7 H hP hD hS => ?_)
  have hP : va_P (dC, dI) vwCl [(p1, .inr (1, [.int 0, .int 0, .int 0, .ref q1, .ref q4, .null, .null, .null, .null, .null, .null])), (q1, .inr (0, [.int 0, .ref ed, .int 0])), (q4, .inr (0, [.int 0, .ref ed, .int 0])), (q7, .inr (0, [.int 0, .null, .int 0]))] H := hP
  have hD : va_D A [(p1, .inr (1, [.int 0, .int 0, .int 0, .ref q1, .ref q4, .null, .null, .null, .null, .null, .null])), (q1, .inr (0, [.int 0, .ref ed, .int 0])), (q4, .inr (0, [.int 0, .ref ed, .int 0])), (q7, .inr (0, [.int 0, .null, .int 0]))] := hD
  refine W.widen (k := 3) (n := 9) (by first | exact Nat.le_of_ble_eq_true rfl | omega) (by first | exact Nat.le_of_ble_eq_true rfl | omega) ?_
  refine lv_dup hx hb dX0_init_30 rfl ?_
  have hPc := hP.sub (ws' := [(q7, .inr (0, [.int 0, .null, .int 0]))]) [3] rfl
  have hKc := hK.sub (tys' := []) [] rfl
  have hDc := hD.sub (ws' := [(q7, .inr (0, [.int 0, .null, .int 0]))]) [3] (by decide) rfl
  have hFc := va_free (wc := [(q7, .inr (0, [.int 0, .null, .int 0]))]) hD hS hA [3] rfl
  refine va_callv (va_runI (As := []) (rest := [.ref q7, .ref p1]) ⟨hx, hb, hml, hown, hts⟩ (x_ALinit l dC dI q7 ed H.size) (cwI 0 hts (gi_0 (in_4 _ (zs4 (zs1 (zs1 (zs0)))))) rfl rfl rfl (hts _ (vA_in _ _ (in_3 _ (zs16 (zs1 (zs1 (zs0))))))) (hts _ (vA_in _ _ (in_5 _ (zs16 (zs16 (zs1 (zs1 (zs1 (zs0))))))))) (hts _ (vA_in _ _ (in_5 _ (zs16 (zs16 (zs4 (zs0))))))) rfl hz_yJx4a65c_init_da8c8_0 ⟨Nat.le_of_ble_eq_true rfl, Nat.le_of_ble_eq_true rfl⟩) ⟨fun a U g mk q => by obtain ⟨e0, e1, qP, qK, qD, qZ⟩ := q; exact ⟨e0, e1, qP, va_K.moved (u := U) (U := U.calling g mk a) (Vm.Alike.refl U.vm) qK, qD, ub_Z_c qZ⟩, fun U hU hW => ⟨rfl, by rw [hU], by rw [hU]; exact hPc, va_K.moved hW.alike hKc, hDc.weaken (fun _ _ _ _ => trivial), ub_Z_w hU hW hS hFc hZ⟩⟩ rfl rfl hl.1 rfl (lv_room (Nat.le_of_ble_eq_true rfl)) dX0_init_31 ⟨Nat.le_of_ble_eq_true rfl, Nat.le_of_ble_eq_true rfl⟩) hS (fun q _ h => hFc q h) hFc (fun u9 t H1 locs ht hvm hw hB hz1 hk1 hS => ?_)
  obtain ⟨hP1, hK1, hD1⟩ := hB
  rw [ht] at hP1
  obtain ⟨hP, hD⟩ := va_join (wr := [(p1, .inr (1, [.int 0, .int 0, .int 0, .ref q1, .ref q4, .null, .null, .null, .null, .null, .null])), (q1, .inr (0, [.int 0, .ref ed, .int 0])), (q4, .inr (0, [.int 0, .ref ed, .int 0]))]) (w1 := [(q7, .inr (0, [.int 0, .ref ed, .int 0]))]) hP hD [3] [0, 1, 2] rfl rfl (by decide) (by decide) hk1 hFc hP1 hD1
  generalize H1 = H at hP hS ⊢
  have hP : va_P (dC, dI) vwCl [(p1, .inr (1, [.int 0, .int 0, .int 0, .ref q1, .ref q4, .null, .null, .null, .null, .null, .null])), (q1, .inr (0, [.int 0, .ref ed, .int 0])), (q4, .inr (0, [.int 0, .ref ed, .int 0])), (q7, .inr (0, [.int 0, .ref ed, .int 0]))] H := hP
  have hD : va_D A [(p1, .inr (1, [.int 0, .int 0, .int 0, .ref q1, .ref q4, .null, .null, .null, .null, .null, .null])), (q1, .inr (0, [.int 0, .ref ed, .int 0])), (q4, .inr (0, [.int 0, .ref ed, .int 0])), (q7, .inr (0, [.int 0, .ref ed, .int 0]))] := hD
  refine W.widen (k := 3) (n := 9) (by first | exact Nat.le_of_ble_eq_true rfl | omega) (by first | exact Nat.le_of_ble_eq_true rfl | omega) ?_
  refine va_putF (D := (dC, dI)) (ci := 1) (v := .ref q7) (ty := .object "java/util/ArrayList") (C := RX0) (T := TX0) (N := 11) hx hb hts (fun w h => vA_in _ w (in_X0 w h)) tyX0 tyX0_ok nmX0 hown hK hP hD hS 0 rfl rfl 5 (by decide) (hts _ (vA_in _ _ (in_5 _ (zs1 (zs0))))) (fun _ h9 => h9) rfl hin rfl (by decide +kernel) rfl rfl (Nat.le_of_ble_eq_true rfl) dX0_init_34 (fun H locs hP hD hS => ?_)
  have hP : va_P (dC, dI) vwCl [(p1, .inr (1, [.int 0, .int 0, .int 0, .ref q1, .ref q4, .ref q7, .null, .null, .null, .null, .null])), (q1, .inr (0, [.int 0, .ref ed, .int 0])), (q4, .inr (0, [.int 0, .ref ed, .int 0])), (q7, .inr (0, [.int 0, .ref ed, .int 0]))] H := hP
  have hD : va_D A [(p1, .inr (1, [.int 0, .int 0, .int 0, .ref q1, .ref q4, .ref q7, .null, .null, .null, .null, .null])), (q1, .inr (0, [.int 0, .ref ed, .int 0])), (q4, .inr (0, [.int 0, .ref ed, .int 0])), (q7, .inr (0, [.int 0, .ref ed, .int 0]))] := hD
  refine lv_aload_n hx hb dX0_init_37 rfl (lv_at hl 0 rfl) ?_
  refine va_new (ci := 0) (fs := [.int 0, .null, .int 0]) (C := RJx4a65c) (T := TJx4a65c) (N := 3) hx hb hts (fun w h => vA_in _ w (in_Jx4a65c w h)) tyJx4a65c tyJx4a65c_ok hown (hts _ (vA_in _ _ (in_5 _ (zs16 (zs4 (zs4 (zs4 (zs1 (zs0))))))))) (hts _ (vA_in _ _ (in_5 _ (zs16 (zs4 (zs4 (zs4 (zs1 (zs1 (zs0)))))))))) (hts _ (vA_in _ _ (in_3 _ (zs16 (zs1 (zs1 (zs0))))))) hK hP hD hS hA rfl (fun j hj => by rcases (show j = 0 ∨ j = 1 ∨ j = 2 by omega) with rfl | rfl | rfl <;> rfl) (Nat.le_of_ble_eq_true rfl) (Nat.le_of_ble_eq_true rfl) dX0_init_38 (fun q10 H hP hD hS => ?_)
  have hP : va_P (dC, dI) vwCl [(p1, .inr (1, [.int 0, .int 0, .int 0, .ref q1, .ref q4, .ref q7, .null, .null, .null, .null, .null])), (q1, .inr (0, [.int 0, .ref ed, .int 0])), (q4, .inr (0, [.int 0, .ref ed, .int 0])), (q7, .inr (0, [.int 0, .ref ed, .int 0])), (q10, .inr (0, [.int 0, .null, .int 0]))] H := hP
  have hD : va_D A [(p1, .inr (1, [.int 0, .int 0, .int 0, .ref q1, .ref q4, .ref q7, .null, .null, .null, .null, .null])), (q1, .inr (0, [.int 0, .ref ed, .int 0])), (q4, .inr (0, [.int 0, .ref ed, .int 0])), (q7, .inr (0, [.int 0, .ref ed, .int 0])), (q10, .inr (0, [.int 0, .null, .int 0]))] := hD
  refine W.widen (k := 4) (n := 12) (by first | exact Nat.le_of_ble_eq_true rfl | omega) (by first | exact Nat.le_of_ble_eq_true rfl | omega) ?_
  refine lv_dup hx hb dX0_init_41 rfl ?_
  have hPc := hP.sub (ws' := [(q10, .inr (0, [.int 0, .null, .int 0]))]) [4] rfl
  have hKc := hK.sub (tys' := []) [] rfl
  have hDc := hD.sub (ws' := [(q10, .inr (0, [.int 0, .null, .int 0]))]) [4] (by decide) rfl
  have hFc := va_free (wc := [(q10, .inr (0, [.int 0, .null, .int 0]))]) hD hS hA [4] rfl
  refine va_callv (va_runI (As := []) (rest := [.ref q10, .ref p1]) ⟨hx, hb, hml, hown, hts⟩ (x_ALinit l dC dI q10 ed H.size) (cwI 0 hts (gi_0 (in_4 _ (zs4 (zs1 (zs1 (zs0)))))) rfl rfl rfl (hts _ (vA_in _ _ (in_3 _ (zs16 (zs1 (zs1 (zs0))))))) (hts _ (vA_in _ _ (in_5 _ (zs16 (zs16 (zs1 (zs1 (zs1 (zs0))))))))) (hts _ (vA_in _ _ (in_5 _ (zs16 (zs16 (zs4 (zs0))))))) rfl hz_yJx4a65c_init_da8c8_0 ⟨Nat.le_of_ble_eq_true rfl, Nat.le_of_ble_eq_true rfl⟩) ⟨fun a U g mk q => by obtain ⟨e0, e1, qP, qK, qD, qZ⟩ := q; exact ⟨e0, e1, qP, va_K.moved (u := U) (U := U.calling g mk a) (Vm.Alike.refl U.vm) qK, qD, ub_Z_c qZ⟩, fun U hU hW => ⟨rfl, by rw [hU], by rw [hU]; exact hPc, va_K.moved hW.alike hKc, hDc.weaken (fun _ _ _ _ => trivial), ub_Z_w hU hW hS hFc hZ⟩⟩ rfl rfl hl.1 rfl (lv_room (Nat.le_of_ble_eq_true rfl)) dX0_init_42 ⟨Nat.le_of_ble_eq_true rfl, Nat.le_of_ble_eq_true rfl⟩) hS (fun q _ h => hFc q h) hFc (fun u12 t H1 locs ht hvm hw hB hz1 hk1 hS => ?_)
  obtain ⟨hP1, hK1, hD1⟩ := hB
  rw [ht] at hP1
  obtain ⟨hP, hD⟩ := va_join (wr := [(p1, .inr (1, [.int 0, .int 0, .int 0, .ref q1, .ref q4, .ref q7, .null, .null, .null, .null, .null])), (q1, .inr (0, [.int 0, .ref ed, .int 0])), (q4, .inr (0, [.int 0, .ref ed, .int 0])), (q7, .inr (0, [.int 0, .ref ed, .int 0]))]) (w1 := [(q10, .inr (0, [.int 0, .ref ed, .int 0]))]) hP hD [4] [0, 1, 2, 3] rfl rfl (by decide) (by decide) hk1 hFc hP1 hD1
  generalize H1 = H at hP hS ⊢
  have hP : va_P (dC, dI) vwCl [(p1, .inr (1, [.int 0, .int 0, .int 0, .ref q1, .ref q4, .ref q7, .null, .null, .null, .null, .null])), (q1, .inr (0, [.int 0, .ref ed, .int 0])), (q4, .inr (0, [.int 0, .ref ed, .int 0])), (q7, .inr (0, [.int 0, .ref ed, .int 0])), (q10, .inr (0, [.int 0, .ref ed, .int 0]))] H := hP
  have hD : va_D A [(p1, .inr (1, [.int 0, .int 0, .int 0, .ref q1, .ref q4, .ref q7, .null, .null, .null, .null, .null])), (q1, .inr (0, [.int 0, .ref ed, .int 0])), (q4, .inr (0, [.int 0, .ref ed, .int 0])), (q7, .inr (0, [.int 0, .ref ed, .int 0])), (q10, .inr (0, [.int 0, .ref ed, .int 0]))] := hD
  refine W.widen (k := 4) (n := 12) (by first | exact Nat.le_of_ble_eq_true rfl | omega) (by first | exact Nat.le_of_ble_eq_true rfl | omega) ?_
  refine va_putF (D := (dC, dI)) (ci := 1) (v := .ref q10) (ty := .object "java/util/ArrayList") (C := RX0) (T := TX0) (N := 11) hx hb hts (fun w h => vA_in _ w (in_X0 w h)) tyX0 tyX0_ok nmX0 hown hK hP hD hS 0 rfl rfl 6 (by decide) (hts _ (vA_in _ _ (in_5 _ (zs16 (zs16 (zs0)))))) (fun _ h9 => h9) rfl hin rfl (by decide +kernel) rfl rfl (Nat.le_of_ble_eq_true rfl) dX0_init_45 (fun H locs hP hD hS => ?_)
  have hP : va_P (dC, dI) vwCl [(p1, .inr (1, [.int 0, .int 0, .int 0, .ref q1, .ref q4, .ref q7, .ref q10, .null, .null, .null, .null])), (q1, .inr (0, [.int 0, .ref ed, .int 0])), (q4, .inr (0, [.int 0, .ref ed, .int 0])), (q7, .inr (0, [.int 0, .ref ed, .int 0])), (q10, .inr (0, [.int 0, .ref ed, .int 0]))] H := hP
  have hD : va_D A [(p1, .inr (1, [.int 0, .int 0, .int 0, .ref q1, .ref q4, .ref q7, .ref q10, .null, .null, .null, .null])), (q1, .inr (0, [.int 0, .ref ed, .int 0])), (q4, .inr (0, [.int 0, .ref ed, .int 0])), (q7, .inr (0, [.int 0, .ref ed, .int 0])), (q10, .inr (0, [.int 0, .ref ed, .int 0]))] := hD
  refine lv_aload_n hx hb dX0_init_48 rfl (lv_at hl 0 rfl) ?_
  refine va_new (ci := 0) (fs := [.int 0, .null, .int 0]) (C := RJx4a65c) (T := TJx4a65c) (N := 3) hx hb hts (fun w h => vA_in _ w (in_Jx4a65c w h)) tyJx4a65c tyJx4a65c_ok hown (hts _ (vA_in _ _ (in_5 _ (zs16 (zs4 (zs4 (zs4 (zs1 (zs0))))))))) (hts _ (vA_in _ _ (in_5 _ (zs16 (zs4 (zs4 (zs4 (zs1 (zs1 (zs0)))))))))) (hts _ (vA_in _ _ (in_3 _ (zs16 (zs1 (zs1 (zs0))))))) hK hP hD hS hA rfl (fun j hj => by rcases (show j = 0 ∨ j = 1 ∨ j = 2 by omega) with rfl | rfl | rfl <;> rfl) (Nat.le_of_ble_eq_true rfl) (Nat.le_of_ble_eq_true rfl) dX0_init_49 (fun q13 H hP hD hS => ?_)
  have hP : va_P (dC, dI) vwCl [(p1, .inr (1, [.int 0, .int 0, .int 0, .ref q1, .ref q4, .ref q7, .ref q10, .null, .null, .null, .null])), (q1, .inr (0, [.int 0, .ref ed, .int 0])), (q4, .inr (0, [.int 0, .ref ed, .int 0])), (q7, .inr (0, [.int 0, .ref ed, .int 0])), (q10, .inr (0, [.int 0, .ref ed, .int 0])), (q13, .inr (0, [.int 0, .null, .int 0]))] H := hP
  have hD : va_D A [(p1, .inr (1, [.int 0, .int 0, .int 0, .ref q1, .ref q4, .ref q7, .ref q10, .null, .null, .null, .null])), (q1, .inr (0, [.int 0, .ref ed, .int 0])), (q4, .inr (0, [.int 0, .ref ed, .int 0])), (q7, .inr (0, [.int 0, .ref ed, .int 0])), (q10, .inr (0, [.int 0, .ref ed, .int 0])), (q13, .inr (0, [.int 0, .null, .int 0]))] := hD
  refine W.widen (k := 5) (n := 15) (by first | exact Nat.le_of_ble_eq_true rfl | omega) (by first | exact Nat.le_of_ble_eq_true rfl | omega) ?_
  refine lv_dup hx hb dX0_init_52 rfl ?_
  have hPc := hP.sub (ws' := [(q13, .inr (0, [.int 0, .null, .int 0]))]) [5] rfl
  have hKc := hK.sub (tys' := []) [] rfl
  have hDc := hD.sub (ws' := [(q13, .inr (0, [.int 0, .null, .int 0]))]) [5] (by decide) rfl
  have hFc := va_free (wc := [(q13, .inr (0, [.int 0, .null, .int 0]))]) hD hS hA [5] rfl
  refine va_callv (va_runI (As := []) (rest := [.ref q13, .ref p1]) ⟨hx, hb, hml, hown, hts⟩ (x_ALinit l dC dI q13 ed H.size) (cwI 0 hts (gi_0 (in_4 _ (zs4 (zs1 (zs1 (zs0)))))) rfl rfl rfl (hts _ (vA_in _ _ (in_3 _ (zs16 (zs1 (zs1 (zs0))))))) (hts _ (vA_in _ _ (in_5 _ (zs16 (zs16 (zs1 (zs1 (zs1 (zs0))))))))) (hts _ (vA_in _ _ (in_5 _ (zs16 (zs16 (zs4 (zs0))))))) rfl hz_yJx4a65c_init_da8c8_0 ⟨Nat.le_of_ble_eq_true rfl, Nat.le_of_ble_eq_true rfl⟩) ⟨fun a U g mk q => by obtain ⟨e0, e1, qP, qK, qD, qZ⟩ := q; exact ⟨e0, e1, qP, va_K.moved (u := U) (U := U.calling g mk a) (Vm.Alike.refl U.vm) qK, qD, ub_Z_c qZ⟩, fun U hU hW => ⟨rfl, by rw [hU], by rw [hU]; exact hPc, va_K.moved hW.alike hKc, hDc.weaken (fun _ _ _ _ => trivial), ub_Z_w hU hW hS hFc hZ⟩⟩ rfl rfl hl.1 rfl (lv_room (Nat.le_of_ble_eq_true rfl)) dX0_init_53 ⟨Nat.le_of_ble_eq_true rfl, Nat.le_of_ble_eq_true rfl⟩) hS (fun q _ h => hFc q h) hFc (fun u15 t H1 locs ht hvm hw hB hz1 hk1 hS => ?_)
  obtain ⟨hP1, hK1, hD1⟩ := hB
  rw [ht] at hP1
  obtain ⟨hP, hD⟩ := va_join (wr := [(p1, .inr (1, [.int 0, .int 0, .int 0, .ref q1, .ref q4, .ref q7, .ref q10, .null, .null, .null, .null])), (q1, .inr (0, [.int 0, .ref ed, .int 0])), (q4, .inr (0, [.int 0, .ref ed, .int 0])), (q7, .inr (0, [.int 0, .ref ed, .int 0])), (q10, .inr (0, [.int 0, .ref ed, .int 0]))]) (w1 := [(q13, .inr (0, [.int 0, .ref ed, .int 0]))]) hP hD [5] [0, 1, 2, 3, 4] rfl rfl (by decide) (by decide) hk1 hFc hP1 hD1
  generalize H1 = H at hP hS ⊢
  have hP : va_P (dC, dI) vwCl [(p1, .inr (1, [.int 0, .int 0, .int 0, .ref q1, .ref q4, .ref q7, .ref q10, .null, .null, .null, .null])), (q1, .inr (0, [.int 0, .ref ed, .int 0])), (q4, .inr (0, [.int 0, .ref ed, .int 0])), (q7, .inr (0, [.int 0, .ref ed, .int 0])), (q10, .inr (0, [.int 0, .ref ed, .int 0])), (q13, .inr (0, [.int 0, .ref ed, .int 0]))] H := hP
  have hD : va_D A [(p1, .inr (1, [.int 0, .int 0, .int 0, .ref q1, .ref q4, .ref q7, .ref q10, .null, .null, .null, .null])), (q1, .inr (0, [.int 0, .ref ed, .int 0])), (q4, .inr (0, [.int 0, .ref ed, .int 0])), (q7, .inr (0, [.int 0, .ref ed, .int 0])), (q10, .inr (0, [.int 0, .ref ed, .int 0])), (q13, .inr (0, [.int 0, .ref ed, .int 0]))] := hD
  refine W.widen (k := 5) (n := 15) (by first | exact Nat.le_of_ble_eq_true rfl | omega) (by first | exact Nat.le_of_ble_eq_true rfl | omega) ?_
  refine va_putF (D := (dC, dI)) (ci := 1) (v := .ref q13) (ty := .object "java/util/ArrayList") (C := RX0) (T := TX0) (N := 11) hx hb hts (fun w h => vA_in _ w (in_X0 w h)) tyX0 tyX0_ok nmX0 hown hK hP hD hS 0 rfl rfl 7 (by decide) (hts _ (vA_in _ _ (in_5 _ (zs16 (zs16 (zs1 (zs0))))))) (fun _ h9 => h9) rfl hin rfl (by decide +kernel) rfl rfl (Nat.le_of_ble_eq_true rfl) dX0_init_56 (fun H locs hP hD hS => ?_)
  have hP : va_P (dC, dI) vwCl [(p1, .inr (1, [.int 0, .int 0, .int 0, .ref q1, .ref q4, .ref q7, .ref q10, .ref q13, .null, .null, .null])), (q1, .inr (0, [.int 0, .ref ed, .int 0])), (q4, .inr (0, [.int 0, .ref ed, .int 0])), (q7, .inr (0, [.int 0, .ref ed, .int 0])), (q10, .inr (0, [.int 0, .ref ed, .int 0])), (q13, .inr (0, [.int 0, .ref ed, .int 0]))] H := hP
  have hD : va_D A [(p1, .inr (1, [.int 0, .int 0, .int 0, .ref q1, .ref q4, .ref q7, .ref q10, .ref q13, .null, .null, .null])), (q1, .inr (0, [.int 0, .ref ed, .int 0])), (q4, .inr (0, [.int 0, .ref ed, .int 0])), (q7, .inr (0, [.int 0, .ref ed, .int 0])), (q10, .inr (0, [.int 0, .ref ed, .int 0])), (q13, .inr (0, [.int 0, .ref ed, .int 0]))] := hD
  refine lv_aload_n hx hb dX0_init_59 rfl (lv_at hl 0 rfl) ?_
  refine va_new (ci := 0) (fs := [.int 0, .null, .int 0]) (C := RJx4a65c) (T := TJx4a65c) (N := 3) hx hb hts (fun w h => vA_in _ w (in_Jx4a65c w h)) tyJx4a65c tyJx4a65c_ok hown (hts _ (vA_in _ _ (in_5 _ (zs16 (zs4 (zs4 (zs4 (zs1 (zs0))))))))) (hts _ (vA_in _ _ (in_5 _ (zs16 (zs4 (zs4 (zs4 (zs1 (zs1 (zs0)))))))))) (hts _ (vA_in _ _ (in_3 _ (zs16 (zs1 (zs1 (zs0))))))) hK hP hD hS hA rfl (fun j hj => by rcases (show j = 0 ∨ j = 1 ∨ j = 2 by omega) with rfl | rfl | rfl <;> rfl) (Nat.le_of_ble_eq_true rfl) (Nat.le_of_ble_eq_true rfl) dX0_init_60 (fun q16 H hP hD hS => ?_)
  have hP : va_P (dC, dI) vwCl [(p1, .inr (1, [.int 0, .int 0, .int 0, .ref q1, .ref q4, .ref q7, .ref q10, .ref q13, .null, .null, .null])), (q1, .inr (0, [.int 0, .ref ed, .int 0])), (q4, .inr (0, [.int 0, .ref ed, .int 0])), (q7, .inr (0, [.int 0, .ref ed, .int 0])), (q10, .inr (0, [.int 0, .ref ed, .int 0])), (q13, .inr (0, [.int 0, .ref ed, .int 0])), (q16, .inr (0, [.int 0, .null, .int 0]))] H := hP
  have hD : va_D A [(p1, .inr (1, [.int 0, .int 0, .int 0, .ref q1, .ref q4, .ref q7, .ref q10, .ref q13, .null, .null, .null])), (q1, .inr (0, [.int 0, .ref ed, .int 0])), (q4, .inr (0, [.int 0, .ref ed, .int 0])), (q7, .inr (0, [.int 0, .ref ed, .int 0])), (q10, .inr (0, [.int 0, .ref ed, .int 0])), (q13, .inr (0, [.int 0, .ref ed, .int 0])), (q16, .inr (0, [.int 0, .null, .int 0]))] := hD
  refine W.widen (k := 6) (n := 18) (by first | exact Nat.le_of_ble_eq_true rfl | omega) (by first | exact Nat.le_of_ble_eq_true rfl | omega) ?_
  refine lv_dup hx hb dX0_init_63 rfl ?_
  have hPc := hP.sub (ws' := [(q16, .inr (0, [.int 0, .null, .int 0]))]) [6] rfl
  have hKc := hK.sub (tys' := []) [] rfl
  have hDc := hD.sub (ws' := [(q16, .inr (0, [.int 0, .null, .int 0]))]) [6] (by decide) rfl
  have hFc := va_free (wc := [(q16, .inr (0, [.int 0, .null, .int 0]))]) hD hS hA [6] rfl
  refine va_callv (va_runI (As := []) (rest := [.ref q16, .ref p1]) ⟨hx, hb, hml, hown, hts⟩ (x_ALinit l dC dI q16 ed H.size) (cwI 0 hts (gi_0 (in_4 _ (zs4 (zs1 (zs1 (zs0)))))) rfl rfl rfl (hts _ (vA_in _ _ (in_3 _ (zs16 (zs1 (zs1 (zs0))))))) (hts _ (vA_in _ _ (in_5 _ (zs16 (zs16 (zs1 (zs1 (zs1 (zs0))))))))) (hts _ (vA_in _ _ (in_5 _ (zs16 (zs16 (zs4 (zs0))))))) rfl hz_yJx4a65c_init_da8c8_0 ⟨Nat.le_of_ble_eq_true rfl, Nat.le_of_ble_eq_true rfl⟩) ⟨fun a U g mk q => by obtain ⟨e0, e1, qP, qK, qD, qZ⟩ := q; exact ⟨e0, e1, qP, va_K.moved (u := U) (U := U.calling g mk a) (Vm.Alike.refl U.vm) qK, qD, ub_Z_c qZ⟩, fun U hU hW => ⟨rfl, by rw [hU], by rw [hU]; exact hPc, va_K.moved hW.alike hKc, hDc.weaken (fun _ _ _ _ => trivial), ub_Z_w hU hW hS hFc hZ⟩⟩ rfl rfl hl.1 rfl (lv_room (Nat.le_of_ble_eq_true rfl)) dX0_init_64 ⟨Nat.le_of_ble_eq_true rfl, Nat.le_of_ble_eq_true rfl⟩) hS (fun q _ h => hFc q h) hFc (fun u18 t H1 locs ht hvm hw hB hz1 hk1 hS => ?_)
  obtain ⟨hP1, hK1, hD1⟩ := hB
  rw [ht] at hP1
  obtain ⟨hP, hD⟩ := va_join (wr := [(p1, .inr (1, [.int 0, .int 0, .int 0, .ref q1, .ref q4, .ref q7, .ref q10, .ref q13, .null, .null, .null])), (q1, .inr (0, [.int 0, .ref ed, .int 0])), (q4, .inr (0, [.int 0, .ref ed, .int 0])), (q7, .inr (0, [.int 0, .ref ed, .int 0])), (q10, .inr (0, [.int 0, .ref ed, .int 0])), (q13, .inr (0, [.int 0, .ref ed, .int 0]))]) (w1 := [(q16, .inr (0, [.int 0, .ref ed, .int 0]))]) hP hD [6] [0, 1, 2, 3, 4, 5] rfl rfl (by decide) (by decide) hk1 hFc hP1 hD1
  generalize H1 = H at hP hS ⊢
  have hP : va_P (dC, dI) vwCl [(p1, .inr (1, [.int 0, .int 0, .int 0, .ref q1, .ref q4, .ref q7, .ref q10, .ref q13, .null, .null, .null])), (q1, .inr (0, [.int 0, .ref ed, .int 0])), (q4, .inr (0, [.int 0, .ref ed, .int 0])), (q7, .inr (0, [.int 0, .ref ed, .int 0])), (q10, .inr (0, [.int 0, .ref ed, .int 0])), (q13, .inr (0, [.int 0, .ref ed, .int 0])), (q16, .inr (0, [.int 0, .ref ed, .int 0]))] H := hP
  have hD : va_D A [(p1, .inr (1, [.int 0, .int 0, .int 0, .ref q1, .ref q4, .ref q7, .ref q10, .ref q13, .null, .null, .null])), (q1, .inr (0, [.int 0, .ref ed, .int 0])), (q4, .inr (0, [.int 0, .ref ed, .int 0])), (q7, .inr (0, [.int 0, .ref ed, .int 0])), (q10, .inr (0, [.int 0, .ref ed, .int 0])), (q13, .inr (0, [.int 0, .ref ed, .int 0])), (q16, .inr (0, [.int 0, .ref ed, .int 0]))] := hD
  refine W.widen (k := 6) (n := 18) (by first | exact Nat.le_of_ble_eq_true rfl | omega) (by first | exact Nat.le_of_ble_eq_true rfl | omega) ?_
  refine va_putF (D := (dC, dI)) (ci := 1) (v := .ref q16) (ty := .object "java/util/ArrayList") (C := RX0) (T := TX0) (N := 11) hx hb hts (fun w h => vA_in _ w (in_X0 w h)) tyX0 tyX0_ok nmX0 hown hK hP hD hS 0 rfl rfl 8 (by decide) (hts _ (vA_in _ _ (in_5 _ (zs4 (zs4 (zs0)))))) (fun _ h9 => h9) rfl hin rfl (by decide +kernel) rfl rfl (Nat.le_of_ble_eq_true rfl) dX0_init_67 (fun H locs hP hD hS => ?_)
  have hP : va_P (dC, dI) vwCl [(p1, .inr (1, [.int 0, .int 0, .int 0, .ref q1, .ref q4, .ref q7, .ref q10, .ref q13, .ref q16, .null, .null])), (q1, .inr (0, [.int 0, .ref ed, .int 0])), (q4, .inr (0, [.int 0, .ref ed, .int 0])), (q7, .inr (0, [.int 0, .ref ed, .int 0])), (q10, .inr (0, [.int 0, .ref ed, .int 0])), (q13, .inr (0, [.int 0, .ref ed, .int 0])), (q16, .inr (0, [.int 0, .ref ed, .int 0]))] H := hP
  have hD : va_D A [(p1, .inr (1, [.int 0, .int 0, .int 0, .ref q1, .ref q4, .ref q7, .ref q10, .ref q13, .ref q16, .null, .null])), (q1, .inr (0, [.int 0, .ref ed, .int 0])), (q4, .inr (0, [.int 0, .ref ed, .int 0])), (q7, .inr (0, [.int 0, .ref ed, .int 0])), (q10, .inr (0, [.int 0, .ref ed, .int 0])), (q13, .inr (0, [.int 0, .ref ed, .int 0])), (q16, .inr (0, [.int 0, .ref ed, .int 0]))] := hD
  refine lv_aload_n hx hb dX0_init_70 rfl (lv_at hl 0 rfl) ?_
  obtain ⟨qs, hqR, hQ⟩ := hL
  refine va_ldcS hx hb hown hqR dX0_init_71 ?_
  have hPc := hP.sub (ws' := []) [] rfl
  have hKc := hK.sub (tys' := []) [] rfl
  refine va_calli (va_runV (As := []) (rest := [.ref p1]) ⟨hx, hb, hml, hown, hts⟩ (x_strlen l dC dI qs) (cwV 0 hts (gi_V (in_5 _ (zs16 (zs16 (zs4 (zs1 (zs0)))))) (in_0 _ (zs16 (zs4 (zs1 (zs0))))) (in_0 _ (zs16 (zs4 (zs1 (zs1 (zs0)))))) (in_0 _ (zs4 (zs4 (zs4 (zs1 (zs0)))))) (in_0 _ (zs16 (zs4 (zs1 (zs1 (zs1 (zs0)))))))) rfl rfl rfl ⟨rfl, hz_yJ0_length_8abf5_0⟩ ⟨Nat.le_of_ble_eq_true rfl, Nat.le_of_ble_eq_true rfl⟩) ⟨fun a U g mk q => by obtain ⟨e0, qP, qK, qQ⟩ := q; exact ⟨e0, qP, va_K.moved (u := U) (U := U.calling g mk a) (Vm.Alike.refl U.vm) qK, ub_Q_c qQ⟩, va_Orecv hQ.1 hS, fun U hU hW => ⟨rfl, by rw [hU]; exact hPc, va_K.moved hW.alike hKc, ub_Q_w hU hW hS hQ⟩⟩ rfl rfl hl.1 rfl (lv_room (Nat.le_of_ble_eq_true rfl)) dX0_init_73 ⟨Nat.le_of_ble_eq_true rfl, Nat.le_of_ble_eq_true rfl⟩) hS (fun _ _ h => h.elim) (fun _ h => h.elim) (fun r19 u20 t H1 locs ht hvm hw hB hz1 hk1 hS => ?_)
  have hP := ub_keep hP hk1
  generalize H1 = H at hP hS ⊢
  obtain rfl : (14 : Int32) = r19 := hw.symm
  refine va_newa (atype := .int) (ty := .int) (N' := 14) (a0 := (14, .inl (fun _ => (0 : Int32)))) hx hb (hts _ (vA_in _ _ (in_2 _ (zs16 (zs16 (zs4 (zs1 (zs1 (zs0))))))))) rfl hK hP hD hS hA (fun _ => rfl) (by decide) (by decide) (Nat.le_of_ble_eq_true rfl) (Nat.le_of_ble_eq_true rfl) (Nat.le_of_ble_eq_true rfl) dX0_init_76 (fun q21 kq21 H hK hP hD hS => ?_)
  have hK : va_K (dC, dI) vwCl [(kq21, .int)] s := hK
  have hP : va_P (dC, dI) vwCl [(p1, .inr (1, [.int 0, .int 0, .int 0, .ref q1, .ref q4, .ref q7, .ref q10, .ref q13, .ref q16, .null, .null])), (q1, .inr (0, [.int 0, .ref ed, .int 0])), (q4, .inr (0, [.int 0, .ref ed, .int 0])), (q7, .inr (0, [.int 0, .ref ed, .int 0])), (q10, .inr (0, [.int 0, .ref ed, .int 0])), (q13, .inr (0, [.int 0, .ref ed, .int 0])), (q16, .inr (0, [.int 0, .ref ed, .int 0])), (q21, .inl (kq21, 14, .inl (fun _ => (0 : Int32))))] H := hP
  have hD : va_D A [(p1, .inr (1, [.int 0, .int 0, .int 0, .ref q1, .ref q4, .ref q7, .ref q10, .ref q13, .ref q16, .null, .null])), (q1, .inr (0, [.int 0, .ref ed, .int 0])), (q4, .inr (0, [.int 0, .ref ed, .int 0])), (q7, .inr (0, [.int 0, .ref ed, .int 0])), (q10, .inr (0, [.int 0, .ref ed, .int 0])), (q13, .inr (0, [.int 0, .ref ed, .int 0])), (q16, .inr (0, [.int 0, .ref ed, .int 0])), (q21, .inl (kq21, 14, .inl (fun _ => (0 : Int32))))] := hD
  refine W.widen (k := 7) (n := 32) (by first | exact Nat.le_of_ble_eq_true rfl | omega) (by first | exact Nat.le_of_ble_eq_true rfl | omega) ?_
  refine va_putF (D := (dC, dI)) (ci := 1) (v := .ref q21) (ty := .array .int) (C := RX0) (T := TX0) (N := 11) hx hb hts (fun w h => vA_in _ w (in_X0 w h)) tyX0 tyX0_ok nmX0 hown hK hP hD hS 0 rfl rfl 9 (by decide) (hts _ (vA_in _ _ (in_5 _ (zs16 (zs4 (zs4 (zs0))))))) (fun _ h9 => h9) rfl hin rfl (by decide +kernel) rfl rfl (Nat.le_of_ble_eq_true rfl) dX0_init_78 (fun H locs hP hD hS => ?_)
  have hP : va_P (dC, dI) vwCl [(p1, .inr (1, [.int 0, .int 0, .int 0, .ref q1, .ref q4, .ref q7, .ref q10, .ref q13, .ref q16, .ref q21, .null])), (q1, .inr (0, [.int 0, .ref ed, .int 0])), (q4, .inr (0, [.int 0, .ref ed, .int 0])), (q7, .inr (0, [.int 0, .ref ed, .int 0])), (q10, .inr (0, [.int 0, .ref ed, .int 0])), (q13, .inr (0, [.int 0, .ref ed, .int 0])), (q16, .inr (0, [.int 0, .ref ed, .int 0])), (q21, .inl (kq21, 14, .inl (fun _ => (0 : Int32))))] H := hP
  have hD : va_D A [(p1, .inr (1, [.int 0, .int 0, .int 0, .ref q1, .ref q4, .ref q7, .ref q10, .ref q13, .ref q16, .ref q21, .null])), (q1, .inr (0, [.int 0, .ref ed, .int 0])), (q4, .inr (0, [.int 0, .ref ed, .int 0])), (q7, .inr (0, [.int 0, .ref ed, .int 0])), (q10, .inr (0, [.int 0, .ref ed, .int 0])), (q13, .inr (0, [.int 0, .ref ed, .int 0])), (q16, .inr (0, [.int 0, .ref ed, .int 0])), (q21, .inl (kq21, 14, .inl (fun _ => (0 : Int32))))] := hD
  refine lv_aload_n hx hb dX0_init_81 rfl (lv_at hl 0 rfl) ?_
  refine lv_sipush (v := 200) hx hb dX0_init_82 (by decide) ?_
  refine va_newa (atype := .int) (ty := .int) (N' := 200) (a0 := (200, .inl (fun _ => (0 : Int32)))) hx hb (hts _ (vA_in _ _ (in_2 _ (zs16 (zs16 (zs4 (zs1 (zs1 (zs0))))))))) rfl hK hP hD hS hA (fun _ => rfl) (by decide) (by decide) (Nat.le_of_ble_eq_true rfl) (Nat.le_of_ble_eq_true rfl) (Nat.le_of_ble_eq_true rfl) dX0_init_85 (fun q22 kq22 H hK hP hD hS => ?_)
  have hK : va_K (dC, dI) vwCl [(kq21, .int), (kq22, .int)] s := hK
  have hP : va_P (dC, dI) vwCl [(p1, .inr (1, [.int 0, .int 0, .int 0, .ref q1, .ref q4, .ref q7, .ref q10, .ref q13, .ref q16, .ref q21, .null])), (q1, .inr (0, [.int 0, .ref ed, .int 0])), (q4, .inr (0, [.int 0, .ref ed, .int 0])), (q7, .inr (0, [.int 0, .ref ed, .int 0])), (q10, .inr (0, [.int 0, .ref ed, .int 0])), (q13, .inr (0, [.int 0, .ref ed, .int 0])), (q16, .inr (0, [.int 0, .ref ed, .int 0])), (q21, .inl (kq21, 14, .inl (fun _ => (0 : Int32)))), (q22, .inl (kq22, 200, .inl (fun _ => (0 : Int32))))] H := hP
  have hD : va_D A [(p1, .inr (1, [.int 0, .int 0, .int 0, .ref q1, .ref q4, .ref q7, .ref q10, .ref q13, .ref q16, .ref q21, .null])), (q1, .inr (0, [.int 0, .ref ed, .int 0])), (q4, .inr (0, [.int 0, .ref ed, .int 0])), (q7, .inr (0, [.int 0, .ref ed, .int 0])), (q10, .inr (0, [.int 0, .ref ed, .int 0])), (q13, .inr (0, [.int 0, .ref ed, .int 0])), (q16, .inr (0, [.int 0, .ref ed, .int 0])), (q21, .inl (kq21, 14, .inl (fun _ => (0 : Int32)))), (q22, .inl (kq22, 200, .inl (fun _ => (0 : Int32))))] := hD
  refine W.widen (k := 8) (n := 232) (by first | exact Nat.le_of_ble_eq_true rfl | omega) (by first | exact Nat.le_of_ble_eq_true rfl | omega) ?_
  obtain rfl : kq21 = kq22 := ub_sa_int hK 0 1 rfl rfl
  have hK := hK.sub (tys' := [(kq21, .int)]) [0] rfl
  refine va_putF (D := (dC, dI)) (ci := 1) (v := .ref q22) (ty := .array .int) (C := RX0) (T := TX0) (N := 11) hx hb hts (fun w h => vA_in _ w (in_X0 w h)) tyX0 tyX0_ok nmX0 hown hK hP hD hS 0 rfl rfl 10 (by decide) (hts _ (vA_in _ _ (in_5 _ (zs16 (zs16 (zs1 (zs1 (zs0)))))))) (fun _ h9 => h9) rfl hin rfl (by decide +kernel) rfl rfl (Nat.le_of_ble_eq_true rfl) dX0_init_87 (fun H locs hP hD hS => ?_)
  have hP : va_P (dC, dI) vwCl [(p1, .inr (1, [.int 0, .int 0, .int 0, .ref q1, .ref q4, .ref q7, .ref q10, .ref q13, .ref q16, .ref q21, .ref q22])), (q1, .inr (0, [.int 0, .ref ed, .int 0])), (q4, .inr (0, [.int 0, .ref ed, .int 0])), (q7, .inr (0, [.int 0, .ref ed, .int 0])), (q10, .inr (0, [.int 0, .ref ed, .int 0])), (q13, .inr (0, [.int 0, .ref ed, .int 0])), (q16, .inr (0, [.int 0, .ref ed, .int 0])), (q21, .inl (kq21, 14, .inl (fun _ => (0 : Int32)))), (q22, .inl (kq21, 200, .inl (fun _ => (0 : Int32))))] H := hP
  have hD : va_D A [(p1, .inr (1, [.int 0, .int 0, .int 0, .ref q1, .ref q4, .ref q7, .ref q10, .ref q13, .ref q16, .ref q21, .ref q22])), (q1, .inr (0, [.int 0, .ref ed, .int 0])), (q4, .inr (0, [.int 0, .ref ed, .int 0])), (q7, .inr (0, [.int 0, .ref ed, .int 0])), (q10, .inr (0, [.int 0, .ref ed, .int 0])), (q13, .inr (0, [.int 0, .ref ed, .int 0])), (q16, .inr (0, [.int 0, .ref ed, .int 0])), (q21, .inl (kq21, 14, .inl (fun _ => (0 : Int32)))), (q22, .inl (kq21, 200, .inl (fun _ => (0 : Int32))))] := hD
  have hP9 := hP.sub (ws' := [(p1, .inr (1, [.int 0, .int 0, .int 0, .ref q1, .ref q4, .ref q7, .ref q10, .ref q13, .ref q16, .ref q21, .ref q22])), (q1, .inr (0, [.int 0, .ref ed, .int 0])), (q4, .inr (0, [.int 0, .ref ed, .int 0])), (q7, .inr (0, [.int 0, .ref ed, .int 0])), (q10, .inr (0, [.int 0, .ref ed, .int 0])), (q13, .inr (0, [.int 0, .ref ed, .int 0])), (q16, .inr (0, [.int 0, .ref ed, .int 0])), (q21, .inl (kq21, 14, .inl (fun _ => (0 : Int32)))), (q22, .inl (kq21, 200, .inl (fun _ => (0 : Int32))))]) [0, 1, 2, 3, 4, 5, 6, 7, 8] rfl
  have hD9 := hD.sub (ws' := [(p1, .inr (1, [.int 0, .int 0, .int 0, .ref q1, .ref q4, .ref q7, .ref q10, .ref q13, .ref q16, .ref q21, .ref q22])), (q1, .inr (0, [.int 0, .ref ed, .int 0])), (q4, .inr (0, [.int 0, .ref ed, .int 0])), (q7, .inr (0, [.int 0, .ref ed, .int 0])), (q10, .inr (0, [.int 0, .ref ed, .int 0])), (q13, .inr (0, [.int 0, .ref ed, .int 0])), (q16, .inr (0, [.int 0, .ref ed, .int 0])), (q21, .inl (kq21, 14, .inl (fun _ => (0 : Int32)))), (q22, .inl (kq21, 200, .inl (fun _ => (0 : Int32))))]) [0, 1, 2, 3, 4, 5, 6, 7, 8] (by decide) rfl
  have hK9 := hK.sub (tys' := [(kq21, .int)]) [0] rfl
  exact W.vret hx hb hr (fun t ht hW => ⟨⟨(q1, q4, q7, q10, q13, q16, q21, q22, kq21), rfl, trivial, (by rw [ht]; exact hP9), va_K.moved hW.alike hK9, hD9⟩, hS.F ht⟩) hS.2.2 dX0_init_90
def v_x_TapeI : List Cond := .code yX10_init cX10_init 1 none :: vA
set_option maxHeartbeats 4000000 in
set_option maxRecDepth 100000 in
theorem x_TapeI (l : Launch) (dC : Nat → ClassId) (dI : Nat → Nat → Nat) (p2 : Nat) (sz : Nat)  : Met l yX10_init v_x_TapeI ({ frames := 1, cells := 5, slots := 554, locals := 40 }) (va_Pc [.ref p2] (fun U => U.heap.size = sz ∧ va_P (dC, dI) vwCl [(p2, .inr (11, [.null, .int 0, .int 0, .int 0, .null, .int 0, .null, .null, .null, .int 0]))] U.heap ∧ va_K (dC, dI) vwCl [] U ∧ va_D (fun _ => True) [(p2, .inr (11, [.null, .int 0, .int 0, .int 0, .null, .int 0, .null, .null, .null, .int 0]))])) (va_Qv (S := Nat × Nat × Nat × Nat × Nat × ClassId) (fun _ => True) (fun u t => match u with | (p21, p22, p23, p24, p25, cI) => va_P (dC, dI) vwCl [(p2, .inr (11, [.ref p21, .int 0, .int 0, .int 0, .ref p22, .int 0, .ref p23, .ref p24, .ref p25, .int 0])), (p21, .inl (cI, 200, .inl ((fun _ => (0 : Int32))))), (p22, .inl (cI, 200, .inl ((fun _ => (0 : Int32))))), (p23, .inl (cI, 51, .inl ((fun _ => (0 : Int32))))), (p24, .inl (cI, 52, .inl ((fun _ => (0 : Int32))))), (p25, .inl (cI, 51, .inl ((fun _ => (0 : Int32)))))] t.heap ∧ va_K (dC, dI) vwCl [(cI, .int)] t ∧ va_D (va_A [(p2, .inr (11, [.null, .int 0, .int 0, .int 0, .null, .int 0, .null, .null, .null, .int 0]))] sz) [(p2, .inr (11, [.ref p21, .int 0, .int 0, .int 0, .ref p22, .int 0, .ref p23, .ref p24, .ref p25, .int 0])), (p21, .inl (cI, 200, .inl ((fun _ => (0 : Int32))))), (p22, .inl (cI, 200, .inl ((fun _ => (0 : Int32))))), (p23, .inl (cI, 51, .inl ((fun _ => (0 : Int32))))), (p24, .inl (cI, 52, .inl ((fun _ => (0 : Int32))))), (p25, .inl (cI, 51, .inl ((fun _ => (0 : Int32)))))]) (va_A [(p2, .inr (11, [.null, .int 0, .int 0, .int 0, .null, .int 0, .null, .null, .null, .int 0]))] sz)) 5 554 (va_A [(p2, .inr (11, [.null, .int 0, .int 0, .int 0, .null, .int 0, .null, .null, .null, .int 0]))] sz) := by
  refine Met.ofW (cc := cX10_init) (maxL := 1) (ret := none) (by decide) rfl ?_
  intro p e s m args below meth c s₁ B hml hv
  obtain ⟨rfl, hsz, hP, hK, hD0⟩ := hv
  have hx := B.exec
  have hb := B.bytes
  have hr := B.returns
  have hts := atoms_spec (ws := v_x_TapeI) B.pre
  have hown : s.vm.findClass RX10 = some m.cls := findClass_of_methodNamed B.named
  have hlocks := B.notSynchronized
  have hin : meth.name = "<init>" := (name_of_methodNamed B.named B.method).1
  subst hsz
  have hD := hD0.self (sz := s.heap.size)
  generalize hAe : va_A [(p2, .inr (11, [.null, .int 0, .int 0, .int 0, .null, .int 0, .null, .null, .null, .int 0]))] s.heap.size = A at hD ⊢
  have hA : ∀ q : Nat, s.heap.size ≤ q → A q := fun q h => by rw [← hAe]; exact Or.inr h
  have hS : va_S A s.heap s.heap [] := va_S.rf
  have hP : va_P (dC, dI) vwCl [(p2, .inr (11, [.null, .int 0, .int 0, .int 0, .null, .int 0, .null, .null, .null, .int 0]))] s.heap := hP
  have hl := lv_entry ([.ref p2]) (n := 1) (Nat.le_of_ble_eq_true rfl)
  rw [lg_entry_eq]
  generalize (lg_sl ([.ref p2]) ++ List.replicate (1 - (lg_sl ([.ref p2])).length) Slot.unset).toArray = ls at hl ⊢
  have hl : lv_has ls 1 [(0, .ref p2)] := hl
  refine lv_aload_n hx hb dX10_init_0 rfl (lv_at hl 0 rfl) ?_
  refine W.objInit hx hb hown (hts _ (vA_in _ _ (in_8 _ (zs16 (zs0))))) (hts _ (vA_in _ _ (in_4 _ (zs16 (zs1 (zs0)))))) (hts _ (vA_in _ _ (in_4 _ (zs16 (zs1 (zs1 (zs0))))))) rfl (by rw [hml]; exact hl.1) rfl dX10_init_1 (Nat.le_of_ble_eq_true rfl) (Nat.le_of_ble_eq_true rfl) ?_
  refine W.eq (g2 := F0 m 4 ls []) rfl ?_
  refine lv_aload_n hx hb dX10_init_4 rfl (lv_at hl 0 rfl) ?_
  refine lv_sipush (v := 200) hx hb dX10_init_5 (by decide) ?_
  refine va_newa (atype := .int) (ty := .int) (N' := 200) (a0 := (200, .inl (fun _ => (0 : Int32)))) hx hb (hts _ (vA_in _ _ (in_2 _ (zs16 (zs16 (zs4 (zs1 (zs1 (zs0))))))))) rfl hK hP hD hS hA (fun _ => rfl) (by decide) (by decide) (Nat.le_of_ble_eq_true rfl) (Nat.le_of_ble_eq_true rfl) (Nat.le_of_ble_eq_true rfl) dX10_init_8 (fun q1 kq1 H hK hP hD hS => ?_)
  have hK : va_K (dC, dI) vwCl [(kq1, .int)] s := hK
  have hP : va_P (dC, dI) vwCl [(p2, .inr (11, [.null, .int 0, .int 0, .int 0, .null, .int 0, .null, .null, .null, .int 0])), (q1, .inl (kq1, 200, .inl (fun _ => (0 : Int32))))] H := hP
  have hD : va_D A [(p2, .inr (11, [.null, .int 0, .int 0, .int 0, .null, .int 0, .null, .null, .null, .int 0])), (q1, .inl (kq1, 200, .inl (fun _ => (0 : Int32))))] := hD
  refine W.widen (k := 1) (n := 200) (by first | exact Nat.le_of_ble_eq_true rfl | omega) (by first | exact Nat.le_of_ble_eq_true rfl | omega) ?_
  refine va_putF (D := (dC, dI)) (ci := 11) (v := .ref q1) (ty := .array .int) (C := RX10) (T := TX10) (N := 10) hx hb hts (fun w h => vA_in _ w (in_X10 w h)) tyX10 tyX10_ok nmX10 hown hK hP hD hS 0 rfl rfl 0 (by decide) (hts _ (vA_in _ _ (in_8 _ (zs16 (zs1 (zs0)))))) (fun _ h9 => h9) rfl hin rfl (by decide +kernel) rfl rfl (Nat.le_of_ble_eq_true rfl) dX10_init_10 (fun H locs hP hD hS => ?_)
  have hP : va_P (dC, dI) vwCl [(p2, .inr (11, [.ref q1, .int 0, .int 0, .int 0, .null, .int 0, .null, .null, .null, .int 0])), (q1, .inl (kq1, 200, .inl (fun _ => (0 : Int32))))] H := hP
  have hD : va_D A [(p2, .inr (11, [.ref q1, .int 0, .int 0, .int 0, .null, .int 0, .null, .null, .null, .int 0])), (q1, .inl (kq1, 200, .inl (fun _ => (0 : Int32))))] := hD
  refine lv_aload_n hx hb dX10_init_13 rfl (lv_at hl 0 rfl) ?_
  refine lv_sipush (v := 200) hx hb dX10_init_14 (by decide) ?_
  refine va_newa (atype := .int) (ty := .int) (N' := 200) (a0 := (200, .inl (fun _ => (0 : Int32)))) hx hb (hts _ (vA_in _ _ (in_2 _ (zs16 (zs16 (zs4 (zs1 (zs1 (zs0))))))))) rfl hK hP hD hS hA (fun _ => rfl) (by decide) (by decide) (Nat.le_of_ble_eq_true rfl) (Nat.le_of_ble_eq_true rfl) (Nat.le_of_ble_eq_true rfl) dX10_init_17 (fun q2 kq2 H hK hP hD hS => ?_)
  have hK : va_K (dC, dI) vwCl [(kq1, .int), (kq2, .int)] s := hK
  have hP : va_P (dC, dI) vwCl [(p2, .inr (11, [.ref q1, .int 0, .int 0, .int 0, .null, .int 0, .null, .null, .null, .int 0])), (q1, .inl (kq1, 200, .inl (fun _ => (0 : Int32)))), (q2, .inl (kq2, 200, .inl (fun _ => (0 : Int32))))] H := hP
  have hD : va_D A [(p2, .inr (11, [.ref q1, .int 0, .int 0, .int 0, .null, .int 0, .null, .null, .null, .int 0])), (q1, .inl (kq1, 200, .inl (fun _ => (0 : Int32)))), (q2, .inl (kq2, 200, .inl (fun _ => (0 : Int32))))] := hD
  refine W.widen (k := 2) (n := 400) (by first | exact Nat.le_of_ble_eq_true rfl | omega) (by first | exact Nat.le_of_ble_eq_true rfl | omega) ?_
  obtain rfl : kq1 = kq2 := ub_sa_int hK 0 1 rfl rfl
  have hK := hK.sub (tys' := [(kq1, .int)]) [0] rfl
  refine va_putF (D := (dC, dI)) (ci := 11) (v := .ref q2) (ty := .array .int) (C := RX10) (T := TX10) (N := 10) hx hb hts (fun w h => vA_in _ w (in_X10 w h)) tyX10 tyX10_ok nmX10 hown hK hP hD hS 0 rfl rfl 4 (by decide) (hts _ (vA_in _ _ (in_7 _ (zs16 (zs4 (zs4 (zs4 (zs1 (zs1 (zs1 (zs0))))))))))) (fun _ h9 => h9) rfl hin rfl (by decide +kernel) rfl rfl (Nat.le_of_ble_eq_true rfl) dX10_init_19 (fun H locs hP hD hS => ?_)
  have hP : va_P (dC, dI) vwCl [(p2, .inr (11, [.ref q1, .int 0, .int 0, .int 0, .ref q2, .int 0, .null, .null, .null, .int 0])), (q1, .inl (kq1, 200, .inl (fun _ => (0 : Int32)))), (q2, .inl (kq1, 200, .inl (fun _ => (0 : Int32))))] H := hP
  have hD : va_D A [(p2, .inr (11, [.ref q1, .int 0, .int 0, .int 0, .ref q2, .int 0, .null, .null, .null, .int 0])), (q1, .inl (kq1, 200, .inl (fun _ => (0 : Int32)))), (q2, .inl (kq1, 200, .inl (fun _ => (0 : Int32))))] := hD
  refine lv_aload_n hx hb dX10_init_22 rfl (lv_at hl 0 rfl) ?_
  refine lv_bipush (v := 51) hx hb dX10_init_23 (by decide) ?_
  refine va_newa (atype := .int) (ty := .int) (N' := 51) (a0 := (51, .inl (fun _ => (0 : Int32)))) hx hb (hts _ (vA_in _ _ (in_2 _ (zs16 (zs16 (zs4 (zs1 (zs1 (zs0))))))))) rfl hK hP hD hS hA (fun _ => rfl) (by decide) (by decide) (Nat.le_of_ble_eq_true rfl) (Nat.le_of_ble_eq_true rfl) (Nat.le_of_ble_eq_true rfl) dX10_init_25 (fun q3 kq3 H hK hP hD hS => ?_)
  have hK : va_K (dC, dI) vwCl [(kq1, .int), (kq3, .int)] s := hK
  have hP : va_P (dC, dI) vwCl [(p2, .inr (11, [.ref q1, .int 0, .int 0, .int 0, .ref q2, .int 0, .null, .null, .null, .int 0])), (q1, .inl (kq1, 200, .inl (fun _ => (0 : Int32)))), (q2, .inl (kq1, 200, .inl (fun _ => (0 : Int32)))), (q3, .inl (kq3, 51, .inl (fun _ => (0 : Int32))))] H := hP
  have hD : va_D A [(p2, .inr (11, [.ref q1, .int 0, .int 0, .int 0, .ref q2, .int 0, .null, .null, .null, .int 0])), (q1, .inl (kq1, 200, .inl (fun _ => (0 : Int32)))), (q2, .inl (kq1, 200, .inl (fun _ => (0 : Int32)))), (q3, .inl (kq3, 51, .inl (fun _ => (0 : Int32))))] := hD
  refine W.widen (k := 3) (n := 451) (by first | exact Nat.le_of_ble_eq_true rfl | omega) (by first | exact Nat.le_of_ble_eq_true rfl | omega) ?_
  obtain rfl : kq1 = kq3 := ub_sa_int hK 0 1 rfl rfl
  have hK := hK.sub (tys' := [(kq1, .int)]) [0] rfl
  refine va_putF (D := (dC, dI)) (ci := 11) (v := .ref q3) (ty := .array .int) (C := RX10) (T := TX10) (N := 10) hx hb hts (fun w h => vA_in _ w (in_X10 w h)) tyX10 tyX10_ok nmX10 hown hK hP hD hS 0 rfl rfl 6 (by decide) (hts _ (vA_in _ _ (in_7 _ (zs16 (zs16 (zs1 (zs1 (zs1 (zs0))))))))) (fun _ h9 => h9) rfl hin rfl (by decide +kernel) rfl rfl (Nat.le_of_ble_eq_true rfl) dX10_init_27 (fun H locs hP hD hS => ?_)
  have hP : va_P (dC, dI) vwCl [(p2, .inr (11, [.ref q1, .int 0, .int 0, .int 0, .ref q2, .int 0, .ref q3, .null, .null, .int 0])), (q1, .inl (kq1, 200, .inl (fun _ => (0 : Int32)))), (q2, .inl (kq1, 200, .inl (fun _ => (0 : Int32)))), (q3, .inl (kq1, 51, .inl (fun _ => (0 : Int32))))] H := hP
  have hD : va_D A [(p2, .inr (11, [.ref q1, .int 0, .int 0, .int 0, .ref q2, .int 0, .ref q3, .null, .null, .int 0])), (q1, .inl (kq1, 200, .inl (fun _ => (0 : Int32)))), (q2, .inl (kq1, 200, .inl (fun _ => (0 : Int32)))), (q3, .inl (kq1, 51, .inl (fun _ => (0 : Int32))))] := hD
  refine lv_aload_n hx hb dX10_init_30 rfl (lv_at hl 0 rfl) ?_
  refine lv_bipush (v := 52) hx hb dX10_init_31 (by decide) ?_
  refine va_newa (atype := .int) (ty := .int) (N' := 52) (a0 := (52, .inl (fun _ => (0 : Int32)))) hx hb (hts _ (vA_in _ _ (in_2 _ (zs16 (zs16 (zs4 (zs1 (zs1 (zs0))))))))) rfl hK hP hD hS hA (fun _ => rfl) (by decide) (by decide) (Nat.le_of_ble_eq_true rfl) (Nat.le_of_ble_eq_true rfl) (Nat.le_of_ble_eq_true rfl) dX10_init_33 (fun q4 kq4 H hK hP hD hS => ?_)
  have hK : va_K (dC, dI) vwCl [(kq1, .int), (kq4, .int)] s := hK
  have hP : va_P (dC, dI) vwCl [(p2, .inr (11, [.ref q1, .int 0, .int 0, .int 0, .ref q2, .int 0, .ref q3, .null, .null, .int 0])), (q1, .inl (kq1, 200, .inl (fun _ => (0 : Int32)))), (q2, .inl (kq1, 200, .inl (fun _ => (0 : Int32)))), (q3, .inl (kq1, 51, .inl (fun _ => (0 : Int32)))), (q4, .inl (kq4, 52, .inl (fun _ => (0 : Int32))))] H := hP
  have hD : va_D A [(p2, .inr (11, [.ref q1, .int 0, .int 0, .int 0, .ref q2, .int 0, .ref q3, .null, .null, .int 0])), (q1, .inl (kq1, 200, .inl (fun _ => (0 : Int32)))), (q2, .inl (kq1, 200, .inl (fun _ => (0 : Int32)))), (q3, .inl (kq1, 51, .inl (fun _ => (0 : Int32)))), (q4, .inl (kq4, 52, .inl (fun _ => (0 : Int32))))] := hD
  refine W.widen (k := 4) (n := 503) (by first | exact Nat.le_of_ble_eq_true rfl | omega) (by first | exact Nat.le_of_ble_eq_true rfl | omega) ?_
  obtain rfl : kq1 = kq4 := ub_sa_int hK 0 1 rfl rfl
  have hK := hK.sub (tys' := [(kq1, .int)]) [0] rfl
  refine va_putF (D := (dC, dI)) (ci := 11) (v := .ref q4) (ty := .array .int) (C := RX10) (T := TX10) (N := 10) hx hb hts (fun w h => vA_in _ w (in_X10 w h)) tyX10 tyX10_ok nmX10 hown hK hP hD hS 0 rfl rfl 7 (by decide) (hts _ (vA_in _ _ (in_7 _ (zs16 (zs16 (zs4 (zs1 (zs0)))))))) (fun _ h9 => h9) rfl hin rfl (by decide +kernel) rfl rfl (Nat.le_of_ble_eq_true rfl) dX10_init_35 (fun H locs hP hD hS => ?_)
  have hP : va_P (dC, dI) vwCl [(p2, .inr (11, [.ref q1, .int 0, .int 0, .int 0, .ref q2, .int 0, .ref q3, .ref q4, .null, .int 0])), (q1, .inl (kq1, 200, .inl (fun _ => (0 : Int32)))), (q2, .inl (kq1, 200, .inl (fun _ => (0 : Int32)))), (q3, .inl (kq1, 51, .inl (fun _ => (0 : Int32)))), (q4, .inl (kq1, 52, .inl (fun _ => (0 : Int32))))] H := hP
  have hD : va_D A [(p2, .inr (11, [.ref q1, .int 0, .int 0, .int 0, .ref q2, .int 0, .ref q3, .ref q4, .null, .int 0])), (q1, .inl (kq1, 200, .inl (fun _ => (0 : Int32)))), (q2, .inl (kq1, 200, .inl (fun _ => (0 : Int32)))), (q3, .inl (kq1, 51, .inl (fun _ => (0 : Int32)))), (q4, .inl (kq1, 52, .inl (fun _ => (0 : Int32))))] := hD
  refine lv_aload_n hx hb dX10_init_38 rfl (lv_at hl 0 rfl) ?_
  refine lv_bipush (v := 51) hx hb dX10_init_39 (by decide) ?_
  refine va_newa (atype := .int) (ty := .int) (N' := 51) (a0 := (51, .inl (fun _ => (0 : Int32)))) hx hb (hts _ (vA_in _ _ (in_2 _ (zs16 (zs16 (zs4 (zs1 (zs1 (zs0))))))))) rfl hK hP hD hS hA (fun _ => rfl) (by decide) (by decide) (Nat.le_of_ble_eq_true rfl) (Nat.le_of_ble_eq_true rfl) (Nat.le_of_ble_eq_true rfl) dX10_init_41 (fun q5 kq5 H hK hP hD hS => ?_)
  have hK : va_K (dC, dI) vwCl [(kq1, .int), (kq5, .int)] s := hK
  have hP : va_P (dC, dI) vwCl [(p2, .inr (11, [.ref q1, .int 0, .int 0, .int 0, .ref q2, .int 0, .ref q3, .ref q4, .null, .int 0])), (q1, .inl (kq1, 200, .inl (fun _ => (0 : Int32)))), (q2, .inl (kq1, 200, .inl (fun _ => (0 : Int32)))), (q3, .inl (kq1, 51, .inl (fun _ => (0 : Int32)))), (q4, .inl (kq1, 52, .inl (fun _ => (0 : Int32)))), (q5, .inl (kq5, 51, .inl (fun _ => (0 : Int32))))] H := hP
  have hD : va_D A [(p2, .inr (11, [.ref q1, .int 0, .int 0, .int 0, .ref q2, .int 0, .ref q3, .ref q4, .null, .int 0])), (q1, .inl (kq1, 200, .inl (fun _ => (0 : Int32)))), (q2, .inl (kq1, 200, .inl (fun _ => (0 : Int32)))), (q3, .inl (kq1, 51, .inl (fun _ => (0 : Int32)))), (q4, .inl (kq1, 52, .inl (fun _ => (0 : Int32)))), (q5, .inl (kq5, 51, .inl (fun _ => (0 : Int32))))] := hD
  refine W.widen (k := 5) (n := 554) (by first | exact Nat.le_of_ble_eq_true rfl | omega) (by first | exact Nat.le_of_ble_eq_true rfl | omega) ?_
  obtain rfl : kq1 = kq5 := ub_sa_int hK 0 1 rfl rfl
  have hK := hK.sub (tys' := [(kq1, .int)]) [0] rfl
  refine va_putF (D := (dC, dI)) (ci := 11) (v := .ref q5) (ty := .array .int) (C := RX10) (T := TX10) (N := 10) hx hb hts (fun w h => vA_in _ w (in_X10 w h)) tyX10 tyX10_ok nmX10 hown hK hP hD hS 0 rfl rfl 8 (by decide) (hts _ (vA_in _ _ (in_7 _ (zs16 (zs16 (zs4 (zs1 (zs1 (zs0))))))))) (fun _ h9 => h9) rfl hin rfl (by decide +kernel) rfl rfl (Nat.le_of_ble_eq_true rfl) dX10_init_43 (fun H locs hP hD hS => ?_)
  have hP : va_P (dC, dI) vwCl [(p2, .inr (11, [.ref q1, .int 0, .int 0, .int 0, .ref q2, .int 0, .ref q3, .ref q4, .ref q5, .int 0])), (q1, .inl (kq1, 200, .inl (fun _ => (0 : Int32)))), (q2, .inl (kq1, 200, .inl (fun _ => (0 : Int32)))), (q3, .inl (kq1, 51, .inl (fun _ => (0 : Int32)))), (q4, .inl (kq1, 52, .inl (fun _ => (0 : Int32)))), (q5, .inl (kq1, 51, .inl (fun _ => (0 : Int32))))] H := hP
  have hD : va_D A [(p2, .inr (11, [.ref q1, .int 0, .int 0, .int 0, .ref q2, .int 0, .ref q3, .ref q4, .ref q5, .int 0])), (q1, .inl (kq1, 200, .inl (fun _ => (0 : Int32)))), (q2, .inl (kq1, 200, .inl (fun _ => (0 : Int32)))), (q3, .inl (kq1, 51, .inl (fun _ => (0 : Int32)))), (q4, .inl (kq1, 52, .inl (fun _ => (0 : Int32)))), (q5, .inl (kq1, 51, .inl (fun _ => (0 : Int32))))] := hD
  have hP9 := hP.sub (ws' := [(p2, .inr (11, [.ref q1, .int 0, .int 0, .int 0, .ref q2, .int 0, .ref q3, .ref q4, .ref q5, .int 0])), (q1, .inl (kq1, 200, .inl (fun _ => (0 : Int32)))), (q2, .inl (kq1, 200, .inl (fun _ => (0 : Int32)))), (q3, .inl (kq1, 51, .inl (fun _ => (0 : Int32)))), (q4, .inl (kq1, 52, .inl (fun _ => (0 : Int32)))), (q5, .inl (kq1, 51, .inl (fun _ => (0 : Int32))))]) [0, 1, 2, 3, 4, 5] rfl
  have hD9 := hD.sub (ws' := [(p2, .inr (11, [.ref q1, .int 0, .int 0, .int 0, .ref q2, .int 0, .ref q3, .ref q4, .ref q5, .int 0])), (q1, .inl (kq1, 200, .inl (fun _ => (0 : Int32)))), (q2, .inl (kq1, 200, .inl (fun _ => (0 : Int32)))), (q3, .inl (kq1, 51, .inl (fun _ => (0 : Int32)))), (q4, .inl (kq1, 52, .inl (fun _ => (0 : Int32)))), (q5, .inl (kq1, 51, .inl (fun _ => (0 : Int32))))]) [0, 1, 2, 3, 4, 5] (by decide) rfl
  have hK9 := hK.sub (tys' := [(kq1, .int)]) [0] rfl
  exact W.vret hx hb hr (fun t ht hW => ⟨⟨(q1, q2, q3, q4, q5, kq1), rfl, trivial, (by rw [ht]; exact hP9), va_K.moved hW.alike hK9, hD9⟩, hS.F ht⟩) hS.2.2 dX10_init_46
def v_x_SheetI : List Cond := .code yX9_init cX9_init 2 none :: vA
set_option maxHeartbeats 4000000 in
set_option maxRecDepth 100000 in
theorem x_SheetI (l : Launch) (dC : Nat → ClassId) (dI : Nat → Nat → Nat) (p3 : Nat) (p1 : Nat) (sz : Nat)  : Met l yX9_init v_x_SheetI ({ frames := 1, cells := 5, slots := 80, locals := 40 }) (va_Pc [.ref p3, .ref p1] (fun U => U.heap.size = sz ∧ va_P (dC, dI) vwCl [(p3, .inr (10, [.null, .null, .null, .null, .null, .null, .int 0, .int 0, .int 0]))] U.heap ∧ va_K (dC, dI) vwCl [] U ∧ va_D (fun _ => True) [(p3, .inr (10, [.null, .null, .null, .null, .null, .null, .int 0, .int 0, .int 0]))])) (va_Qv (S := Nat × Nat × Nat × Nat × Nat × ClassId) (fun _ => True) (fun u t => match u with | (p26, p27, p28, p29, p30, cI) => va_P (dC, dI) vwCl [(p3, .inr (10, [.ref p1, .ref p26, .ref p27, .ref p28, .ref p29, .ref p30, .int 0, .int 0, .int 0])), (p26, .inl (cI, 16, .inl ((fun _ => (0 : Int32))))), (p27, .inl (cI, 16, .inl ((fun _ => (0 : Int32))))), (p28, .inl (cI, 16, .inl ((fun _ => (0 : Int32))))), (p29, .inl (cI, 16, .inl ((fun _ => (0 : Int32))))), (p30, .inl (cI, 16, .inl ((fun _ => (0 : Int32)))))] t.heap ∧ va_K (dC, dI) vwCl [(cI, .int)] t ∧ va_D (va_A [(p3, .inr (10, [.null, .null, .null, .null, .null, .null, .int 0, .int 0, .int 0]))] sz) [(p3, .inr (10, [.ref p1, .ref p26, .ref p27, .ref p28, .ref p29, .ref p30, .int 0, .int 0, .int 0])), (p26, .inl (cI, 16, .inl ((fun _ => (0 : Int32))))), (p27, .inl (cI, 16, .inl ((fun _ => (0 : Int32))))), (p28, .inl (cI, 16, .inl ((fun _ => (0 : Int32))))), (p29, .inl (cI, 16, .inl ((fun _ => (0 : Int32))))), (p30, .inl (cI, 16, .inl ((fun _ => (0 : Int32)))))]) (va_A [(p3, .inr (10, [.null, .null, .null, .null, .null, .null, .int 0, .int 0, .int 0]))] sz)) 5 80 (va_A [(p3, .inr (10, [.null, .null, .null, .null, .null, .null, .int 0, .int 0, .int 0]))] sz) := by
  refine Met.ofW (cc := cX9_init) (maxL := 2) (ret := none) (by decide) rfl ?_
  intro p e s m args below meth c s₁ B hml hv
  obtain ⟨rfl, hsz, hP, hK, hD0⟩ := hv
  have hx := B.exec
  have hb := B.bytes
  have hr := B.returns
  have hts := atoms_spec (ws := v_x_SheetI) B.pre
  have hown : s.vm.findClass RX9 = some m.cls := findClass_of_methodNamed B.named
  have hlocks := B.notSynchronized
  have hin : meth.name = "<init>" := (name_of_methodNamed B.named B.method).1
  subst hsz
  have hD := hD0.self (sz := s.heap.size)
  generalize hAe : va_A [(p3, .inr (10, [.null, .null, .null, .null, .null, .null, .int 0, .int 0, .int 0]))] s.heap.size = A at hD ⊢
  have hA : ∀ q : Nat, s.heap.size ≤ q → A q := fun q h => by rw [← hAe]; exact Or.inr h
  have hS : va_S A s.heap s.heap [] := va_S.rf
  have hP : va_P (dC, dI) vwCl [(p3, .inr (10, [.null, .null, .null, .null, .null, .null, .int 0, .int 0, .int 0]))] s.heap := hP
  have hl := lv_entry ([.ref p3, .ref p1]) (n := 2) (Nat.le_of_ble_eq_true rfl)
  rw [lg_entry_eq]
  generalize (lg_sl ([.ref p3, .ref p1]) ++ List.replicate (2 - (lg_sl ([.ref p3, .ref p1])).length) Slot.unset).toArray = ls at hl ⊢
  have hl : lv_has ls 2 [(0, .ref p3), (1, .ref p1)] := hl
  refine lv_aload_n hx hb dX9_init_0 rfl (lv_at hl 0 rfl) ?_
  refine W.objInit hx hb hown (hts _ (vA_in _ _ (in_19 _ (zs1 (zs1 (zs1 (zs0))))))) (hts _ (vA_in _ _ (in_4 _ (zs16 (zs1 (zs0)))))) (hts _ (vA_in _ _ (in_4 _ (zs16 (zs1 (zs1 (zs0))))))) rfl (by rw [hml]; exact hl.1) rfl dX9_init_1 (Nat.le_of_ble_eq_true rfl) (Nat.le_of_ble_eq_true rfl) ?_
  refine W.eq (g2 := F0 m 4 ls []) rfl ?_
  refine lv_aload_n hx hb dX9_init_4 rfl (lv_at hl 0 rfl) ?_
  refine lv_bipush (v := 16) hx hb dX9_init_5 (by decide) ?_
  refine va_newa (atype := .int) (ty := .int) (N' := 16) (a0 := (16, .inl (fun _ => (0 : Int32)))) hx hb (hts _ (vA_in _ _ (in_2 _ (zs16 (zs16 (zs4 (zs1 (zs1 (zs0))))))))) rfl hK hP hD hS hA (fun _ => rfl) (by decide) (by decide) (Nat.le_of_ble_eq_true rfl) (Nat.le_of_ble_eq_true rfl) (Nat.le_of_ble_eq_true rfl) dX9_init_7 (fun q1 kq1 H hK hP hD hS => ?_)
  have hK : va_K (dC, dI) vwCl [(kq1, .int)] s := hK
  have hP : va_P (dC, dI) vwCl [(p3, .inr (10, [.null, .null, .null, .null, .null, .null, .int 0, .int 0, .int 0])), (q1, .inl (kq1, 16, .inl (fun _ => (0 : Int32))))] H := hP
  have hD : va_D A [(p3, .inr (10, [.null, .null, .null, .null, .null, .null, .int 0, .int 0, .int 0])), (q1, .inl (kq1, 16, .inl (fun _ => (0 : Int32))))] := hD
  refine W.widen (k := 1) (n := 16) (by first | exact Nat.le_of_ble_eq_true rfl | omega) (by first | exact Nat.le_of_ble_eq_true rfl | omega) ?_
  refine va_putF (D := (dC, dI)) (ci := 10) (v := .ref q1) (ty := .array .int) (C := RX9) (T := TX9) (N := 9) hx hb hts (fun w h => vA_in _ w (in_X9 w h)) tyX9 tyX9_ok nmX9 hown hK hP hD hS 0 rfl rfl 1 (by decide) (hts _ (vA_in _ _ (in_12 _ (zs4 (zs1 (zs1 (zs0))))))) (fun _ h9 => h9) rfl hin rfl (by decide +kernel) rfl rfl (Nat.le_of_ble_eq_true rfl) dX9_init_9 (fun H locs hP hD hS => ?_)
  have hP : va_P (dC, dI) vwCl [(p3, .inr (10, [.null, .ref q1, .null, .null, .null, .null, .int 0, .int 0, .int 0])), (q1, .inl (kq1, 16, .inl (fun _ => (0 : Int32))))] H := hP
  have hD : va_D A [(p3, .inr (10, [.null, .ref q1, .null, .null, .null, .null, .int 0, .int 0, .int 0])), (q1, .inl (kq1, 16, .inl (fun _ => (0 : Int32))))] := hD
  refine lv_aload_n hx hb dX9_init_12 rfl (lv_at hl 0 rfl) ?_
  refine lv_bipush (v := 16) hx hb dX9_init_13 (by decide) ?_
  refine va_newa (atype := .int) (ty := .int) (N' := 16) (a0 := (16, .inl (fun _ => (0 : Int32)))) hx hb (hts _ (vA_in _ _ (in_2 _ (zs16 (zs16 (zs4 (zs1 (zs1 (zs0))))))))) rfl hK hP hD hS hA (fun _ => rfl) (by decide) (by decide) (Nat.le_of_ble_eq_true rfl) (Nat.le_of_ble_eq_true rfl) (Nat.le_of_ble_eq_true rfl) dX9_init_15 (fun q2 kq2 H hK hP hD hS => ?_)
  have hK : va_K (dC, dI) vwCl [(kq1, .int), (kq2, .int)] s := hK
  have hP : va_P (dC, dI) vwCl [(p3, .inr (10, [.null, .ref q1, .null, .null, .null, .null, .int 0, .int 0, .int 0])), (q1, .inl (kq1, 16, .inl (fun _ => (0 : Int32)))), (q2, .inl (kq2, 16, .inl (fun _ => (0 : Int32))))] H := hP
  have hD : va_D A [(p3, .inr (10, [.null, .ref q1, .null, .null, .null, .null, .int 0, .int 0, .int 0])), (q1, .inl (kq1, 16, .inl (fun _ => (0 : Int32)))), (q2, .inl (kq2, 16, .inl (fun _ => (0 : Int32))))] := hD
  refine W.widen (k := 2) (n := 32) (by first | exact Nat.le_of_ble_eq_true rfl | omega) (by first | exact Nat.le_of_ble_eq_true rfl | omega) ?_
  obtain rfl : kq1 = kq2 := ub_sa_int hK 0 1 rfl rfl
  have hK := hK.sub (tys' := [(kq1, .int)]) [0] rfl
  refine va_putF (D := (dC, dI)) (ci := 10) (v := .ref q2) (ty := .array .int) (C := RX9) (T := TX9) (N := 9) hx hb hts (fun w h => vA_in _ w (in_X9 w h)) tyX9 tyX9_ok nmX9 hown hK hP hD hS 0 rfl rfl 2 (by decide) (hts _ (vA_in _ _ (in_12 _ (zs4 (zs4 (zs1 (zs1 (zs0)))))))) (fun _ h9 => h9) rfl hin rfl (by decide +kernel) rfl rfl (Nat.le_of_ble_eq_true rfl) dX9_init_17 (fun H locs hP hD hS => ?_)
  have hP : va_P (dC, dI) vwCl [(p3, .inr (10, [.null, .ref q1, .ref q2, .null, .null, .null, .int 0, .int 0, .int 0])), (q1, .inl (kq1, 16, .inl (fun _ => (0 : Int32)))), (q2, .inl (kq1, 16, .inl (fun _ => (0 : Int32))))] H := hP
  have hD : va_D A [(p3, .inr (10, [.null, .ref q1, .ref q2, .null, .null, .null, .int 0, .int 0, .int 0])), (q1, .inl (kq1, 16, .inl (fun _ => (0 : Int32)))), (q2, .inl (kq1, 16, .inl (fun _ => (0 : Int32))))] := hD
  refine lv_aload_n hx hb dX9_init_20 rfl (lv_at hl 0 rfl) ?_
  refine lv_bipush (v := 16) hx hb dX9_init_21 (by decide) ?_
  refine va_newa (atype := .int) (ty := .int) (N' := 16) (a0 := (16, .inl (fun _ => (0 : Int32)))) hx hb (hts _ (vA_in _ _ (in_2 _ (zs16 (zs16 (zs4 (zs1 (zs1 (zs0))))))))) rfl hK hP hD hS hA (fun _ => rfl) (by decide) (by decide) (Nat.le_of_ble_eq_true rfl) (Nat.le_of_ble_eq_true rfl) (Nat.le_of_ble_eq_true rfl) dX9_init_23 (fun q3 kq3 H hK hP hD hS => ?_)
  have hK : va_K (dC, dI) vwCl [(kq1, .int), (kq3, .int)] s := hK
  have hP : va_P (dC, dI) vwCl [(p3, .inr (10, [.null, .ref q1, .ref q2, .null, .null, .null, .int 0, .int 0, .int 0])), (q1, .inl (kq1, 16, .inl (fun _ => (0 : Int32)))), (q2, .inl (kq1, 16, .inl (fun _ => (0 : Int32)))), (q3, .inl (kq3, 16, .inl (fun _ => (0 : Int32))))] H := hP
  have hD : va_D A [(p3, .inr (10, [.null, .ref q1, .ref q2, .null, .null, .null, .int 0, .int 0, .int 0])), (q1, .inl (kq1, 16, .inl (fun _ => (0 : Int32)))), (q2, .inl (kq1, 16, .inl (fun _ => (0 : Int32)))), (q3, .inl (kq3, 16, .inl (fun _ => (0 : Int32))))] := hD
  refine W.widen (k := 3) (n := 48) (by first | exact Nat.le_of_ble_eq_true rfl | omega) (by first | exact Nat.le_of_ble_eq_true rfl | omega) ?_
  obtain rfl : kq1 = kq3 := ub_sa_int hK 0 1 rfl rfl
  have hK := hK.sub (tys' := [(kq1, .int)]) [0] rfl
  refine va_putF (D := (dC, dI)) (ci := 10) (v := .ref q3) (ty := .array .int) (C := RX9) (T := TX9) (N := 9) hx hb hts (fun w h => vA_in _ w (in_X9 w h)) tyX9 tyX9_ok nmX9 hown hK hP hD hS 0 rfl rfl 3 (by decide) (hts _ (vA_in _ _ (in_12 _ (zs4 (zs1 (zs1 (zs1 (zs0)))))))) (fun _ h9 => h9) rfl hin rfl (by decide +kernel) rfl rfl (Nat.le_of_ble_eq_true rfl) dX9_init_25 (fun H locs hP hD hS => ?_)
  have hP : va_P (dC, dI) vwCl [(p3, .inr (10, [.null, .ref q1, .ref q2, .ref q3, .null, .null, .int 0, .int 0, .int 0])), (q1, .inl (kq1, 16, .inl (fun _ => (0 : Int32)))), (q2, .inl (kq1, 16, .inl (fun _ => (0 : Int32)))), (q3, .inl (kq1, 16, .inl (fun _ => (0 : Int32))))] H := hP
  have hD : va_D A [(p3, .inr (10, [.null, .ref q1, .ref q2, .ref q3, .null, .null, .int 0, .int 0, .int 0])), (q1, .inl (kq1, 16, .inl (fun _ => (0 : Int32)))), (q2, .inl (kq1, 16, .inl (fun _ => (0 : Int32)))), (q3, .inl (kq1, 16, .inl (fun _ => (0 : Int32))))] := hD
  refine lv_aload_n hx hb dX9_init_28 rfl (lv_at hl 0 rfl) ?_
  refine lv_bipush (v := 16) hx hb dX9_init_29 (by decide) ?_
  refine va_newa (atype := .int) (ty := .int) (N' := 16) (a0 := (16, .inl (fun _ => (0 : Int32)))) hx hb (hts _ (vA_in _ _ (in_2 _ (zs16 (zs16 (zs4 (zs1 (zs1 (zs0))))))))) rfl hK hP hD hS hA (fun _ => rfl) (by decide) (by decide) (Nat.le_of_ble_eq_true rfl) (Nat.le_of_ble_eq_true rfl) (Nat.le_of_ble_eq_true rfl) dX9_init_31 (fun q4 kq4 H hK hP hD hS => ?_)
  have hK : va_K (dC, dI) vwCl [(kq1, .int), (kq4, .int)] s := hK
  have hP : va_P (dC, dI) vwCl [(p3, .inr (10, [.null, .ref q1, .ref q2, .ref q3, .null, .null, .int 0, .int 0, .int 0])), (q1, .inl (kq1, 16, .inl (fun _ => (0 : Int32)))), (q2, .inl (kq1, 16, .inl (fun _ => (0 : Int32)))), (q3, .inl (kq1, 16, .inl (fun _ => (0 : Int32)))), (q4, .inl (kq4, 16, .inl (fun _ => (0 : Int32))))] H := hP
  have hD : va_D A [(p3, .inr (10, [.null, .ref q1, .ref q2, .ref q3, .null, .null, .int 0, .int 0, .int 0])), (q1, .inl (kq1, 16, .inl (fun _ => (0 : Int32)))), (q2, .inl (kq1, 16, .inl (fun _ => (0 : Int32)))), (q3, .inl (kq1, 16, .inl (fun _ => (0 : Int32)))), (q4, .inl (kq4, 16, .inl (fun _ => (0 : Int32))))] := hD
  refine W.widen (k := 4) (n := 64) (by first | exact Nat.le_of_ble_eq_true rfl | omega) (by first | exact Nat.le_of_ble_eq_true rfl | omega) ?_
  obtain rfl : kq1 = kq4 := ub_sa_int hK 0 1 rfl rfl
  have hK := hK.sub (tys' := [(kq1, .int)]) [0] rfl
  refine va_putF (D := (dC, dI)) (ci := 10) (v := .ref q4) (ty := .array .int) (C := RX9) (T := TX9) (N := 9) hx hb hts (fun w h => vA_in _ w (in_X9 w h)) tyX9 tyX9_ok nmX9 hown hK hP hD hS 0 rfl rfl 4 (by decide) (hts _ (vA_in _ _ (in_12 _ (zs4 (zs4 (zs0)))))) (fun _ h9 => h9) rfl hin rfl (by decide +kernel) rfl rfl (Nat.le_of_ble_eq_true rfl) dX9_init_33 (fun H locs hP hD hS => ?_)
  have hP : va_P (dC, dI) vwCl [(p3, .inr (10, [.null, .ref q1, .ref q2, .ref q3, .ref q4, .null, .int 0, .int 0, .int 0])), (q1, .inl (kq1, 16, .inl (fun _ => (0 : Int32)))), (q2, .inl (kq1, 16, .inl (fun _ => (0 : Int32)))), (q3, .inl (kq1, 16, .inl (fun _ => (0 : Int32)))), (q4, .inl (kq1, 16, .inl (fun _ => (0 : Int32))))] H := hP
  have hD : va_D A [(p3, .inr (10, [.null, .ref q1, .ref q2, .ref q3, .ref q4, .null, .int 0, .int 0, .int 0])), (q1, .inl (kq1, 16, .inl (fun _ => (0 : Int32)))), (q2, .inl (kq1, 16, .inl (fun _ => (0 : Int32)))), (q3, .inl (kq1, 16, .inl (fun _ => (0 : Int32)))), (q4, .inl (kq1, 16, .inl (fun _ => (0 : Int32))))] := hD
  refine lv_aload_n hx hb dX9_init_36 rfl (lv_at hl 0 rfl) ?_
  refine lv_bipush (v := 16) hx hb dX9_init_37 (by decide) ?_
  refine va_newa (atype := .int) (ty := .int) (N' := 16) (a0 := (16, .inl (fun _ => (0 : Int32)))) hx hb (hts _ (vA_in _ _ (in_2 _ (zs16 (zs16 (zs4 (zs1 (zs1 (zs0))))))))) rfl hK hP hD hS hA (fun _ => rfl) (by decide) (by decide) (Nat.le_of_ble_eq_true rfl) (Nat.le_of_ble_eq_true rfl) (Nat.le_of_ble_eq_true rfl) dX9_init_39 (fun q5 kq5 H hK hP hD hS => ?_)
  have hK : va_K (dC, dI) vwCl [(kq1, .int), (kq5, .int)] s := hK
  have hP : va_P (dC, dI) vwCl [(p3, .inr (10, [.null, .ref q1, .ref q2, .ref q3, .ref q4, .null, .int 0, .int 0, .int 0])), (q1, .inl (kq1, 16, .inl (fun _ => (0 : Int32)))), (q2, .inl (kq1, 16, .inl (fun _ => (0 : Int32)))), (q3, .inl (kq1, 16, .inl (fun _ => (0 : Int32)))), (q4, .inl (kq1, 16, .inl (fun _ => (0 : Int32)))), (q5, .inl (kq5, 16, .inl (fun _ => (0 : Int32))))] H := hP
  have hD : va_D A [(p3, .inr (10, [.null, .ref q1, .ref q2, .ref q3, .ref q4, .null, .int 0, .int 0, .int 0])), (q1, .inl (kq1, 16, .inl (fun _ => (0 : Int32)))), (q2, .inl (kq1, 16, .inl (fun _ => (0 : Int32)))), (q3, .inl (kq1, 16, .inl (fun _ => (0 : Int32)))), (q4, .inl (kq1, 16, .inl (fun _ => (0 : Int32)))), (q5, .inl (kq5, 16, .inl (fun _ => (0 : Int32))))] := hD
  refine W.widen (k := 5) (n := 80) (by first | exact Nat.le_of_ble_eq_true rfl | omega) (by first | exact Nat.le_of_ble_eq_true rfl | omega) ?_
  obtain rfl : kq1 = kq5 := ub_sa_int hK 0 1 rfl rfl
  have hK := hK.sub (tys' := [(kq1, .int)]) [0] rfl
  refine va_putF (D := (dC, dI)) (ci := 10) (v := .ref q5) (ty := .array .int) (C := RX9) (T := TX9) (N := 9) hx hb hts (fun w h => vA_in _ w (in_X9 w h)) tyX9 tyX9_ok nmX9 hown hK hP hD hS 0 rfl rfl 5 (by decide) (hts _ (vA_in _ _ (in_12 _ (zs4 (zs4 (zs4 (zs0))))))) (fun _ h9 => h9) rfl hin rfl (by decide +kernel) rfl rfl (Nat.le_of_ble_eq_true rfl) dX9_init_41 (fun H locs hP hD hS => ?_)
  have hP : va_P (dC, dI) vwCl [(p3, .inr (10, [.null, .ref q1, .ref q2, .ref q3, .ref q4, .ref q5, .int 0, .int 0, .int 0])), (q1, .inl (kq1, 16, .inl (fun _ => (0 : Int32)))), (q2, .inl (kq1, 16, .inl (fun _ => (0 : Int32)))), (q3, .inl (kq1, 16, .inl (fun _ => (0 : Int32)))), (q4, .inl (kq1, 16, .inl (fun _ => (0 : Int32)))), (q5, .inl (kq1, 16, .inl (fun _ => (0 : Int32))))] H := hP
  have hD : va_D A [(p3, .inr (10, [.null, .ref q1, .ref q2, .ref q3, .ref q4, .ref q5, .int 0, .int 0, .int 0])), (q1, .inl (kq1, 16, .inl (fun _ => (0 : Int32)))), (q2, .inl (kq1, 16, .inl (fun _ => (0 : Int32)))), (q3, .inl (kq1, 16, .inl (fun _ => (0 : Int32)))), (q4, .inl (kq1, 16, .inl (fun _ => (0 : Int32)))), (q5, .inl (kq1, 16, .inl (fun _ => (0 : Int32))))] := hD
  refine lv_aload_n hx hb dX9_init_44 rfl (lv_at hl 0 rfl) ?_
  refine lv_aload_n hx hb dX9_init_45 rfl (lv_at hl 1 rfl) ?_
  refine va_putF (D := (dC, dI)) (ci := 10) (v := .ref p1) (ty := .object "UnlikeBoats$Book") (C := RX9) (T := TX9) (N := 9) hx hb hts (fun w h => vA_in _ w (in_X9 w h)) tyX9 tyX9_ok nmX9 hown hK hP hD hS 0 rfl rfl 0 (by decide) (hts _ (vA_in _ _ (in_11 _ (zs16 (zs16 (zs4 (zs1 (zs1 (zs1 (zs0)))))))))) (fun _ h9 => h9) rfl hin rfl (by decide +kernel) rfl rfl (Nat.le_of_ble_eq_true rfl) dX9_init_46 (fun H locs hP hD hS => ?_)
  have hP : va_P (dC, dI) vwCl [(p3, .inr (10, [.ref p1, .ref q1, .ref q2, .ref q3, .ref q4, .ref q5, .int 0, .int 0, .int 0])), (q1, .inl (kq1, 16, .inl (fun _ => (0 : Int32)))), (q2, .inl (kq1, 16, .inl (fun _ => (0 : Int32)))), (q3, .inl (kq1, 16, .inl (fun _ => (0 : Int32)))), (q4, .inl (kq1, 16, .inl (fun _ => (0 : Int32)))), (q5, .inl (kq1, 16, .inl (fun _ => (0 : Int32))))] H := hP
  have hD : va_D A [(p3, .inr (10, [.ref p1, .ref q1, .ref q2, .ref q3, .ref q4, .ref q5, .int 0, .int 0, .int 0])), (q1, .inl (kq1, 16, .inl (fun _ => (0 : Int32)))), (q2, .inl (kq1, 16, .inl (fun _ => (0 : Int32)))), (q3, .inl (kq1, 16, .inl (fun _ => (0 : Int32)))), (q4, .inl (kq1, 16, .inl (fun _ => (0 : Int32)))), (q5, .inl (kq1, 16, .inl (fun _ => (0 : Int32))))] := hD
  have hP9 := hP.sub (ws' := [(p3, .inr (10, [.ref p1, .ref q1, .ref q2, .ref q3, .ref q4, .ref q5, .int 0, .int 0, .int 0])), (q1, .inl (kq1, 16, .inl (fun _ => (0 : Int32)))), (q2, .inl (kq1, 16, .inl (fun _ => (0 : Int32)))), (q3, .inl (kq1, 16, .inl (fun _ => (0 : Int32)))), (q4, .inl (kq1, 16, .inl (fun _ => (0 : Int32)))), (q5, .inl (kq1, 16, .inl (fun _ => (0 : Int32))))]) [0, 1, 2, 3, 4, 5] rfl
  have hD9 := hD.sub (ws' := [(p3, .inr (10, [.ref p1, .ref q1, .ref q2, .ref q3, .ref q4, .ref q5, .int 0, .int 0, .int 0])), (q1, .inl (kq1, 16, .inl (fun _ => (0 : Int32)))), (q2, .inl (kq1, 16, .inl (fun _ => (0 : Int32)))), (q3, .inl (kq1, 16, .inl (fun _ => (0 : Int32)))), (q4, .inl (kq1, 16, .inl (fun _ => (0 : Int32)))), (q5, .inl (kq1, 16, .inl (fun _ => (0 : Int32))))]) [0, 1, 2, 3, 4, 5] (by decide) rfl
  have hK9 := hK.sub (tys' := [(kq1, .int)]) [0] rfl
  exact W.vret hx hb hr (fun t ht hW => ⟨⟨(q1, q2, q3, q4, q5, kq1), rfl, trivial, (by rw [ht]; exact hP9), va_K.moved hW.alike hK9, hD9⟩, hS.F ht⟩) hS.2.2 dX9_init_49
def v_x_ScoresI : List Cond := .code yX8_init cX8_init 3 none :: vA
set_option maxHeartbeats 4000000 in
set_option maxRecDepth 100000 in
theorem x_ScoresI (l : Launch) (dC : Nat → ClassId) (dI : Nat → Nat → Nat) (p4 : Nat) (p1 : Nat) (p3 : Nat) (sz : Nat)  : Met l yX8_init v_x_ScoresI ({ frames := 1, cells := 7, slots := 1032, locals := 40 }) (va_Pc [.ref p4, .ref p1, .ref p3] (fun U => U.heap.size = sz ∧ va_P (dC, dI) vwCl [(p4, .inr (9, [.null, .null, .int 0, .null, .null, .null, .null, .null, .null, .null]))] U.heap ∧ va_K (dC, dI) vwCl [] U ∧ va_D (fun _ => True) [(p4, .inr (9, [.null, .null, .int 0, .null, .null, .null, .null, .null, .null, .null]))])) (va_Qv (S := Nat × Nat × Nat × Nat × Nat × Nat × Nat × ClassId × ClassId) (fun _ => True) (fun u t => match u with | (p31, p32, p33, p34, p35, p36, p37, cI, cZ) => va_P (dC, dI) vwCl [(p4, .inr (9, [.ref p1, .ref p3, .int 0, .ref p31, .ref p32, .ref p33, .ref p34, .ref p35, .ref p36, .ref p37])), (p31, .inl (cI, 320, .inl ((fun _ => (0 : Int32))))), (p32, .inl (cI, 320, .inl ((fun _ => (0 : Int32))))), (p33, .inl (cZ, 320, .inl ((fun _ => (0 : Int32))))), (p34, .inl (cZ, 16, .inl ((fun _ => (0 : Int32))))), (p35, .inl (cI, 16, .inl ((fun _ => (0 : Int32))))), (p36, .inl (cI, 20, .inl ((fun _ => (0 : Int32))))), (p37, .inl (cI, 20, .inl ((fun _ => (0 : Int32)))))] t.heap ∧ va_K (dC, dI) vwCl [(cI, .int), (cZ, .boolean)] t ∧ va_D (va_A [(p4, .inr (9, [.null, .null, .int 0, .null, .null, .null, .null, .null, .null, .null]))] sz) [(p4, .inr (9, [.ref p1, .ref p3, .int 0, .ref p31, .ref p32, .ref p33, .ref p34, .ref p35, .ref p36, .ref p37])), (p31, .inl (cI, 320, .inl ((fun _ => (0 : Int32))))), (p32, .inl (cI, 320, .inl ((fun _ => (0 : Int32))))), (p33, .inl (cZ, 320, .inl ((fun _ => (0 : Int32))))), (p34, .inl (cZ, 16, .inl ((fun _ => (0 : Int32))))), (p35, .inl (cI, 16, .inl ((fun _ => (0 : Int32))))), (p36, .inl (cI, 20, .inl ((fun _ => (0 : Int32))))), (p37, .inl (cI, 20, .inl ((fun _ => (0 : Int32)))))]) (va_A [(p4, .inr (9, [.null, .null, .int 0, .null, .null, .null, .null, .null, .null, .null]))] sz)) 7 1032 (va_A [(p4, .inr (9, [.null, .null, .int 0, .null, .null, .null, .null, .null, .null, .null]))] sz) := by
  refine Met.ofW (cc := cX8_init) (maxL := 3) (ret := none) (by decide) rfl ?_
  intro p e s m args below meth c s₁ B hml hv
  obtain ⟨rfl, hsz, hP, hK, hD0⟩ := hv
  have hx := B.exec
  have hb := B.bytes
  have hr := B.returns
  have hts := atoms_spec (ws := v_x_ScoresI) B.pre
  have hown : s.vm.findClass RX8 = some m.cls := findClass_of_methodNamed B.named
  have hlocks := B.notSynchronized
  have hin : meth.name = "<init>" := (name_of_methodNamed B.named B.method).1
  subst hsz
  have hD := hD0.self (sz := s.heap.size)
  generalize hAe : va_A [(p4, .inr (9, [.null, .null, .int 0, .null, .null, .null, .null, .null, .null, .null]))] s.heap.size = A at hD ⊢
  have hA : ∀ q : Nat, s.heap.size ≤ q → A q := fun q h => by rw [← hAe]; exact Or.inr h
  have hS : va_S A s.heap s.heap [] := va_S.rf
  have hP : va_P (dC, dI) vwCl [(p4, .inr (9, [.null, .null, .int 0, .null, .null, .null, .null, .null, .null, .null]))] s.heap := hP
  have hl := lv_entry ([.ref p4, .ref p1, .ref p3]) (n := 3) (Nat.le_of_ble_eq_true rfl)
  rw [lg_entry_eq]
  generalize (lg_sl ([.ref p4, .ref p1, .ref p3]) ++ List.replicate (3 - (lg_sl ([.ref p4, .ref p1, .ref p3])).length) Slot.unset).toArray = ls at hl ⊢
  have hl : lv_has ls 3 [(0, .ref p4), (1, .ref p1), (2, .ref p3)] := hl
  refine lv_aload_n hx hb dX8_init_0 rfl (lv_at hl 0 rfl) ?_
  refine W.objInit hx hb hown (hts _ (vA_in _ _ (in_19 _ (zs4 (zs1 (zs1 (zs1 (zs0)))))))) (hts _ (vA_in _ _ (in_4 _ (zs16 (zs1 (zs0)))))) (hts _ (vA_in _ _ (in_4 _ (zs16 (zs1 (zs1 (zs0))))))) rfl (by rw [hml]; exact hl.1) rfl dX8_init_1 (Nat.le_of_ble_eq_true rfl) (Nat.le_of_ble_eq_true rfl) ?_
  refine W.eq (g2 := F0 m 4 ls []) rfl ?_
  refine lv_aload_n hx hb dX8_init_4 rfl (lv_at hl 0 rfl) ?_
  refine lv_sipush (v := 320) hx hb dX8_init_5 (by decide) ?_
  refine va_newa (atype := .int) (ty := .int) (N' := 320) (a0 := (320, .inl (fun _ => (0 : Int32)))) hx hb (hts _ (vA_in _ _ (in_2 _ (zs16 (zs16 (zs4 (zs1 (zs1 (zs0))))))))) rfl hK hP hD hS hA (fun _ => rfl) (by decide) (by decide) (Nat.le_of_ble_eq_true rfl) (Nat.le_of_ble_eq_true rfl) (Nat.le_of_ble_eq_true rfl) dX8_init_8 (fun q1 kq1 H hK hP hD hS => ?_)
  have hK : va_K (dC, dI) vwCl [(kq1, .int)] s := hK
  have hP : va_P (dC, dI) vwCl [(p4, .inr (9, [.null, .null, .int 0, .null, .null, .null, .null, .null, .null, .null])), (q1, .inl (kq1, 320, .inl (fun _ => (0 : Int32))))] H := hP
  have hD : va_D A [(p4, .inr (9, [.null, .null, .int 0, .null, .null, .null, .null, .null, .null, .null])), (q1, .inl (kq1, 320, .inl (fun _ => (0 : Int32))))] := hD
  refine W.widen (k := 1) (n := 320) (by first | exact Nat.le_of_ble_eq_true rfl | omega) (by first | exact Nat.le_of_ble_eq_true rfl | omega) ?_
  refine va_putF (D := (dC, dI)) (ci := 9) (v := .ref q1) (ty := .array .int) (C := RX8) (T := TX8) (N := 10) hx hb hts (fun w h => vA_in _ w (in_X8 w h)) tyX8 tyX8_ok nmX8 hown hK hP hD hS 0 rfl rfl 3 (by decide) (hts _ (vA_in _ _ (in_19 _ (zs4 (zs4 (zs0)))))) (fun _ h9 => h9) rfl hin rfl (by decide +kernel) rfl rfl (Nat.le_of_ble_eq_true rfl) dX8_init_10 (fun H locs hP hD hS => ?_)
  have hP : va_P (dC, dI) vwCl [(p4, .inr (9, [.null, .null, .int 0, .ref q1, .null, .null, .null, .null, .null, .null])), (q1, .inl (kq1, 320, .inl (fun _ => (0 : Int32))))] H := hP
  have hD : va_D A [(p4, .inr (9, [.null, .null, .int 0, .ref q1, .null, .null, .null, .null, .null, .null])), (q1, .inl (kq1, 320, .inl (fun _ => (0 : Int32))))] := hD
  refine lv_aload_n hx hb dX8_init_13 rfl (lv_at hl 0 rfl) ?_
  refine lv_sipush (v := 320) hx hb dX8_init_14 (by decide) ?_
  refine va_newa (atype := .int) (ty := .int) (N' := 320) (a0 := (320, .inl (fun _ => (0 : Int32)))) hx hb (hts _ (vA_in _ _ (in_2 _ (zs16 (zs16 (zs4 (zs1 (zs1 (zs0))))))))) rfl hK hP hD hS hA (fun _ => rfl) (by decide) (by decide) (Nat.le_of_ble_eq_true rfl) (Nat.le_of_ble_eq_true rfl) (Nat.le_of_ble_eq_true rfl) dX8_init_17 (fun q2 kq2 H hK hP hD hS => ?_)
  have hK : va_K (dC, dI) vwCl [(kq1, .int), (kq2, .int)] s := hK
  have hP : va_P (dC, dI) vwCl [(p4, .inr (9, [.null, .null, .int 0, .ref q1, .null, .null, .null, .null, .null, .null])), (q1, .inl (kq1, 320, .inl (fun _ => (0 : Int32)))), (q2, .inl (kq2, 320, .inl (fun _ => (0 : Int32))))] H := hP
  have hD : va_D A [(p4, .inr (9, [.null, .null, .int 0, .ref q1, .null, .null, .null, .null, .null, .null])), (q1, .inl (kq1, 320, .inl (fun _ => (0 : Int32)))), (q2, .inl (kq2, 320, .inl (fun _ => (0 : Int32))))] := hD
  refine W.widen (k := 2) (n := 640) (by first | exact Nat.le_of_ble_eq_true rfl | omega) (by first | exact Nat.le_of_ble_eq_true rfl | omega) ?_
  obtain rfl : kq1 = kq2 := ub_sa_int hK 0 1 rfl rfl
  have hK := hK.sub (tys' := [(kq1, .int)]) [0] rfl
  refine va_putF (D := (dC, dI)) (ci := 9) (v := .ref q2) (ty := .array .int) (C := RX8) (T := TX8) (N := 10) hx hb hts (fun w h => vA_in _ w (in_X8 w h)) tyX8 tyX8_ok nmX8 hown hK hP hD hS 0 rfl rfl 4 (by decide) (hts _ (vA_in _ _ (in_19 _ (zs4 (zs4 (zs1 (zs0))))))) (fun _ h9 => h9) rfl hin rfl (by decide +kernel) rfl rfl (Nat.le_of_ble_eq_true rfl) dX8_init_19 (fun H locs hP hD hS => ?_)
  have hP : va_P (dC, dI) vwCl [(p4, .inr (9, [.null, .null, .int 0, .ref q1, .ref q2, .null, .null, .null, .null, .null])), (q1, .inl (kq1, 320, .inl (fun _ => (0 : Int32)))), (q2, .inl (kq1, 320, .inl (fun _ => (0 : Int32))))] H := hP
  have hD : va_D A [(p4, .inr (9, [.null, .null, .int 0, .ref q1, .ref q2, .null, .null, .null, .null, .null])), (q1, .inl (kq1, 320, .inl (fun _ => (0 : Int32)))), (q2, .inl (kq1, 320, .inl (fun _ => (0 : Int32))))] := hD
  refine lv_aload_n hx hb dX8_init_22 rfl (lv_at hl 0 rfl) ?_
  refine lv_sipush (v := 320) hx hb dX8_init_23 (by decide) ?_
  refine va_newa (atype := .boolean) (ty := .boolean) (N' := 320) (a0 := (320, .inl (fun _ => (0 : Int32)))) hx hb (hts _ (vA_in _ _ (in_19 _ (zs4 (zs4 (zs1 (zs1 (zs0)))))))) rfl hK hP hD hS hA (fun _ => rfl) (by decide) (by decide) (Nat.le_of_ble_eq_true rfl) (Nat.le_of_ble_eq_true rfl) (Nat.le_of_ble_eq_true rfl) dX8_init_26 (fun q3 kq3 H hK hP hD hS => ?_)
  have hK : va_K (dC, dI) vwCl [(kq1, .int), (kq3, .boolean)] s := hK
  have hP : va_P (dC, dI) vwCl [(p4, .inr (9, [.null, .null, .int 0, .ref q1, .ref q2, .null, .null, .null, .null, .null])), (q1, .inl (kq1, 320, .inl (fun _ => (0 : Int32)))), (q2, .inl (kq1, 320, .inl (fun _ => (0 : Int32)))), (q3, .inl (kq3, 320, .inl (fun _ => (0 : Int32))))] H := hP
  have hD : va_D A [(p4, .inr (9, [.null, .null, .int 0, .ref q1, .ref q2, .null, .null, .null, .null, .null])), (q1, .inl (kq1, 320, .inl (fun _ => (0 : Int32)))), (q2, .inl (kq1, 320, .inl (fun _ => (0 : Int32)))), (q3, .inl (kq3, 320, .inl (fun _ => (0 : Int32))))] := hD
  refine W.widen (k := 3) (n := 960) (by first | exact Nat.le_of_ble_eq_true rfl | omega) (by first | exact Nat.le_of_ble_eq_true rfl | omega) ?_
  refine va_putF (D := (dC, dI)) (ci := 9) (v := .ref q3) (ty := .array .boolean) (C := RX8) (T := TX8) (N := 10) hx hb hts (fun w h => vA_in _ w (in_X8 w h)) tyX8 tyX8_ok nmX8 hown hK hP hD hS 0 rfl rfl 5 (by decide) (hts _ (vA_in _ _ (in_19 _ (zs4 (zs4 (zs1 (zs1 (zs1 (zs0))))))))) (fun _ h9 => h9) rfl hin rfl (by decide +kernel) rfl rfl (Nat.le_of_ble_eq_true rfl) dX8_init_28 (fun H locs hP hD hS => ?_)
  have hP : va_P (dC, dI) vwCl [(p4, .inr (9, [.null, .null, .int 0, .ref q1, .ref q2, .ref q3, .null, .null, .null, .null])), (q1, .inl (kq1, 320, .inl (fun _ => (0 : Int32)))), (q2, .inl (kq1, 320, .inl (fun _ => (0 : Int32)))), (q3, .inl (kq3, 320, .inl (fun _ => (0 : Int32))))] H := hP
  have hD : va_D A [(p4, .inr (9, [.null, .null, .int 0, .ref q1, .ref q2, .ref q3, .null, .null, .null, .null])), (q1, .inl (kq1, 320, .inl (fun _ => (0 : Int32)))), (q2, .inl (kq1, 320, .inl (fun _ => (0 : Int32)))), (q3, .inl (kq3, 320, .inl (fun _ => (0 : Int32))))] := hD
  refine lv_aload_n hx hb dX8_init_31 rfl (lv_at hl 0 rfl) ?_
  refine lv_bipush (v := 16) hx hb dX8_init_32 (by decide) ?_
  refine va_newa (atype := .boolean) (ty := .boolean) (N' := 16) (a0 := (16, .inl (fun _ => (0 : Int32)))) hx hb (hts _ (vA_in _ _ (in_19 _ (zs4 (zs4 (zs1 (zs1 (zs0)))))))) rfl hK hP hD hS hA (fun _ => rfl) (by decide) (by decide) (Nat.le_of_ble_eq_true rfl) (Nat.le_of_ble_eq_true rfl) (Nat.le_of_ble_eq_true rfl) dX8_init_34 (fun q4 kq4 H hK hP hD hS => ?_)
  have hK : va_K (dC, dI) vwCl [(kq1, .int), (kq3, .boolean), (kq4, .boolean)] s := hK
  have hP : va_P (dC, dI) vwCl [(p4, .inr (9, [.null, .null, .int 0, .ref q1, .ref q2, .ref q3, .null, .null, .null, .null])), (q1, .inl (kq1, 320, .inl (fun _ => (0 : Int32)))), (q2, .inl (kq1, 320, .inl (fun _ => (0 : Int32)))), (q3, .inl (kq3, 320, .inl (fun _ => (0 : Int32)))), (q4, .inl (kq4, 16, .inl (fun _ => (0 : Int32))))] H := hP
  have hD : va_D A [(p4, .inr (9, [.null, .null, .int 0, .ref q1, .ref q2, .ref q3, .null, .null, .null, .null])), (q1, .inl (kq1, 320, .inl (fun _ => (0 : Int32)))), (q2, .inl (kq1, 320, .inl (fun _ => (0 : Int32)))), (q3, .inl (kq3, 320, .inl (fun _ => (0 : Int32)))), (q4, .inl (kq4, 16, .inl (fun _ => (0 : Int32))))] := hD
  refine W.widen (k := 4) (n := 976) (by first | exact Nat.le_of_ble_eq_true rfl | omega) (by first | exact Nat.le_of_ble_eq_true rfl | omega) ?_
  obtain rfl : kq3 = kq4 := ub_sa_boolean hK 1 2 rfl rfl
  have hK := hK.sub (tys' := [(kq1, .int), (kq3, .boolean)]) [0, 1] rfl
  refine va_putF (D := (dC, dI)) (ci := 9) (v := .ref q4) (ty := .array .boolean) (C := RX8) (T := TX8) (N := 10) hx hb hts (fun w h => vA_in _ w (in_X8 w h)) tyX8 tyX8_ok nmX8 hown hK hP hD hS 0 rfl rfl 6 (by decide) (hts _ (vA_in _ _ (in_19 _ (zs4 (zs4 (zs4 (zs0))))))) (fun _ h9 => h9) rfl hin rfl (by decide +kernel) rfl rfl (Nat.le_of_ble_eq_true rfl) dX8_init_36 (fun H locs hP hD hS => ?_)
  have hP : va_P (dC, dI) vwCl [(p4, .inr (9, [.null, .null, .int 0, .ref q1, .ref q2, .ref q3, .ref q4, .null, .null, .null])), (q1, .inl (kq1, 320, .inl (fun _ => (0 : Int32)))), (q2, .inl (kq1, 320, .inl (fun _ => (0 : Int32)))), (q3, .inl (kq3, 320, .inl (fun _ => (0 : Int32)))), (q4, .inl (kq3, 16, .inl (fun _ => (0 : Int32))))] H := hP
  have hD : va_D A [(p4, .inr (9, [.null, .null, .int 0, .ref q1, .ref q2, .ref q3, .ref q4, .null, .null, .null])), (q1, .inl (kq1, 320, .inl (fun _ => (0 : Int32)))), (q2, .inl (kq1, 320, .inl (fun _ => (0 : Int32)))), (q3, .inl (kq3, 320, .inl (fun _ => (0 : Int32)))), (q4, .inl (kq3, 16, .inl (fun _ => (0 : Int32))))] := hD
  refine lv_aload_n hx hb dX8_init_39 rfl (lv_at hl 0 rfl) ?_
  refine lv_bipush (v := 16) hx hb dX8_init_40 (by decide) ?_
  refine va_newa (atype := .int) (ty := .int) (N' := 16) (a0 := (16, .inl (fun _ => (0 : Int32)))) hx hb (hts _ (vA_in _ _ (in_2 _ (zs16 (zs16 (zs4 (zs1 (zs1 (zs0))))))))) rfl hK hP hD hS hA (fun _ => rfl) (by decide) (by decide) (Nat.le_of_ble_eq_true rfl) (Nat.le_of_ble_eq_true rfl) (Nat.le_of_ble_eq_true rfl) dX8_init_42 (fun q5 kq5 H hK hP hD hS => ?_)
  have hK : va_K (dC, dI) vwCl [(kq1, .int), (kq3, .boolean), (kq5, .int)] s := hK
  have hP : va_P (dC, dI) vwCl [(p4, .inr (9, [.null, .null, .int 0, .ref q1, .ref q2, .ref q3, .ref q4, .null, .null, .null])), (q1, .inl (kq1, 320, .inl (fun _ => (0 : Int32)))), (q2, .inl (kq1, 320, .inl (fun _ => (0 : Int32)))), (q3, .inl (kq3, 320, .inl (fun _ => (0 : Int32)))), (q4, .inl (kq3, 16, .inl (fun _ => (0 : Int32)))), (q5, .inl (kq5, 16, .inl (fun _ => (0 : Int32))))] H := hP
  have hD : va_D A [(p4, .inr (9, [.null, .null, .int 0, .ref q1, .ref q2, .ref q3, .ref q4, .null, .null, .null])), (q1, .inl (kq1, 320, .inl (fun _ => (0 : Int32)))), (q2, .inl (kq1, 320, .inl (fun _ => (0 : Int32)))), (q3, .inl (kq3, 320, .inl (fun _ => (0 : Int32)))), (q4, .inl (kq3, 16, .inl (fun _ => (0 : Int32)))), (q5, .inl (kq5, 16, .inl (fun _ => (0 : Int32))))] := hD
  refine W.widen (k := 5) (n := 992) (by first | exact Nat.le_of_ble_eq_true rfl | omega) (by first | exact Nat.le_of_ble_eq_true rfl | omega) ?_
  obtain rfl : kq1 = kq5 := ub_sa_int hK 0 2 rfl rfl
  have hK := hK.sub (tys' := [(kq1, .int), (kq3, .boolean)]) [0, 1] rfl
  refine va_putF (D := (dC, dI)) (ci := 9) (v := .ref q5) (ty := .array .int) (C := RX8) (T := TX8) (N := 10) hx hb hts (fun w h => vA_in _ w (in_X8 w h)) tyX8 tyX8_ok nmX8 hown hK hP hD hS 0 rfl rfl 7 (by decide) (hts _ (vA_in _ _ (in_19 _ (zs4 (zs4 (zs4 (zs1 (zs0)))))))) (fun _ h9 => h9) rfl hin rfl (by decide +kernel) rfl rfl (Nat.le_of_ble_eq_true rfl) dX8_init_44 (fun H locs hP hD hS => ?_)
  have hP : va_P (dC, dI) vwCl [(p4, .inr (9, [.null, .null, .int 0, .ref q1, .ref q2, .ref q3, .ref q4, .ref q5, .null, .null])), (q1, .inl (kq1, 320, .inl (fun _ => (0 : Int32)))), (q2, .inl (kq1, 320, .inl (fun _ => (0 : Int32)))), (q3, .inl (kq3, 320, .inl (fun _ => (0 : Int32)))), (q4, .inl (kq3, 16, .inl (fun _ => (0 : Int32)))), (q5, .inl (kq1, 16, .inl (fun _ => (0 : Int32))))] H := hP
  have hD : va_D A [(p4, .inr (9, [.null, .null, .int 0, .ref q1, .ref q2, .ref q3, .ref q4, .ref q5, .null, .null])), (q1, .inl (kq1, 320, .inl (fun _ => (0 : Int32)))), (q2, .inl (kq1, 320, .inl (fun _ => (0 : Int32)))), (q3, .inl (kq3, 320, .inl (fun _ => (0 : Int32)))), (q4, .inl (kq3, 16, .inl (fun _ => (0 : Int32)))), (q5, .inl (kq1, 16, .inl (fun _ => (0 : Int32))))] := hD
  refine lv_aload_n hx hb dX8_init_47 rfl (lv_at hl 0 rfl) ?_
  refine lv_bipush (v := 20) hx hb dX8_init_48 (by decide) ?_
  refine va_newa (atype := .int) (ty := .int) (N' := 20) (a0 := (20, .inl (fun _ => (0 : Int32)))) hx hb (hts _ (vA_in _ _ (in_2 _ (zs16 (zs16 (zs4 (zs1 (zs1 (zs0))))))))) rfl hK hP hD hS hA (fun _ => rfl) (by decide) (by decide) (Nat.le_of_ble_eq_true rfl) (Nat.le_of_ble_eq_true rfl) (Nat.le_of_ble_eq_true rfl) dX8_init_50 (fun q6 kq6 H hK hP hD hS => ?_)
  have hK : va_K (dC, dI) vwCl [(kq1, .int), (kq3, .boolean), (kq6, .int)] s := hK
  have hP : va_P (dC, dI) vwCl [(p4, .inr (9, [.null, .null, .int 0, .ref q1, .ref q2, .ref q3, .ref q4, .ref q5, .null, .null])), (q1, .inl (kq1, 320, .inl (fun _ => (0 : Int32)))), (q2, .inl (kq1, 320, .inl (fun _ => (0 : Int32)))), (q3, .inl (kq3, 320, .inl (fun _ => (0 : Int32)))), (q4, .inl (kq3, 16, .inl (fun _ => (0 : Int32)))), (q5, .inl (kq1, 16, .inl (fun _ => (0 : Int32)))), (q6, .inl (kq6, 20, .inl (fun _ => (0 : Int32))))] H := hP
  have hD : va_D A [(p4, .inr (9, [.null, .null, .int 0, .ref q1, .ref q2, .ref q3, .ref q4, .ref q5, .null, .null])), (q1, .inl (kq1, 320, .inl (fun _ => (0 : Int32)))), (q2, .inl (kq1, 320, .inl (fun _ => (0 : Int32)))), (q3, .inl (kq3, 320, .inl (fun _ => (0 : Int32)))), (q4, .inl (kq3, 16, .inl (fun _ => (0 : Int32)))), (q5, .inl (kq1, 16, .inl (fun _ => (0 : Int32)))), (q6, .inl (kq6, 20, .inl (fun _ => (0 : Int32))))] := hD
  refine W.widen (k := 6) (n := 1012) (by first | exact Nat.le_of_ble_eq_true rfl | omega) (by first | exact Nat.le_of_ble_eq_true rfl | omega) ?_
  obtain rfl : kq1 = kq6 := ub_sa_int hK 0 2 rfl rfl
  have hK := hK.sub (tys' := [(kq1, .int), (kq3, .boolean)]) [0, 1] rfl
  refine va_putF (D := (dC, dI)) (ci := 9) (v := .ref q6) (ty := .array .int) (C := RX8) (T := TX8) (N := 10) hx hb hts (fun w h => vA_in _ w (in_X8 w h)) tyX8 tyX8_ok nmX8 hown hK hP hD hS 0 rfl rfl 8 (by decide) (hts _ (vA_in _ _ (in_19 _ (zs4 (zs4 (zs4 (zs1 (zs1 (zs0))))))))) (fun _ h9 => h9) rfl hin rfl (by decide +kernel) rfl rfl (Nat.le_of_ble_eq_true rfl) dX8_init_52 (fun H locs hP hD hS => ?_)
  have hP : va_P (dC, dI) vwCl [(p4, .inr (9, [.null, .null, .int 0, .ref q1, .ref q2, .ref q3, .ref q4, .ref q5, .ref q6, .null])), (q1, .inl (kq1, 320, .inl (fun _ => (0 : Int32)))), (q2, .inl (kq1, 320, .inl (fun _ => (0 : Int32)))), (q3, .inl (kq3, 320, .inl (fun _ => (0 : Int32)))), (q4, .inl (kq3, 16, .inl (fun _ => (0 : Int32)))), (q5, .inl (kq1, 16, .inl (fun _ => (0 : Int32)))), (q6, .inl (kq1, 20, .inl (fun _ => (0 : Int32))))] H := hP
  have hD : va_D A [(p4, .inr (9, [.null, .null, .int 0, .ref q1, .ref q2, .ref q3, .ref q4, .ref q5, .ref q6, .null])), (q1, .inl (kq1, 320, .inl (fun _ => (0 : Int32)))), (q2, .inl (kq1, 320, .inl (fun _ => (0 : Int32)))), (q3, .inl (kq3, 320, .inl (fun _ => (0 : Int32)))), (q4, .inl (kq3, 16, .inl (fun _ => (0 : Int32)))), (q5, .inl (kq1, 16, .inl (fun _ => (0 : Int32)))), (q6, .inl (kq1, 20, .inl (fun _ => (0 : Int32))))] := hD
  refine lv_aload_n hx hb dX8_init_55 rfl (lv_at hl 0 rfl) ?_
  refine lv_bipush (v := 20) hx hb dX8_init_56 (by decide) ?_
  refine va_newa (atype := .int) (ty := .int) (N' := 20) (a0 := (20, .inl (fun _ => (0 : Int32)))) hx hb (hts _ (vA_in _ _ (in_2 _ (zs16 (zs16 (zs4 (zs1 (zs1 (zs0))))))))) rfl hK hP hD hS hA (fun _ => rfl) (by decide) (by decide) (Nat.le_of_ble_eq_true rfl) (Nat.le_of_ble_eq_true rfl) (Nat.le_of_ble_eq_true rfl) dX8_init_58 (fun q7 kq7 H hK hP hD hS => ?_)
  have hK : va_K (dC, dI) vwCl [(kq1, .int), (kq3, .boolean), (kq7, .int)] s := hK
  have hP : va_P (dC, dI) vwCl [(p4, .inr (9, [.null, .null, .int 0, .ref q1, .ref q2, .ref q3, .ref q4, .ref q5, .ref q6, .null])), (q1, .inl (kq1, 320, .inl (fun _ => (0 : Int32)))), (q2, .inl (kq1, 320, .inl (fun _ => (0 : Int32)))), (q3, .inl (kq3, 320, .inl (fun _ => (0 : Int32)))), (q4, .inl (kq3, 16, .inl (fun _ => (0 : Int32)))), (q5, .inl (kq1, 16, .inl (fun _ => (0 : Int32)))), (q6, .inl (kq1, 20, .inl (fun _ => (0 : Int32)))), (q7, .inl (kq7, 20, .inl (fun _ => (0 : Int32))))] H := hP
  have hD : va_D A [(p4, .inr (9, [.null, .null, .int 0, .ref q1, .ref q2, .ref q3, .ref q4, .ref q5, .ref q6, .null])), (q1, .inl (kq1, 320, .inl (fun _ => (0 : Int32)))), (q2, .inl (kq1, 320, .inl (fun _ => (0 : Int32)))), (q3, .inl (kq3, 320, .inl (fun _ => (0 : Int32)))), (q4, .inl (kq3, 16, .inl (fun _ => (0 : Int32)))), (q5, .inl (kq1, 16, .inl (fun _ => (0 : Int32)))), (q6, .inl (kq1, 20, .inl (fun _ => (0 : Int32)))), (q7, .inl (kq7, 20, .inl (fun _ => (0 : Int32))))] := hD
  refine W.widen (k := 7) (n := 1032) (by first | exact Nat.le_of_ble_eq_true rfl | omega) (by first | exact Nat.le_of_ble_eq_true rfl | omega) ?_
  obtain rfl : kq1 = kq7 := ub_sa_int hK 0 2 rfl rfl
  have hK := hK.sub (tys' := [(kq1, .int), (kq3, .boolean)]) [0, 1] rfl
  refine va_putF (D := (dC, dI)) (ci := 9) (v := .ref q7) (ty := .array .int) (C := RX8) (T := TX8) (N := 10) hx hb hts (fun w h => vA_in _ w (in_X8 w h)) tyX8 tyX8_ok nmX8 hown hK hP hD hS 0 rfl rfl 9 (by decide) (hts _ (vA_in _ _ (in_19 _ (zs4 (zs4 (zs4 (zs1 (zs1 (zs1 (zs0)))))))))) (fun _ h9 => h9) rfl hin rfl (by decide +kernel) rfl rfl (Nat.le_of_ble_eq_true rfl) dX8_init_60 (fun H locs hP hD hS => ?_)
  have hP : va_P (dC, dI) vwCl [(p4, .inr (9, [.null, .null, .int 0, .ref q1, .ref q2, .ref q3, .ref q4, .ref q5, .ref q6, .ref q7])), (q1, .inl (kq1, 320, .inl (fun _ => (0 : Int32)))), (q2, .inl (kq1, 320, .inl (fun _ => (0 : Int32)))), (q3, .inl (kq3, 320, .inl (fun _ => (0 : Int32)))), (q4, .inl (kq3, 16, .inl (fun _ => (0 : Int32)))), (q5, .inl (kq1, 16, .inl (fun _ => (0 : Int32)))), (q6, .inl (kq1, 20, .inl (fun _ => (0 : Int32)))), (q7, .inl (kq1, 20, .inl (fun _ => (0 : Int32))))] H := hP
  have hD : va_D A [(p4, .inr (9, [.null, .null, .int 0, .ref q1, .ref q2, .ref q3, .ref q4, .ref q5, .ref q6, .ref q7])), (q1, .inl (kq1, 320, .inl (fun _ => (0 : Int32)))), (q2, .inl (kq1, 320, .inl (fun _ => (0 : Int32)))), (q3, .inl (kq3, 320, .inl (fun _ => (0 : Int32)))), (q4, .inl (kq3, 16, .inl (fun _ => (0 : Int32)))), (q5, .inl (kq1, 16, .inl (fun _ => (0 : Int32)))), (q6, .inl (kq1, 20, .inl (fun _ => (0 : Int32)))), (q7, .inl (kq1, 20, .inl (fun _ => (0 : Int32))))] := hD
  refine lv_aload_n hx hb dX8_init_63 rfl (lv_at hl 0 rfl) ?_
  refine lv_aload_n hx hb dX8_init_64 rfl (lv_at hl 1 rfl) ?_
  refine va_putF (D := (dC, dI)) (ci := 9) (v := .ref p1) (ty := .object "UnlikeBoats$Book") (C := RX8) (T := TX8) (N := 10) hx hb hts (fun w h => vA_in _ w (in_X8 w h)) tyX8 tyX8_ok nmX8 hown hK hP hD hS 0 rfl rfl 0 (by decide) (hts _ (vA_in _ _ (in_19 _ (zs16 (zs0))))) (fun _ h9 => h9) rfl hin rfl (by decide +kernel) rfl rfl (Nat.le_of_ble_eq_true rfl) dX8_init_65 (fun H locs hP hD hS => ?_)
  have hP : va_P (dC, dI) vwCl [(p4, .inr (9, [.ref p1, .null, .int 0, .ref q1, .ref q2, .ref q3, .ref q4, .ref q5, .ref q6, .ref q7])), (q1, .inl (kq1, 320, .inl (fun _ => (0 : Int32)))), (q2, .inl (kq1, 320, .inl (fun _ => (0 : Int32)))), (q3, .inl (kq3, 320, .inl (fun _ => (0 : Int32)))), (q4, .inl (kq3, 16, .inl (fun _ => (0 : Int32)))), (q5, .inl (kq1, 16, .inl (fun _ => (0 : Int32)))), (q6, .inl (kq1, 20, .inl (fun _ => (0 : Int32)))), (q7, .inl (kq1, 20, .inl (fun _ => (0 : Int32))))] H := hP
  have hD : va_D A [(p4, .inr (9, [.ref p1, .null, .int 0, .ref q1, .ref q2, .ref q3, .ref q4, .ref q5, .ref q6, .ref q7])), (q1, .inl (kq1, 320, .inl (fun _ => (0 : Int32)))), (q2, .inl (kq1, 320, .inl (fun _ => (0 : Int32)))), (q3, .inl (kq3, 320, .inl (fun _ => (0 : Int32)))), (q4, .inl (kq3, 16, .inl (fun _ => (0 : Int32)))), (q5, .inl (kq1, 16, .inl (fun _ => (0 : Int32)))), (q6, .inl (kq1, 20, .inl (fun _ => (0 : Int32)))), (q7, .inl (kq1, 20, .inl (fun _ => (0 : Int32))))] := hD
  refine lv_aload_n hx hb dX8_init_68 rfl (lv_at hl 0 rfl) ?_
  refine lv_aload_n hx hb dX8_init_69 rfl (lv_at hl 2 rfl) ?_
  refine va_putF (D := (dC, dI)) (ci := 9) (v := .ref p3) (ty := .object "UnlikeBoats$Sheet") (C := RX8) (T := TX8) (N := 10) hx hb hts (fun w h => vA_in _ w (in_X8 w h)) tyX8 tyX8_ok nmX8 hown hK hP hD hS 0 rfl rfl 1 (by decide) (hts _ (vA_in _ _ (in_19 _ (zs16 (zs1 (zs0)))))) (fun _ h9 => h9) rfl hin rfl (by decide +kernel) rfl rfl (Nat.le_of_ble_eq_true rfl) dX8_init_70 (fun H locs hP hD hS => ?_)
  have hP : va_P (dC, dI) vwCl [(p4, .inr (9, [.ref p1, .ref p3, .int 0, .ref q1, .ref q2, .ref q3, .ref q4, .ref q5, .ref q6, .ref q7])), (q1, .inl (kq1, 320, .inl (fun _ => (0 : Int32)))), (q2, .inl (kq1, 320, .inl (fun _ => (0 : Int32)))), (q3, .inl (kq3, 320, .inl (fun _ => (0 : Int32)))), (q4, .inl (kq3, 16, .inl (fun _ => (0 : Int32)))), (q5, .inl (kq1, 16, .inl (fun _ => (0 : Int32)))), (q6, .inl (kq1, 20, .inl (fun _ => (0 : Int32)))), (q7, .inl (kq1, 20, .inl (fun _ => (0 : Int32))))] H := hP
  have hD : va_D A [(p4, .inr (9, [.ref p1, .ref p3, .int 0, .ref q1, .ref q2, .ref q3, .ref q4, .ref q5, .ref q6, .ref q7])), (q1, .inl (kq1, 320, .inl (fun _ => (0 : Int32)))), (q2, .inl (kq1, 320, .inl (fun _ => (0 : Int32)))), (q3, .inl (kq3, 320, .inl (fun _ => (0 : Int32)))), (q4, .inl (kq3, 16, .inl (fun _ => (0 : Int32)))), (q5, .inl (kq1, 16, .inl (fun _ => (0 : Int32)))), (q6, .inl (kq1, 20, .inl (fun _ => (0 : Int32)))), (q7, .inl (kq1, 20, .inl (fun _ => (0 : Int32))))] := hD
  have hP9 := hP.sub (ws' := [(p4, .inr (9, [.ref p1, .ref p3, .int 0, .ref q1, .ref q2, .ref q3, .ref q4, .ref q5, .ref q6, .ref q7])), (q1, .inl (kq1, 320, .inl (fun _ => (0 : Int32)))), (q2, .inl (kq1, 320, .inl (fun _ => (0 : Int32)))), (q3, .inl (kq3, 320, .inl (fun _ => (0 : Int32)))), (q4, .inl (kq3, 16, .inl (fun _ => (0 : Int32)))), (q5, .inl (kq1, 16, .inl (fun _ => (0 : Int32)))), (q6, .inl (kq1, 20, .inl (fun _ => (0 : Int32)))), (q7, .inl (kq1, 20, .inl (fun _ => (0 : Int32))))]) [0, 1, 2, 3, 4, 5, 6, 7] rfl
  have hD9 := hD.sub (ws' := [(p4, .inr (9, [.ref p1, .ref p3, .int 0, .ref q1, .ref q2, .ref q3, .ref q4, .ref q5, .ref q6, .ref q7])), (q1, .inl (kq1, 320, .inl (fun _ => (0 : Int32)))), (q2, .inl (kq1, 320, .inl (fun _ => (0 : Int32)))), (q3, .inl (kq3, 320, .inl (fun _ => (0 : Int32)))), (q4, .inl (kq3, 16, .inl (fun _ => (0 : Int32)))), (q5, .inl (kq1, 16, .inl (fun _ => (0 : Int32)))), (q6, .inl (kq1, 20, .inl (fun _ => (0 : Int32)))), (q7, .inl (kq1, 20, .inl (fun _ => (0 : Int32))))]) [0, 1, 2, 3, 4, 5, 6, 7] (by decide) rfl
  have hK9 := hK.sub (tys' := [(kq1, .int), (kq3, .boolean)]) [0, 1] rfl
  exact W.vret hx hb hr (fun t ht hW => ⟨⟨(q1, q2, q3, q4, q5, q6, q7, kq1, kq3), rfl, trivial, (by rw [ht]; exact hP9), va_K.moved hW.alike hK9, hD9⟩, hS.F ht⟩) hS.2.2 dX8_init_73
def v_x_HearingI : List Cond := .code yX2_init cX2_init 2 none :: vA
set_option maxHeartbeats 4000000 in
set_option maxRecDepth 100000 in
theorem x_HearingI (l : Launch) (dC : Nat → ClassId) (dI : Nat → Nat → Nat) (p5 : Nat) (p1 : Nat) (sz : Nat)  : Met l yX2_init v_x_HearingI ({ frames := 1, cells := 5, slots := 10, locals := 40 }) (va_Pc [.ref p5, .ref p1] (fun U => U.heap.size = sz ∧ va_P (dC, dI) vwCl [(p5, .inr (3, [.null, .null, .null, .null, .null, .null, .null, .int 0, .int 0, .int 0]))] U.heap ∧ va_K (dC, dI) vwCl [] U ∧ va_D (fun _ => True) [(p5, .inr (3, [.null, .null, .null, .null, .null, .null, .null, .int 0, .int 0, .int 0]))])) (va_Qv (S := Nat × Nat × Nat × Nat × Nat × ClassId) (fun _ => True) (fun u t => match u with | (p38, p39, p40, p41, p42, cI) => va_P (dC, dI) vwCl [(p5, .inr (3, [.ref p1, .ref p38, .ref p39, .ref p40, .ref p41, .ref p42, .null, .int 0, .int 0, .int 0])), (p38, .inl (cI, 2, .inl ((fun _ => (0 : Int32))))), (p39, .inl (cI, 2, .inl ((fun _ => (0 : Int32))))), (p40, .inl (cI, 2, .inl ((fun _ => (0 : Int32))))), (p41, .inl (cI, 2, .inl ((fun _ => (0 : Int32))))), (p42, .inl (cI, 2, .inl ((fun _ => (0 : Int32)))))] t.heap ∧ va_K (dC, dI) vwCl [(cI, .int)] t ∧ va_D (va_A [(p5, .inr (3, [.null, .null, .null, .null, .null, .null, .null, .int 0, .int 0, .int 0]))] sz) [(p5, .inr (3, [.ref p1, .ref p38, .ref p39, .ref p40, .ref p41, .ref p42, .null, .int 0, .int 0, .int 0])), (p38, .inl (cI, 2, .inl ((fun _ => (0 : Int32))))), (p39, .inl (cI, 2, .inl ((fun _ => (0 : Int32))))), (p40, .inl (cI, 2, .inl ((fun _ => (0 : Int32))))), (p41, .inl (cI, 2, .inl ((fun _ => (0 : Int32))))), (p42, .inl (cI, 2, .inl ((fun _ => (0 : Int32)))))]) (va_A [(p5, .inr (3, [.null, .null, .null, .null, .null, .null, .null, .int 0, .int 0, .int 0]))] sz)) 5 10 (va_A [(p5, .inr (3, [.null, .null, .null, .null, .null, .null, .null, .int 0, .int 0, .int 0]))] sz) := by
  refine Met.ofW (cc := cX2_init) (maxL := 2) (ret := none) (by decide) rfl ?_
  intro p e s m args below meth c s₁ B hml hv
  obtain ⟨rfl, hsz, hP, hK, hD0⟩ := hv
  have hx := B.exec
  have hb := B.bytes
  have hr := B.returns
  have hts := atoms_spec (ws := v_x_HearingI) B.pre
  have hown : s.vm.findClass RX2 = some m.cls := findClass_of_methodNamed B.named
  have hlocks := B.notSynchronized
  have hin : meth.name = "<init>" := (name_of_methodNamed B.named B.method).1
  subst hsz
  have hD := hD0.self (sz := s.heap.size)
  generalize hAe : va_A [(p5, .inr (3, [.null, .null, .null, .null, .null, .null, .null, .int 0, .int 0, .int 0]))] s.heap.size = A at hD ⊢
  have hA : ∀ q : Nat, s.heap.size ≤ q → A q := fun q h => by rw [← hAe]; exact Or.inr h
  have hS : va_S A s.heap s.heap [] := va_S.rf
  have hP : va_P (dC, dI) vwCl [(p5, .inr (3, [.null, .null, .null, .null, .null, .null, .null, .int 0, .int 0, .int 0]))] s.heap := hP
  have hl := lv_entry ([.ref p5, .ref p1]) (n := 2) (Nat.le_of_ble_eq_true rfl)
  rw [lg_entry_eq]
  generalize (lg_sl ([.ref p5, .ref p1]) ++ List.replicate (2 - (lg_sl ([.ref p5, .ref p1])).length) Slot.unset).toArray = ls at hl ⊢
  have hl : lv_has ls 2 [(0, .ref p5), (1, .ref p1)] := hl
  refine lv_aload_n hx hb dX2_init_0 rfl (lv_at hl 0 rfl) ?_
  refine W.objInit hx hb hown (hts _ (vA_in _ _ (in_19 _ (zs16 (zs4 (zs1 (zs0))))))) (hts _ (vA_in _ _ (in_4 _ (zs16 (zs1 (zs0)))))) (hts _ (vA_in _ _ (in_4 _ (zs16 (zs1 (zs1 (zs0))))))) rfl (by rw [hml]; exact hl.1) rfl dX2_init_1 (Nat.le_of_ble_eq_true rfl) (Nat.le_of_ble_eq_true rfl) ?_
  refine W.eq (g2 := F0 m 4 ls []) rfl ?_
  refine lv_aload_n hx hb dX2_init_4 rfl (lv_at hl 0 rfl) ?_
  refine lv_iconst (v := 2) hx hb dX2_init_5 (by decide) ?_
  refine va_newa (atype := .int) (ty := .int) (N' := 2) (a0 := (2, .inl (fun _ => (0 : Int32)))) hx hb (hts _ (vA_in _ _ (in_2 _ (zs16 (zs16 (zs4 (zs1 (zs1 (zs0))))))))) rfl hK hP hD hS hA (fun _ => rfl) (by decide) (by decide) (Nat.le_of_ble_eq_true rfl) (Nat.le_of_ble_eq_true rfl) (Nat.le_of_ble_eq_true rfl) dX2_init_6 (fun q1 kq1 H hK hP hD hS => ?_)
  have hK : va_K (dC, dI) vwCl [(kq1, .int)] s := hK
  have hP : va_P (dC, dI) vwCl [(p5, .inr (3, [.null, .null, .null, .null, .null, .null, .null, .int 0, .int 0, .int 0])), (q1, .inl (kq1, 2, .inl (fun _ => (0 : Int32))))] H := hP
  have hD : va_D A [(p5, .inr (3, [.null, .null, .null, .null, .null, .null, .null, .int 0, .int 0, .int 0])), (q1, .inl (kq1, 2, .inl (fun _ => (0 : Int32))))] := hD
  refine W.widen (k := 1) (n := 2) (by first | exact Nat.le_of_ble_eq_true rfl | omega) (by first | exact Nat.le_of_ble_eq_true rfl | omega) ?_
  refine va_putF (D := (dC, dI)) (ci := 3) (v := .ref q1) (ty := .array .int) (C := RX2) (T := TX2) (N := 10) hx hb hts (fun w h => vA_in _ w (in_X2 w h)) tyX2 tyX2_ok nmX2 hown hK hP hD hS 0 rfl rfl 1 (by decide) (hts _ (vA_in _ _ (in_15 _ (zs1 (zs1 (zs0)))))) (fun _ h9 => h9) rfl hin rfl (by decide +kernel) rfl rfl (Nat.le_of_ble_eq_true rfl) dX2_init_8 (fun H locs hP hD hS => ?_)
  have hP : va_P (dC, dI) vwCl [(p5, .inr (3, [.null, .ref q1, .null, .null, .null, .null, .null, .int 0, .int 0, .int 0])), (q1, .inl (kq1, 2, .inl (fun _ => (0 : Int32))))] H := hP
  have hD : va_D A [(p5, .inr (3, [.null, .ref q1, .null, .null, .null, .null, .null, .int 0, .int 0, .int 0])), (q1, .inl (kq1, 2, .inl (fun _ => (0 : Int32))))] := hD
  refine lv_aload_n hx hb dX2_init_11 rfl (lv_at hl 0 rfl) ?_
  refine lv_iconst (v := 2) hx hb dX2_init_12 (by decide) ?_
  refine va_newa (atype := .int) (ty := .int) (N' := 2) (a0 := (2, .inl (fun _ => (0 : Int32)))) hx hb (hts _ (vA_in _ _ (in_2 _ (zs16 (zs16 (zs4 (zs1 (zs1 (zs0))))))))) rfl hK hP hD hS hA (fun _ => rfl) (by decide) (by decide) (Nat.le_of_ble_eq_true rfl) (Nat.le_of_ble_eq_true rfl) (Nat.le_of_ble_eq_true rfl) dX2_init_13 (fun q2 kq2 H hK hP hD hS => ?_)
  have hK : va_K (dC, dI) vwCl [(kq1, .int), (kq2, .int)] s := hK
  have hP : va_P (dC, dI) vwCl [(p5, .inr (3, [.null, .ref q1, .null, .null, .null, .null, .null, .int 0, .int 0, .int 0])), (q1, .inl (kq1, 2, .inl (fun _ => (0 : Int32)))), (q2, .inl (kq2, 2, .inl (fun _ => (0 : Int32))))] H := hP
  have hD : va_D A [(p5, .inr (3, [.null, .ref q1, .null, .null, .null, .null, .null, .int 0, .int 0, .int 0])), (q1, .inl (kq1, 2, .inl (fun _ => (0 : Int32)))), (q2, .inl (kq2, 2, .inl (fun _ => (0 : Int32))))] := hD
  refine W.widen (k := 2) (n := 4) (by first | exact Nat.le_of_ble_eq_true rfl | omega) (by first | exact Nat.le_of_ble_eq_true rfl | omega) ?_
  obtain rfl : kq1 = kq2 := ub_sa_int hK 0 1 rfl rfl
  have hK := hK.sub (tys' := [(kq1, .int)]) [0] rfl
  refine va_putF (D := (dC, dI)) (ci := 3) (v := .ref q2) (ty := .array .int) (C := RX2) (T := TX2) (N := 10) hx hb hts (fun w h => vA_in _ w (in_X2 w h)) tyX2 tyX2_ok nmX2 hown hK hP hD hS 0 rfl rfl 2 (by decide) (hts _ (vA_in _ _ (in_15 _ (zs1 (zs1 (zs1 (zs0))))))) (fun _ h9 => h9) rfl hin rfl (by decide +kernel) rfl rfl (Nat.le_of_ble_eq_true rfl) dX2_init_15 (fun H locs hP hD hS => ?_)
  have hP : va_P (dC, dI) vwCl [(p5, .inr (3, [.null, .ref q1, .ref q2, .null, .null, .null, .null, .int 0, .int 0, .int 0])), (q1, .inl (kq1, 2, .inl (fun _ => (0 : Int32)))), (q2, .inl (kq1, 2, .inl (fun _ => (0 : Int32))))] H := hP
  have hD : va_D A [(p5, .inr (3, [.null, .ref q1, .ref q2, .null, .null, .null, .null, .int 0, .int 0, .int 0])), (q1, .inl (kq1, 2, .inl (fun _ => (0 : Int32)))), (q2, .inl (kq1, 2, .inl (fun _ => (0 : Int32))))] := hD
  refine lv_aload_n hx hb dX2_init_18 rfl (lv_at hl 0 rfl) ?_
  refine lv_iconst (v := 2) hx hb dX2_init_19 (by decide) ?_
  refine va_newa (atype := .int) (ty := .int) (N' := 2) (a0 := (2, .inl (fun _ => (0 : Int32)))) hx hb (hts _ (vA_in _ _ (in_2 _ (zs16 (zs16 (zs4 (zs1 (zs1 (zs0))))))))) rfl hK hP hD hS hA (fun _ => rfl) (by decide) (by decide) (Nat.le_of_ble_eq_true rfl) (Nat.le_of_ble_eq_true rfl) (Nat.le_of_ble_eq_true rfl) dX2_init_20 (fun q3 kq3 H hK hP hD hS => ?_)
  have hK : va_K (dC, dI) vwCl [(kq1, .int), (kq3, .int)] s := hK
  have hP : va_P (dC, dI) vwCl [(p5, .inr (3, [.null, .ref q1, .ref q2, .null, .null, .null, .null, .int 0, .int 0, .int 0])), (q1, .inl (kq1, 2, .inl (fun _ => (0 : Int32)))), (q2, .inl (kq1, 2, .inl (fun _ => (0 : Int32)))), (q3, .inl (kq3, 2, .inl (fun _ => (0 : Int32))))] H := hP
  have hD : va_D A [(p5, .inr (3, [.null, .ref q1, .ref q2, .null, .null, .null, .null, .int 0, .int 0, .int 0])), (q1, .inl (kq1, 2, .inl (fun _ => (0 : Int32)))), (q2, .inl (kq1, 2, .inl (fun _ => (0 : Int32)))), (q3, .inl (kq3, 2, .inl (fun _ => (0 : Int32))))] := hD
  refine W.widen (k := 3) (n := 6) (by first | exact Nat.le_of_ble_eq_true rfl | omega) (by first | exact Nat.le_of_ble_eq_true rfl | omega) ?_
  obtain rfl : kq1 = kq3 := ub_sa_int hK 0 1 rfl rfl
  have hK := hK.sub (tys' := [(kq1, .int)]) [0] rfl
  refine va_putF (D := (dC, dI)) (ci := 3) (v := .ref q3) (ty := .array .int) (C := RX2) (T := TX2) (N := 10) hx hb hts (fun w h => vA_in _ w (in_X2 w h)) tyX2 tyX2_ok nmX2 hown hK hP hD hS 0 rfl rfl 3 (by decide) (hts _ (vA_in _ _ (in_15 _ (zs4 (zs0))))) (fun _ h9 => h9) rfl hin rfl (by decide +kernel) rfl rfl (Nat.le_of_ble_eq_true rfl) dX2_init_22 (fun H locs hP hD hS => ?_)
  have hP : va_P (dC, dI) vwCl [(p5, .inr (3, [.null, .ref q1, .ref q2, .ref q3, .null, .null, .null, .int 0, .int 0, .int 0])), (q1, .inl (kq1, 2, .inl (fun _ => (0 : Int32)))), (q2, .inl (kq1, 2, .inl (fun _ => (0 : Int32)))), (q3, .inl (kq1, 2, .inl (fun _ => (0 : Int32))))] H := hP
  have hD : va_D A [(p5, .inr (3, [.null, .ref q1, .ref q2, .ref q3, .null, .null, .null, .int 0, .int 0, .int 0])), (q1, .inl (kq1, 2, .inl (fun _ => (0 : Int32)))), (q2, .inl (kq1, 2, .inl (fun _ => (0 : Int32)))), (q3, .inl (kq1, 2, .inl (fun _ => (0 : Int32))))] := hD
  refine lv_aload_n hx hb dX2_init_25 rfl (lv_at hl 0 rfl) ?_
  refine lv_iconst (v := 2) hx hb dX2_init_26 (by decide) ?_
  refine va_newa (atype := .int) (ty := .int) (N' := 2) (a0 := (2, .inl (fun _ => (0 : Int32)))) hx hb (hts _ (vA_in _ _ (in_2 _ (zs16 (zs16 (zs4 (zs1 (zs1 (zs0))))))))) rfl hK hP hD hS hA (fun _ => rfl) (by decide) (by decide) (Nat.le_of_ble_eq_true rfl) (Nat.le_of_ble_eq_true rfl) (Nat.le_of_ble_eq_true rfl) dX2_init_27 (fun q4 kq4 H hK hP hD hS => ?_)
  have hK : va_K (dC, dI) vwCl [(kq1, .int), (kq4, .int)] s := hK
  have hP : va_P (dC, dI) vwCl [(p5, .inr (3, [.null, .ref q1, .ref q2, .ref q3, .null, .null, .null, .int 0, .int 0, .int 0])), (q1, .inl (kq1, 2, .inl (fun _ => (0 : Int32)))), (q2, .inl (kq1, 2, .inl (fun _ => (0 : Int32)))), (q3, .inl (kq1, 2, .inl (fun _ => (0 : Int32)))), (q4, .inl (kq4, 2, .inl (fun _ => (0 : Int32))))] H := hP
  have hD : va_D A [(p5, .inr (3, [.null, .ref q1, .ref q2, .ref q3, .null, .null, .null, .int 0, .int 0, .int 0])), (q1, .inl (kq1, 2, .inl (fun _ => (0 : Int32)))), (q2, .inl (kq1, 2, .inl (fun _ => (0 : Int32)))), (q3, .inl (kq1, 2, .inl (fun _ => (0 : Int32)))), (q4, .inl (kq4, 2, .inl (fun _ => (0 : Int32))))] := hD
  refine W.widen (k := 4) (n := 8) (by first | exact Nat.le_of_ble_eq_true rfl | omega) (by first | exact Nat.le_of_ble_eq_true rfl | omega) ?_
  obtain rfl : kq1 = kq4 := ub_sa_int hK 0 1 rfl rfl
  have hK := hK.sub (tys' := [(kq1, .int)]) [0] rfl
  refine va_putF (D := (dC, dI)) (ci := 3) (v := .ref q4) (ty := .array .int) (C := RX2) (T := TX2) (N := 10) hx hb hts (fun w h => vA_in _ w (in_X2 w h)) tyX2 tyX2_ok nmX2 hown hK hP hD hS 0 rfl rfl 4 (by decide) (hts _ (vA_in _ _ (in_15 _ (zs4 (zs1 (zs0)))))) (fun _ h9 => h9) rfl hin rfl (by decide +kernel) rfl rfl (Nat.le_of_ble_eq_true rfl) dX2_init_29 (fun H locs hP hD hS => ?_)
  have hP : va_P (dC, dI) vwCl [(p5, .inr (3, [.null, .ref q1, .ref q2, .ref q3, .ref q4, .null, .null, .int 0, .int 0, .int 0])), (q1, .inl (kq1, 2, .inl (fun _ => (0 : Int32)))), (q2, .inl (kq1, 2, .inl (fun _ => (0 : Int32)))), (q3, .inl (kq1, 2, .inl (fun _ => (0 : Int32)))), (q4, .inl (kq1, 2, .inl (fun _ => (0 : Int32))))] H := hP
  have hD : va_D A [(p5, .inr (3, [.null, .ref q1, .ref q2, .ref q3, .ref q4, .null, .null, .int 0, .int 0, .int 0])), (q1, .inl (kq1, 2, .inl (fun _ => (0 : Int32)))), (q2, .inl (kq1, 2, .inl (fun _ => (0 : Int32)))), (q3, .inl (kq1, 2, .inl (fun _ => (0 : Int32)))), (q4, .inl (kq1, 2, .inl (fun _ => (0 : Int32))))] := hD
  refine lv_aload_n hx hb dX2_init_32 rfl (lv_at hl 0 rfl) ?_
  refine lv_iconst (v := 2) hx hb dX2_init_33 (by decide) ?_
  refine va_newa (atype := .int) (ty := .int) (N' := 2) (a0 := (2, .inl (fun _ => (0 : Int32)))) hx hb (hts _ (vA_in _ _ (in_2 _ (zs16 (zs16 (zs4 (zs1 (zs1 (zs0))))))))) rfl hK hP hD hS hA (fun _ => rfl) (by decide) (by decide) (Nat.le_of_ble_eq_true rfl) (Nat.le_of_ble_eq_true rfl) (Nat.le_of_ble_eq_true rfl) dX2_init_34 (fun q5 kq5 H hK hP hD hS => ?_)
  have hK : va_K (dC, dI) vwCl [(kq1, .int), (kq5, .int)] s := hK
  have hP : va_P (dC, dI) vwCl [(p5, .inr (3, [.null, .ref q1, .ref q2, .ref q3, .ref q4, .null, .null, .int 0, .int 0, .int 0])), (q1, .inl (kq1, 2, .inl (fun _ => (0 : Int32)))), (q2, .inl (kq1, 2, .inl (fun _ => (0 : Int32)))), (q3, .inl (kq1, 2, .inl (fun _ => (0 : Int32)))), (q4, .inl (kq1, 2, .inl (fun _ => (0 : Int32)))), (q5, .inl (kq5, 2, .inl (fun _ => (0 : Int32))))] H := hP
  have hD : va_D A [(p5, .inr (3, [.null, .ref q1, .ref q2, .ref q3, .ref q4, .null, .null, .int 0, .int 0, .int 0])), (q1, .inl (kq1, 2, .inl (fun _ => (0 : Int32)))), (q2, .inl (kq1, 2, .inl (fun _ => (0 : Int32)))), (q3, .inl (kq1, 2, .inl (fun _ => (0 : Int32)))), (q4, .inl (kq1, 2, .inl (fun _ => (0 : Int32)))), (q5, .inl (kq5, 2, .inl (fun _ => (0 : Int32))))] := hD
  refine W.widen (k := 5) (n := 10) (by first | exact Nat.le_of_ble_eq_true rfl | omega) (by first | exact Nat.le_of_ble_eq_true rfl | omega) ?_
  obtain rfl : kq1 = kq5 := ub_sa_int hK 0 1 rfl rfl
  have hK := hK.sub (tys' := [(kq1, .int)]) [0] rfl
  refine va_putF (D := (dC, dI)) (ci := 3) (v := .ref q5) (ty := .array .int) (C := RX2) (T := TX2) (N := 10) hx hb hts (fun w h => vA_in _ w (in_X2 w h)) tyX2 tyX2_ok nmX2 hown hK hP hD hS 0 rfl rfl 5 (by decide) (hts _ (vA_in _ _ (in_15 _ (zs4 (zs4 (zs4 (zs0))))))) (fun _ h9 => h9) rfl hin rfl (by decide +kernel) rfl rfl (Nat.le_of_ble_eq_true rfl) dX2_init_36 (fun H locs hP hD hS => ?_)
  have hP : va_P (dC, dI) vwCl [(p5, .inr (3, [.null, .ref q1, .ref q2, .ref q3, .ref q4, .ref q5, .null, .int 0, .int 0, .int 0])), (q1, .inl (kq1, 2, .inl (fun _ => (0 : Int32)))), (q2, .inl (kq1, 2, .inl (fun _ => (0 : Int32)))), (q3, .inl (kq1, 2, .inl (fun _ => (0 : Int32)))), (q4, .inl (kq1, 2, .inl (fun _ => (0 : Int32)))), (q5, .inl (kq1, 2, .inl (fun _ => (0 : Int32))))] H := hP
  have hD : va_D A [(p5, .inr (3, [.null, .ref q1, .ref q2, .ref q3, .ref q4, .ref q5, .null, .int 0, .int 0, .int 0])), (q1, .inl (kq1, 2, .inl (fun _ => (0 : Int32)))), (q2, .inl (kq1, 2, .inl (fun _ => (0 : Int32)))), (q3, .inl (kq1, 2, .inl (fun _ => (0 : Int32)))), (q4, .inl (kq1, 2, .inl (fun _ => (0 : Int32)))), (q5, .inl (kq1, 2, .inl (fun _ => (0 : Int32))))] := hD
  refine lv_aload_n hx hb dX2_init_39 rfl (lv_at hl 0 rfl) ?_
  refine lv_aload_n hx hb dX2_init_40 rfl (lv_at hl 1 rfl) ?_
  refine va_putF (D := (dC, dI)) (ci := 3) (v := .ref p1) (ty := .object "UnlikeBoats$Book") (C := RX2) (T := TX2) (N := 10) hx hb hts (fun w h => vA_in _ w (in_X2 w h)) tyX2 tyX2_ok nmX2 hown hK hP hD hS 0 rfl rfl 0 (by decide) (hts _ (vA_in _ _ (in_14 _ (zs16 (zs16 (zs1 (zs1 (zs0)))))))) (fun _ h9 => h9) rfl hin rfl (by decide +kernel) rfl rfl (Nat.le_of_ble_eq_true rfl) dX2_init_41 (fun H locs hP hD hS => ?_)
  have hP : va_P (dC, dI) vwCl [(p5, .inr (3, [.ref p1, .ref q1, .ref q2, .ref q3, .ref q4, .ref q5, .null, .int 0, .int 0, .int 0])), (q1, .inl (kq1, 2, .inl (fun _ => (0 : Int32)))), (q2, .inl (kq1, 2, .inl (fun _ => (0 : Int32)))), (q3, .inl (kq1, 2, .inl (fun _ => (0 : Int32)))), (q4, .inl (kq1, 2, .inl (fun _ => (0 : Int32)))), (q5, .inl (kq1, 2, .inl (fun _ => (0 : Int32))))] H := hP
  have hD : va_D A [(p5, .inr (3, [.ref p1, .ref q1, .ref q2, .ref q3, .ref q4, .ref q5, .null, .int 0, .int 0, .int 0])), (q1, .inl (kq1, 2, .inl (fun _ => (0 : Int32)))), (q2, .inl (kq1, 2, .inl (fun _ => (0 : Int32)))), (q3, .inl (kq1, 2, .inl (fun _ => (0 : Int32)))), (q4, .inl (kq1, 2, .inl (fun _ => (0 : Int32)))), (q5, .inl (kq1, 2, .inl (fun _ => (0 : Int32))))] := hD
  have hP9 := hP.sub (ws' := [(p5, .inr (3, [.ref p1, .ref q1, .ref q2, .ref q3, .ref q4, .ref q5, .null, .int 0, .int 0, .int 0])), (q1, .inl (kq1, 2, .inl (fun _ => (0 : Int32)))), (q2, .inl (kq1, 2, .inl (fun _ => (0 : Int32)))), (q3, .inl (kq1, 2, .inl (fun _ => (0 : Int32)))), (q4, .inl (kq1, 2, .inl (fun _ => (0 : Int32)))), (q5, .inl (kq1, 2, .inl (fun _ => (0 : Int32))))]) [0, 1, 2, 3, 4, 5] rfl
  have hD9 := hD.sub (ws' := [(p5, .inr (3, [.ref p1, .ref q1, .ref q2, .ref q3, .ref q4, .ref q5, .null, .int 0, .int 0, .int 0])), (q1, .inl (kq1, 2, .inl (fun _ => (0 : Int32)))), (q2, .inl (kq1, 2, .inl (fun _ => (0 : Int32)))), (q3, .inl (kq1, 2, .inl (fun _ => (0 : Int32)))), (q4, .inl (kq1, 2, .inl (fun _ => (0 : Int32)))), (q5, .inl (kq1, 2, .inl (fun _ => (0 : Int32))))]) [0, 1, 2, 3, 4, 5] (by decide) rfl
  have hK9 := hK.sub (tys' := [(kq1, .int)]) [0] rfl
  exact W.vret hx hb hr (fun t ht hW => ⟨⟨(q1, q2, q3, q4, q5, kq1), rfl, trivial, (by rw [ht]; exact hP9), va_K.moved hW.alike hK9, hD9⟩, hS.F ht⟩) hS.2.2 dX2_init_44
def v_x_OfficeI : List Cond := .code yX3_init cX3_init 3 none :: vA
set_option maxHeartbeats 4000000 in
set_option maxRecDepth 100000 in
theorem x_OfficeI (l : Launch) (dC : Nat → ClassId) (dI : Nat → Nat → Nat) (p6 : Nat) (p1 : Nat) (p3 : Nat) (sz : Nat)  : Met l yX3_init v_x_OfficeI ({ frames := 1, cells := 14, slots := 1964, locals := 40 }) (va_Pc [.ref p6, .ref p1, .ref p3] (fun U => U.heap.size = sz ∧ va_P (dC, dI) vwCl [(p6, .inr (4, [.null, .null, .null, .null, .null, .null, .null, .null, .null, .null, .null, .null, .null, .null, .null, .int 0, .int 0, .null]))] U.heap ∧ va_K (dC, dI) vwCl [] U ∧ va_D (fun _ => True) [(p6, .inr (4, [.null, .null, .null, .null, .null, .null, .null, .null, .null, .null, .null, .null, .null, .null, .null, .int 0, .int 0, .null]))])) (va_Qv (S := Nat × Nat × Nat × Nat × Nat × Nat × Nat × Nat × Nat × Nat × Nat × Nat × Nat × Nat × ClassId × ClassId) (fun _ => True) (fun u t => match u with | (p43, p44, p45, p46, p47, p48, p49, p50, p51, p52, p53, p54, p55, p56, cI, cZ) => va_P (dC, dI) vwCl [(p6, .inr (4, [.ref p1, .ref p3, .ref p43, .ref p44, .ref p45, .ref p46, .ref p47, .ref p48, .ref p49, .ref p50, .ref p51, .ref p52, .ref p53, .ref p54, .ref p55, .int 0, .int 0, .ref p56])), (p43, .inl (cZ, 320, .inl ((fun _ => (0 : Int32))))), (p44, .inl (cI, 320, .inl ((fun _ => (0 : Int32))))), (p45, .inl (cI, 320, .inl ((fun _ => (0 : Int32))))), (p46, .inl (cI, 320, .inl ((fun _ => (0 : Int32))))), (p47, .inl (cI, 20, .inl ((fun _ => (0 : Int32))))), (p48, .inl (cI, 20, .inl ((fun _ => (0 : Int32))))), (p49, .inl (cI, 20, .inl ((fun _ => (0 : Int32))))), (p50, .inl (cI, 20, .inl ((fun _ => (0 : Int32))))), (p51, .inl (cI, 16, .inl ((fun _ => (0 : Int32))))), (p52, .inl (cI, 560, .inl ((fun _ => (0 : Int32))))), (p53, .inl (cI, 4, .inl ((fun _ => (0 : Int32))))), (p54, .inl (cI, 4, .inl ((fun _ => (0 : Int32))))), (p55, .inl (cI, 4, .inl ((fun _ => (0 : Int32))))), (p56, .inl (cI, 16, .inl ((fun _ => (0 : Int32)))))] t.heap ∧ va_K (dC, dI) vwCl [(cI, .int), (cZ, .boolean)] t ∧ va_D (va_A [(p6, .inr (4, [.null, .null, .null, .null, .null, .null, .null, .null, .null, .null, .null, .null, .null, .null, .null, .int 0, .int 0, .null]))] sz) [(p6, .inr (4, [.ref p1, .ref p3, .ref p43, .ref p44, .ref p45, .ref p46, .ref p47, .ref p48, .ref p49, .ref p50, .ref p51, .ref p52, .ref p53, .ref p54, .ref p55, .int 0, .int 0, .ref p56])), (p43, .inl (cZ, 320, .inl ((fun _ => (0 : Int32))))), (p44, .inl (cI, 320, .inl ((fun _ => (0 : Int32))))), (p45, .inl (cI, 320, .inl ((fun _ => (0 : Int32))))), (p46, .inl (cI, 320, .inl ((fun _ => (0 : Int32))))), (p47, .inl (cI, 20, .inl ((fun _ => (0 : Int32))))), (p48, .inl (cI, 20, .inl ((fun _ => (0 : Int32))))), (p49, .inl (cI, 20, .inl ((fun _ => (0 : Int32))))), (p50, .inl (cI, 20, .inl ((fun _ => (0 : Int32))))), (p51, .inl (cI, 16, .inl ((fun _ => (0 : Int32))))), (p52, .inl (cI, 560, .inl ((fun _ => (0 : Int32))))), (p53, .inl (cI, 4, .inl ((fun _ => (0 : Int32))))), (p54, .inl (cI, 4, .inl ((fun _ => (0 : Int32))))), (p55, .inl (cI, 4, .inl ((fun _ => (0 : Int32))))), (p56, .inl (cI, 16, .inl ((fun _ => (0 : Int32)))))]) (va_A [(p6, .inr (4, [.null, .null, .null, .null, .null, .null, .null, .null, .null, .null, .null, .null, .null, .null, .null, .int 0, .int 0, .null]))] sz)) 14 1964 (va_A [(p6, .inr (4, [.null, .null, .null, .null, .null, .null, .null, .null, .null, .null, .null, .null, .null, .null, .null, .int 0, .int 0, .null]))] sz) := by
  refine Met.ofW (cc := cX3_init) (maxL := 3) (ret := none) (by decide) rfl ?_
  intro p e s m args below meth c s₁ B hml hv
  obtain ⟨rfl, hsz, hP, hK, hD0⟩ := hv
  have hx := B.exec
  have hb := B.bytes
  have hr := B.returns
  have hts := atoms_spec (ws := v_x_OfficeI) B.pre
  have hown : s.vm.findClass RX3 = some m.cls := findClass_of_methodNamed B.named
  have hlocks := B.notSynchronized
  have hin : meth.name = "<init>" := (name_of_methodNamed B.named B.method).1
  subst hsz
  have hD := hD0.self (sz := s.heap.size)
  generalize hAe : va_A [(p6, .inr (4, [.null, .null, .null, .null, .null, .null, .null, .null, .null, .null, .null, .null, .null, .null, .null, .int 0, .int 0, .null]))] s.heap.size = A at hD ⊢
  have hA : ∀ q : Nat, s.heap.size ≤ q → A q := fun q h => by rw [← hAe]; exact Or.inr h
  have hS : va_S A s.heap s.heap [] := va_S.rf
  have hP : va_P (dC, dI) vwCl [(p6, .inr (4, [.null, .null, .null, .null, .null, .null, .null, .null, .null, .null, .null, .null, .null, .null, .null, .int 0, .int 0, .null]))] s.heap := hP
  have hl := lv_entry ([.ref p6, .ref p1, .ref p3]) (n := 3) (Nat.le_of_ble_eq_true rfl)
  rw [lg_entry_eq]
  generalize (lg_sl ([.ref p6, .ref p1, .ref p3]) ++ List.replicate (3 - (lg_sl ([.ref p6, .ref p1, .ref p3])).length) Slot.unset).toArray = ls at hl ⊢
  have hl : lv_has ls 3 [(0, .ref p6), (1, .ref p1), (2, .ref p3)] := hl
  refine lv_aload_n hx hb dX3_init_0 rfl (lv_at hl 0 rfl) ?_
  refine W.objInit hx hb hown (hts _ (vA_in _ _ (in_19 _ (zs16 (zs4 (zs4 (zs1 (zs0)))))))) (hts _ (vA_in _ _ (in_4 _ (zs16 (zs1 (zs0)))))) (hts _ (vA_in _ _ (in_4 _ (zs16 (zs1 (zs1 (zs0))))))) rfl (by rw [hml]; exact hl.1) rfl dX3_init_1 (Nat.le_of_ble_eq_true rfl) (Nat.le_of_ble_eq_true rfl) ?_
  refine W.eq (g2 := F0 m 4 ls []) rfl ?_
  refine lv_aload_n hx hb dX3_init_4 rfl (lv_at hl 0 rfl) ?_
  refine lv_sipush (v := 320) hx hb dX3_init_5 (by decide) ?_
  refine va_newa (atype := .boolean) (ty := .boolean) (N' := 320) (a0 := (320, .inl (fun _ => (0 : Int32)))) hx hb (hts _ (vA_in _ _ (in_19 _ (zs4 (zs4 (zs1 (zs1 (zs0)))))))) rfl hK hP hD hS hA (fun _ => rfl) (by decide) (by decide) (Nat.le_of_ble_eq_true rfl) (Nat.le_of_ble_eq_true rfl) (Nat.le_of_ble_eq_true rfl) dX3_init_8 (fun q1 kq1 H hK hP hD hS => ?_)
  have hK : va_K (dC, dI) vwCl [(kq1, .boolean)] s := hK
  have hP : va_P (dC, dI) vwCl [(p6, .inr (4, [.null, .null, .null, .null, .null, .null, .null, .null, .null, .null, .null, .null, .null, .null, .null, .int 0, .int 0, .null])), (q1, .inl (kq1, 320, .inl (fun _ => (0 : Int32))))] H := hP
  have hD : va_D A [(p6, .inr (4, [.null, .null, .null, .null, .null, .null, .null, .null, .null, .null, .null, .null, .null, .null, .null, .int 0, .int 0, .null])), (q1, .inl (kq1, 320, .inl (fun _ => (0 : Int32))))] := hD
  refine W.widen (k := 1) (n := 320) (by first | exact Nat.le_of_ble_eq_true rfl | omega) (by first | exact Nat.le_of_ble_eq_true rfl | omega) ?_
  refine va_putF (D := (dC, dI)) (ci := 4) (v := .ref q1) (ty := .array .boolean) (C := RX3) (T := TX3) (N := 18) hx hb hts (fun w h => vA_in _ w (in_X3 w h)) tyX3 tyX3_ok nmX3 hown hK hP hD hS 0 rfl rfl 2 (by decide) (hts _ (vA_in _ _ (in_11 _ (zs16 (zs4 (zs4 (zs1 (zs1 (zs0))))))))) (fun _ h9 => h9) rfl hin rfl (by decide +kernel) rfl rfl (Nat.le_of_ble_eq_true rfl) dX3_init_10 (fun H locs hP hD hS => ?_)
  have hP : va_P (dC, dI) vwCl [(p6, .inr (4, [.null, .null, .ref q1, .null, .null, .null, .null, .null, .null, .null, .null, .null, .null, .null, .null, .int 0, .int 0, .null])), (q1, .inl (kq1, 320, .inl (fun _ => (0 : Int32))))] H := hP
  have hD : va_D A [(p6, .inr (4, [.null, .null, .ref q1, .null, .null, .null, .null, .null, .null, .null, .null, .null, .null, .null, .null, .int 0, .int 0, .null])), (q1, .inl (kq1, 320, .inl (fun _ => (0 : Int32))))] := hD
  refine lv_aload_n hx hb dX3_init_13 rfl (lv_at hl 0 rfl) ?_
  refine lv_sipush (v := 320) hx hb dX3_init_14 (by decide) ?_
  refine va_newa (atype := .int) (ty := .int) (N' := 320) (a0 := (320, .inl (fun _ => (0 : Int32)))) hx hb (hts _ (vA_in _ _ (in_2 _ (zs16 (zs16 (zs4 (zs1 (zs1 (zs0))))))))) rfl hK hP hD hS hA (fun _ => rfl) (by decide) (by decide) (Nat.le_of_ble_eq_true rfl) (Nat.le_of_ble_eq_true rfl) (Nat.le_of_ble_eq_true rfl) dX3_init_17 (fun q2 kq2 H hK hP hD hS => ?_)
  have hK : va_K (dC, dI) vwCl [(kq1, .boolean), (kq2, .int)] s := hK
  have hP : va_P (dC, dI) vwCl [(p6, .inr (4, [.null, .null, .ref q1, .null, .null, .null, .null, .null, .null, .null, .null, .null, .null, .null, .null, .int 0, .int 0, .null])), (q1, .inl (kq1, 320, .inl (fun _ => (0 : Int32)))), (q2, .inl (kq2, 320, .inl (fun _ => (0 : Int32))))] H := hP
  have hD : va_D A [(p6, .inr (4, [.null, .null, .ref q1, .null, .null, .null, .null, .null, .null, .null, .null, .null, .null, .null, .null, .int 0, .int 0, .null])), (q1, .inl (kq1, 320, .inl (fun _ => (0 : Int32)))), (q2, .inl (kq2, 320, .inl (fun _ => (0 : Int32))))] := hD
  refine W.widen (k := 2) (n := 640) (by first | exact Nat.le_of_ble_eq_true rfl | omega) (by first | exact Nat.le_of_ble_eq_true rfl | omega) ?_
  refine va_putF (D := (dC, dI)) (ci := 4) (v := .ref q2) (ty := .array .int) (C := RX3) (T := TX3) (N := 18) hx hb hts (fun w h => vA_in _ w (in_X3 w h)) tyX3 tyX3_ok nmX3 hown hK hP hD hS 0 rfl rfl 3 (by decide) (hts _ (vA_in _ _ (in_11 _ (zs16 (zs4 (zs4 (zs4 (zs0)))))))) (fun _ h9 => h9) rfl hin rfl (by decide +kernel) rfl rfl (Nat.le_of_ble_eq_true rfl) dX3_init_19 (fun H locs hP hD hS => ?_)
  have hP : va_P (dC, dI) vwCl [(p6, .inr (4, [.null, .null, .ref q1, .ref q2, .null, .null, .null, .null, .null, .null, .null, .null, .null, .null, .null, .int 0, .int 0, .null])), (q1, .inl (kq1, 320, .inl (fun _ => (0 : Int32)))), (q2, .inl (kq2, 320, .inl (fun _ => (0 : Int32))))] H := hP
  have hD : va_D A [(p6, .inr (4, [.null, .null, .ref q1, .ref q2, .null, .null, .null, .null, .null, .null, .null, .null, .null, .null, .null, .int 0, .int 0, .null])), (q1, .inl (kq1, 320, .inl (fun _ => (0 : Int32)))), (q2, .inl (kq2, 320, .inl (fun _ => (0 : Int32))))] := hD
  refine lv_aload_n hx hb dX3_init_22 rfl (lv_at hl 0 rfl) ?_
  refine lv_sipush (v := 320) hx hb dX3_init_23 (by decide) ?_
  refine va_newa (atype := .int) (ty := .int) (N' := 320) (a0 := (320, .inl (fun _ => (0 : Int32)))) hx hb (hts _ (vA_in _ _ (in_2 _ (zs16 (zs16 (zs4 (zs1 (zs1 (zs0))))))))) rfl hK hP hD hS hA (fun _ => rfl) (by decide) (by decide) (Nat.le_of_ble_eq_true rfl) (Nat.le_of_ble_eq_true rfl) (Nat.le_of_ble_eq_true rfl) dX3_init_26 (fun q3 kq3 H hK hP hD hS => ?_)
  have hK : va_K (dC, dI) vwCl [(kq1, .boolean), (kq2, .int), (kq3, .int)] s := hK
  have hP : va_P (dC, dI) vwCl [(p6, .inr (4, [.null, .null, .ref q1, .ref q2, .null, .null, .null, .null, .null, .null, .null, .null, .null, .null, .null, .int 0, .int 0, .null])), (q1, .inl (kq1, 320, .inl (fun _ => (0 : Int32)))), (q2, .inl (kq2, 320, .inl (fun _ => (0 : Int32)))), (q3, .inl (kq3, 320, .inl (fun _ => (0 : Int32))))] H := hP
  have hD : va_D A [(p6, .inr (4, [.null, .null, .ref q1, .ref q2, .null, .null, .null, .null, .null, .null, .null, .null, .null, .null, .null, .int 0, .int 0, .null])), (q1, .inl (kq1, 320, .inl (fun _ => (0 : Int32)))), (q2, .inl (kq2, 320, .inl (fun _ => (0 : Int32)))), (q3, .inl (kq3, 320, .inl (fun _ => (0 : Int32))))] := hD
  refine W.widen (k := 3) (n := 960) (by first | exact Nat.le_of_ble_eq_true rfl | omega) (by first | exact Nat.le_of_ble_eq_true rfl | omega) ?_
  obtain rfl : kq2 = kq3 := ub_sa_int hK 1 2 rfl rfl
  have hK := hK.sub (tys' := [(kq1, .boolean), (kq2, .int)]) [0, 1] rfl
  refine va_putF (D := (dC, dI)) (ci := 4) (v := .ref q3) (ty := .array .int) (C := RX3) (T := TX3) (N := 18) hx hb hts (fun w h => vA_in _ w (in_X3 w h)) tyX3 tyX3_ok nmX3 hown hK hP hD hS 0 rfl rfl 4 (by decide) (hts _ (vA_in _ _ (in_11 _ (zs16 (zs4 (zs4 (zs4 (zs1 (zs1 (zs0)))))))))) (fun _ h9 => h9) rfl hin rfl (by decide +kernel) rfl rfl (Nat.le_of_ble_eq_true rfl) dX3_init_28 (fun H locs hP hD hS => ?_)
  have hP : va_P (dC, dI) vwCl [(p6, .inr (4, [.null, .null, .ref q1, .ref q2, .ref q3, .null, .null, .null, .null, .null, .null, .null, .null, .null, .null, .int 0, .int 0, .null])), (q1, .inl (kq1, 320, .inl (fun _ => (0 : Int32)))), (q2, .inl (kq2, 320, .inl (fun _ => (0 : Int32)))), (q3, .inl (kq2, 320, .inl (fun _ => (0 : Int32))))] H := hP
  have hD : va_D A [(p6, .inr (4, [.null, .null, .ref q1, .ref q2, .ref q3, .null, .null, .null, .null, .null, .null, .null, .null, .null, .null, .int 0, .int 0, .null])), (q1, .inl (kq1, 320, .inl (fun _ => (0 : Int32)))), (q2, .inl (kq2, 320, .inl (fun _ => (0 : Int32)))), (q3, .inl (kq2, 320, .inl (fun _ => (0 : Int32))))] := hD
  refine lv_aload_n hx hb dX3_init_31 rfl (lv_at hl 0 rfl) ?_
  refine lv_sipush (v := 320) hx hb dX3_init_32 (by decide) ?_
  refine va_newa (atype := .int) (ty := .int) (N' := 320) (a0 := (320, .inl (fun _ => (0 : Int32)))) hx hb (hts _ (vA_in _ _ (in_2 _ (zs16 (zs16 (zs4 (zs1 (zs1 (zs0))))))))) rfl hK hP hD hS hA (fun _ => rfl) (by decide) (by decide) (Nat.le_of_ble_eq_true rfl) (Nat.le_of_ble_eq_true rfl) (Nat.le_of_ble_eq_true rfl) dX3_init_35 (fun q4 kq4 H hK hP hD hS => ?_)
  have hK : va_K (dC, dI) vwCl [(kq1, .boolean), (kq2, .int), (kq4, .int)] s := hK
  have hP : va_P (dC, dI) vwCl [(p6, .inr (4, [.null, .null, .ref q1, .ref q2, .ref q3, .null, .null, .null, .null, .null, .null, .null, .null, .null, .null, .int 0, .int 0, .null])), (q1, .inl (kq1, 320, .inl (fun _ => (0 : Int32)))), (q2, .inl (kq2, 320, .inl (fun _ => (0 : Int32)))), (q3, .inl (kq2, 320, .inl (fun _ => (0 : Int32)))), (q4, .inl (kq4, 320, .inl (fun _ => (0 : Int32))))] H := hP
  have hD : va_D A [(p6, .inr (4, [.null, .null, .ref q1, .ref q2, .ref q3, .null, .null, .null, .null, .null, .null, .null, .null, .null, .null, .int 0, .int 0, .null])), (q1, .inl (kq1, 320, .inl (fun _ => (0 : Int32)))), (q2, .inl (kq2, 320, .inl (fun _ => (0 : Int32)))), (q3, .inl (kq2, 320, .inl (fun _ => (0 : Int32)))), (q4, .inl (kq4, 320, .inl (fun _ => (0 : Int32))))] := hD
  refine W.widen (k := 4) (n := 1280) (by first | exact Nat.le_of_ble_eq_true rfl | omega) (by first | exact Nat.le_of_ble_eq_true rfl | omega) ?_
  obtain rfl : kq2 = kq4 := ub_sa_int hK 1 2 rfl rfl
  have hK := hK.sub (tys' := [(kq1, .boolean), (kq2, .int)]) [0, 1] rfl
  refine va_putF (D := (dC, dI)) (ci := 4) (v := .ref q4) (ty := .array .int) (C := RX3) (T := TX3) (N := 18) hx hb hts (fun w h => vA_in _ w (in_X3 w h)) tyX3 tyX3_ok nmX3 hown hK hP hD hS 0 rfl rfl 5 (by decide) (hts _ (vA_in _ _ (in_11 _ (zs16 (zs16 (zs0)))))) (fun _ h9 => h9) rfl hin rfl (by decide +kernel) rfl rfl (Nat.le_of_ble_eq_true rfl) dX3_init_37 (fun H locs hP hD hS => ?_)
  have hP : va_P (dC, dI) vwCl [(p6, .inr (4, [.null, .null, .ref q1, .ref q2, .ref q3, .ref q4, .null, .null, .null, .null, .null, .null, .null, .null, .null, .int 0, .int 0, .null])), (q1, .inl (kq1, 320, .inl (fun _ => (0 : Int32)))), (q2, .inl (kq2, 320, .inl (fun _ => (0 : Int32)))), (q3, .inl (kq2, 320, .inl (fun _ => (0 : Int32)))), (q4, .inl (kq2, 320, .inl (fun _ => (0 : Int32))))] H := hP
  have hD : va_D A [(p6, .inr (4, [.null, .null, .ref q1, .ref q2, .ref q3, .ref q4, .null, .null, .null, .null, .null, .null, .null, .null, .null, .int 0, .int 0, .null])), (q1, .inl (kq1, 320, .inl (fun _ => (0 : Int32)))), (q2, .inl (kq2, 320, .inl (fun _ => (0 : Int32)))), (q3, .inl (kq2, 320, .inl (fun _ => (0 : Int32)))), (q4, .inl (kq2, 320, .inl (fun _ => (0 : Int32))))] := hD
  refine lv_aload_n hx hb dX3_init_40 rfl (lv_at hl 0 rfl) ?_
  refine lv_bipush (v := 20) hx hb dX3_init_41 (by decide) ?_
  refine va_newa (atype := .int) (ty := .int) (N' := 20) (a0 := (20, .inl (fun _ => (0 : Int32)))) hx hb (hts _ (vA_in _ _ (in_2 _ (zs16 (zs16 (zs4 (zs1 (zs1 (zs0))))))))) rfl hK hP hD hS hA (fun _ => rfl) (by decide) (by decide) (Nat.le_of_ble_eq_true rfl) (Nat.le_of_ble_eq_true rfl) (Nat.le_of_ble_eq_true rfl) dX3_init_43 (fun q5 kq5 H hK hP hD hS => ?_)
  have hK : va_K (dC, dI) vwCl [(kq1, .boolean), (kq2, .int), (kq5, .int)] s := hK
  have hP : va_P (dC, dI) vwCl [(p6, .inr (4, [.null, .null, .ref q1, .ref q2, .ref q3, .ref q4, .null, .null, .null, .null, .null, .null, .null, .null, .null, .int 0, .int 0, .null])), (q1, .inl (kq1, 320, .inl (fun _ => (0 : Int32)))), (q2, .inl (kq2, 320, .inl (fun _ => (0 : Int32)))), (q3, .inl (kq2, 320, .inl (fun _ => (0 : Int32)))), (q4, .inl (kq2, 320, .inl (fun _ => (0 : Int32)))), (q5, .inl (kq5, 20, .inl (fun _ => (0 : Int32))))] H := hP
  have hD : va_D A [(p6, .inr (4, [.null, .null, .ref q1, .ref q2, .ref q3, .ref q4, .null, .null, .null, .null, .null, .null, .null, .null, .null, .int 0, .int 0, .null])), (q1, .inl (kq1, 320, .inl (fun _ => (0 : Int32)))), (q2, .inl (kq2, 320, .inl (fun _ => (0 : Int32)))), (q3, .inl (kq2, 320, .inl (fun _ => (0 : Int32)))), (q4, .inl (kq2, 320, .inl (fun _ => (0 : Int32)))), (q5, .inl (kq5, 20, .inl (fun _ => (0 : Int32))))] := hD
  refine W.widen (k := 5) (n := 1300) (by first | exact Nat.le_of_ble_eq_true rfl | omega) (by first | exact Nat.le_of_ble_eq_true rfl | omega) ?_
  obtain rfl : kq2 = kq5 := ub_sa_int hK 1 2 rfl rfl
  have hK := hK.sub (tys' := [(kq1, .boolean), (kq2, .int)]) [0, 1] rfl
  refine va_putF (D := (dC, dI)) (ci := 4) (v := .ref q5) (ty := .array .int) (C := RX3) (T := TX3) (N := 18) hx hb hts (fun w h => vA_in _ w (in_X3 w h)) tyX3 tyX3_ok nmX3 hown hK hP hD hS 0 rfl rfl 6 (by decide) (hts _ (vA_in _ _ (in_17 _ (zs4 (zs4 (zs1 (zs1 (zs1 (zs0))))))))) (fun _ h9 => h9) rfl hin rfl (by decide +kernel) rfl rfl (Nat.le_of_ble_eq_true rfl) dX3_init_45 (fun H locs hP hD hS => ?_)
  have hP : va_P (dC, dI) vwCl [(p6, .inr (4, [.null, .null, .ref q1, .ref q2, .ref q3, .ref q4, .ref q5, .null, .null, .null, .null, .null, .null, .null, .null, .int 0, .int 0, .null])), (q1, .inl (kq1, 320, .inl (fun _ => (0 : Int32)))), (q2, .inl (kq2, 320, .inl (fun _ => (0 : Int32)))), (q3, .inl (kq2, 320, .inl (fun _ => (0 : Int32)))), (q4, .inl (kq2, 320, .inl (fun _ => (0 : Int32)))), (q5, .inl (kq2, 20, .inl (fun _ => (0 : Int32))))] H := hP
  have hD : va_D A [(p6, .inr (4, [.null, .null, .ref q1, .ref q2, .ref q3, .ref q4, .ref q5, .null, .null, .null, .null, .null, .null, .null, .null, .int 0, .int 0, .null])), (q1, .inl (kq1, 320, .inl (fun _ => (0 : Int32)))), (q2, .inl (kq2, 320, .inl (fun _ => (0 : Int32)))), (q3, .inl (kq2, 320, .inl (fun _ => (0 : Int32)))), (q4, .inl (kq2, 320, .inl (fun _ => (0 : Int32)))), (q5, .inl (kq2, 20, .inl (fun _ => (0 : Int32))))] := hD
  refine lv_aload_n hx hb dX3_init_48 rfl (lv_at hl 0 rfl) ?_
  refine lv_bipush (v := 20) hx hb dX3_init_49 (by decide) ?_
  refine va_newa (atype := .int) (ty := .int) (N' := 20) (a0 := (20, .inl (fun _ => (0 : Int32)))) hx hb (hts _ (vA_in _ _ (in_2 _ (zs16 (zs16 (zs4 (zs1 (zs1 (zs0))))))))) rfl hK hP hD hS hA (fun _ => rfl) (by decide) (by decide) (Nat.le_of_ble_eq_true rfl) (Nat.le_of_ble_eq_true rfl) (Nat.le_of_ble_eq_true rfl) dX3_init_51 (fun q6 kq6 H hK hP hD hS => ?_)
  have hK : va_K (dC, dI) vwCl [(kq1, .boolean), (kq2, .int), (kq6, .int)] s := hK
  have hP : va_P (dC, dI) vwCl [(p6, .inr (4, [.null, .null, .ref q1, .ref q2, .ref q3, .ref q4, .ref q5, .null, .null, .null, .null, .null, .null, .null, .null, .int 0, .int 0, .null])), (q1, .inl (kq1, 320, .inl (fun _ => (0 : Int32)))), (q2, .inl (kq2, 320, .inl (fun _ => (0 : Int32)))), (q3, .inl (kq2, 320, .inl (fun _ => (0 : Int32)))), (q4, .inl (kq2, 320, .inl (fun _ => (0 : Int32)))), (q5, .inl (kq2, 20, .inl (fun _ => (0 : Int32)))), (q6, .inl (kq6, 20, .inl (fun _ => (0 : Int32))))] H := hP
  have hD : va_D A [(p6, .inr (4, [.null, .null, .ref q1, .ref q2, .ref q3, .ref q4, .ref q5, .null, .null, .null, .null, .null, .null, .null, .null, .int 0, .int 0, .null])), (q1, .inl (kq1, 320, .inl (fun _ => (0 : Int32)))), (q2, .inl (kq2, 320, .inl (fun _ => (0 : Int32)))), (q3, .inl (kq2, 320, .inl (fun _ => (0 : Int32)))), (q4, .inl (kq2, 320, .inl (fun _ => (0 : Int32)))), (q5, .inl (kq2, 20, .inl (fun _ => (0 : Int32)))), (q6, .inl (kq6, 20, .inl (fun _ => (0 : Int32))))] := hD
  refine W.widen (k := 6) (n := 1320) (by first | exact Nat.le_of_ble_eq_true rfl | omega) (by first | exact Nat.le_of_ble_eq_true rfl | omega) ?_
  obtain rfl : kq2 = kq6 := ub_sa_int hK 1 2 rfl rfl
  have hK := hK.sub (tys' := [(kq1, .boolean), (kq2, .int)]) [0, 1] rfl
  refine va_putF (D := (dC, dI)) (ci := 4) (v := .ref q6) (ty := .array .int) (C := RX3) (T := TX3) (N := 18) hx hb hts (fun w h => vA_in _ w (in_X3 w h)) tyX3 tyX3_ok nmX3 hown hK hP hD hS 0 rfl rfl 7 (by decide) (hts _ (vA_in _ _ (in_17 _ (zs4 (zs4 (zs4 (zs0))))))) (fun _ h9 => h9) rfl hin rfl (by decide +kernel) rfl rfl (Nat.le_of_ble_eq_true rfl) dX3_init_53 (fun H locs hP hD hS => ?_)
  have hP : va_P (dC, dI) vwCl [(p6, .inr (4, [.null, .null, .ref q1, .ref q2, .ref q3, .ref q4, .ref q5, .ref q6, .null, .null, .null, .null, .null, .null, .null, .int 0, .int 0, .null])), (q1, .inl (kq1, 320, .inl (fun _ => (0 : Int32)))), (q2, .inl (kq2, 320, .inl (fun _ => (0 : Int32)))), (q3, .inl (kq2, 320, .inl (fun _ => (0 : Int32)))), (q4, .inl (kq2, 320, .inl (fun _ => (0 : Int32)))), (q5, .inl (kq2, 20, .inl (fun _ => (0 : Int32)))), (q6, .inl (kq2, 20, .inl (fun _ => (0 : Int32))))] H := hP
  have hD : va_D A [(p6, .inr (4, [.null, .null, .ref q1, .ref q2, .ref q3, .ref q4, .ref q5, .ref q6, .null, .null, .null, .null, .null, .null, .null, .int 0, .int 0, .null])), (q1, .inl (kq1, 320, .inl (fun _ => (0 : Int32)))), (q2, .inl (kq2, 320, .inl (fun _ => (0 : Int32)))), (q3, .inl (kq2, 320, .inl (fun _ => (0 : Int32)))), (q4, .inl (kq2, 320, .inl (fun _ => (0 : Int32)))), (q5, .inl (kq2, 20, .inl (fun _ => (0 : Int32)))), (q6, .inl (kq2, 20, .inl (fun _ => (0 : Int32))))] := hD
  refine lv_aload_n hx hb dX3_init_56 rfl (lv_at hl 0 rfl) ?_
  refine lv_bipush (v := 20) hx hb dX3_init_57 (by decide) ?_
  refine va_newa (atype := .int) (ty := .int) (N' := 20) (a0 := (20, .inl (fun _ => (0 : Int32)))) hx hb (hts _ (vA_in _ _ (in_2 _ (zs16 (zs16 (zs4 (zs1 (zs1 (zs0))))))))) rfl hK hP hD hS hA (fun _ => rfl) (by decide) (by decide) (Nat.le_of_ble_eq_true rfl) (Nat.le_of_ble_eq_true rfl) (Nat.le_of_ble_eq_true rfl) dX3_init_59 (fun q7 kq7 H hK hP hD hS => ?_)
  have hK : va_K (dC, dI) vwCl [(kq1, .boolean), (kq2, .int), (kq7, .int)] s := hK
  have hP : va_P (dC, dI) vwCl [(p6, .inr (4, [.null, .null, .ref q1, .ref q2, .ref q3, .ref q4, .ref q5, .ref q6, .null, .null, .null, .null, .null, .null, .null, .int 0, .int 0, .null])), (q1, .inl (kq1, 320, .inl (fun _ => (0 : Int32)))), (q2, .inl (kq2, 320, .inl (fun _ => (0 : Int32)))), (q3, .inl (kq2, 320, .inl (fun _ => (0 : Int32)))), (q4, .inl (kq2, 320, .inl (fun _ => (0 : Int32)))), (q5, .inl (kq2, 20, .inl (fun _ => (0 : Int32)))), (q6, .inl (kq2, 20, .inl (fun _ => (0 : Int32)))), (q7, .inl (kq7, 20, .inl (fun _ => (0 : Int32))))] H := hP
  have hD : va_D A [(p6, .inr (4, [.null, .null, .ref q1, .ref q2, .ref q3, .ref q4, .ref q5, .ref q6, .null, .null, .null, .null, .null, .null, .null, .int 0, .int 0, .null])), (q1, .inl (kq1, 320, .inl (fun _ => (0 : Int32)))), (q2, .inl (kq2, 320, .inl (fun _ => (0 : Int32)))), (q3, .inl (kq2, 320, .inl (fun _ => (0 : Int32)))), (q4, .inl (kq2, 320, .inl (fun _ => (0 : Int32)))), (q5, .inl (kq2, 20, .inl (fun _ => (0 : Int32)))), (q6, .inl (kq2, 20, .inl (fun _ => (0 : Int32)))), (q7, .inl (kq7, 20, .inl (fun _ => (0 : Int32))))] := hD
  refine W.widen (k := 7) (n := 1340) (by first | exact Nat.le_of_ble_eq_true rfl | omega) (by first | exact Nat.le_of_ble_eq_true rfl | omega) ?_
  obtain rfl : kq2 = kq7 := ub_sa_int hK 1 2 rfl rfl
  have hK := hK.sub (tys' := [(kq1, .boolean), (kq2, .int)]) [0, 1] rfl
  refine va_putF (D := (dC, dI)) (ci := 4) (v := .ref q7) (ty := .array .int) (C := RX3) (T := TX3) (N := 18) hx hb hts (fun w h => vA_in _ w (in_X3 w h)) tyX3 tyX3_ok nmX3 hown hK hP hD hS 0 rfl rfl 8 (by decide) (hts _ (vA_in _ _ (in_17 _ (zs4 (zs4 (zs1 (zs1 (zs0)))))))) (fun _ h9 => h9) rfl hin rfl (by decide +kernel) rfl rfl (Nat.le_of_ble_eq_true rfl) dX3_init_61 (fun H locs hP hD hS => ?_)
  have hP : va_P (dC, dI) vwCl [(p6, .inr (4, [.null, .null, .ref q1, .ref q2, .ref q3, .ref q4, .ref q5, .ref q6, .ref q7, .null, .null, .null, .null, .null, .null, .int 0, .int 0, .null])), (q1, .inl (kq1, 320, .inl (fun _ => (0 : Int32)))), (q2, .inl (kq2, 320, .inl (fun _ => (0 : Int32)))), (q3, .inl (kq2, 320, .inl (fun _ => (0 : Int32)))), (q4, .inl (kq2, 320, .inl (fun _ => (0 : Int32)))), (q5, .inl (kq2, 20, .inl (fun _ => (0 : Int32)))), (q6, .inl (kq2, 20, .inl (fun _ => (0 : Int32)))), (q7, .inl (kq2, 20, .inl (fun _ => (0 : Int32))))] H := hP
  have hD : va_D A [(p6, .inr (4, [.null, .null, .ref q1, .ref q2, .ref q3, .ref q4, .ref q5, .ref q6, .ref q7, .null, .null, .null, .null, .null, .null, .int 0, .int 0, .null])), (q1, .inl (kq1, 320, .inl (fun _ => (0 : Int32)))), (q2, .inl (kq2, 320, .inl (fun _ => (0 : Int32)))), (q3, .inl (kq2, 320, .inl (fun _ => (0 : Int32)))), (q4, .inl (kq2, 320, .inl (fun _ => (0 : Int32)))), (q5, .inl (kq2, 20, .inl (fun _ => (0 : Int32)))), (q6, .inl (kq2, 20, .inl (fun _ => (0 : Int32)))), (q7, .inl (kq2, 20, .inl (fun _ => (0 : Int32))))] := hD
  refine lv_aload_n hx hb dX3_init_64 rfl (lv_at hl 0 rfl) ?_
  refine lv_bipush (v := 20) hx hb dX3_init_65 (by decide) ?_
  refine va_newa (atype := .int) (ty := .int) (N' := 20) (a0 := (20, .inl (fun _ => (0 : Int32)))) hx hb (hts _ (vA_in _ _ (in_2 _ (zs16 (zs16 (zs4 (zs1 (zs1 (zs0))))))))) rfl hK hP hD hS hA (fun _ => rfl) (by decide) (by decide) (Nat.le_of_ble_eq_true rfl) (Nat.le_of_ble_eq_true rfl) (Nat.le_of_ble_eq_true rfl) dX3_init_67 (fun q8 kq8 H hK hP hD hS => ?_)
  have hK : va_K (dC, dI) vwCl [(kq1, .boolean), (kq2, .int), (kq8, .int)] s := hK
  have hP : va_P (dC, dI) vwCl [(p6, .inr (4, [.null, .null, .ref q1, .ref q2, .ref q3, .ref q4, .ref q5, .ref q6, .ref q7, .null, .null, .null, .null, .null, .null, .int 0, .int 0, .null])), (q1, .inl (kq1, 320, .inl (fun _ => (0 : Int32)))), (q2, .inl (kq2, 320, .inl (fun _ => (0 : Int32)))), (q3, .inl (kq2, 320, .inl (fun _ => (0 : Int32)))), (q4, .inl (kq2, 320, .inl (fun _ => (0 : Int32)))), (q5, .inl (kq2, 20, .inl (fun _ => (0 : Int32)))), (q6, .inl (kq2, 20, .inl (fun _ => (0 : Int32)))), (q7, .inl (kq2, 20, .inl (fun _ => (0 : Int32)))), (q8, .inl (kq8, 20, .inl (fun _ => (0 : Int32))))] H := hP
  have hD : va_D A [(p6, .inr (4, [.null, .null, .ref q1, .ref q2, .ref q3, .ref q4, .ref q5, .ref q6, .ref q7, .null, .null, .null, .null, .null, .null, .int 0, .int 0, .null])), (q1, .inl (kq1, 320, .inl (fun _ => (0 : Int32)))), (q2, .inl (kq2, 320, .inl (fun _ => (0 : Int32)))), (q3, .inl (kq2, 320, .inl (fun _ => (0 : Int32)))), (q4, .inl (kq2, 320, .inl (fun _ => (0 : Int32)))), (q5, .inl (kq2, 20, .inl (fun _ => (0 : Int32)))), (q6, .inl (kq2, 20, .inl (fun _ => (0 : Int32)))), (q7, .inl (kq2, 20, .inl (fun _ => (0 : Int32)))), (q8, .inl (kq8, 20, .inl (fun _ => (0 : Int32))))] := hD
  refine W.widen (k := 8) (n := 1360) (by first | exact Nat.le_of_ble_eq_true rfl | omega) (by first | exact Nat.le_of_ble_eq_true rfl | omega) ?_
  obtain rfl : kq2 = kq8 := ub_sa_int hK 1 2 rfl rfl
  have hK := hK.sub (tys' := [(kq1, .boolean), (kq2, .int)]) [0, 1] rfl
  refine va_putF (D := (dC, dI)) (ci := 4) (v := .ref q8) (ty := .array .int) (C := RX3) (T := TX3) (N := 18) hx hb hts (fun w h => vA_in _ w (in_X3 w h)) tyX3 tyX3_ok nmX3 hown hK hP hD hS 0 rfl rfl 9 (by decide) (hts _ (vA_in _ _ (in_19 _ (zs16 (zs4 (zs4 (zs1 (zs1 (zs0))))))))) (fun _ h9 => h9) rfl hin rfl (by decide +kernel) rfl rfl (Nat.le_of_ble_eq_true rfl) dX3_init_69 (fun H locs hP hD hS => ?_)
  have hP : va_P (dC, dI) vwCl [(p6, .inr (4, [.null, .null, .ref q1, .ref q2, .ref q3, .ref q4, .ref q5, .ref q6, .ref q7, .ref q8, .null, .null, .null, .null, .null, .int 0, .int 0, .null])), (q1, .inl (kq1, 320, .inl (fun _ => (0 : Int32)))), (q2, .inl (kq2, 320, .inl (fun _ => (0 : Int32)))), (q3, .inl (kq2, 320, .inl (fun _ => (0 : Int32)))), (q4, .inl (kq2, 320, .inl (fun _ => (0 : Int32)))), (q5, .inl (kq2, 20, .inl (fun _ => (0 : Int32)))), (q6, .inl (kq2, 20, .inl (fun _ => (0 : Int32)))), (q7, .inl (kq2, 20, .inl (fun _ => (0 : Int32)))), (q8, .inl (kq2, 20, .inl (fun _ => (0 : Int32))))] H := hP
  have hD : va_D A [(p6, .inr (4, [.null, .null, .ref q1, .ref q2, .ref q3, .ref q4, .ref q5, .ref q6, .ref q7, .ref q8, .null, .null, .null, .null, .null, .int 0, .int 0, .null])), (q1, .inl (kq1, 320, .inl (fun _ => (0 : Int32)))), (q2, .inl (kq2, 320, .inl (fun _ => (0 : Int32)))), (q3, .inl (kq2, 320, .inl (fun _ => (0 : Int32)))), (q4, .inl (kq2, 320, .inl (fun _ => (0 : Int32)))), (q5, .inl (kq2, 20, .inl (fun _ => (0 : Int32)))), (q6, .inl (kq2, 20, .inl (fun _ => (0 : Int32)))), (q7, .inl (kq2, 20, .inl (fun _ => (0 : Int32)))), (q8, .inl (kq2, 20, .inl (fun _ => (0 : Int32))))] := hD
  refine lv_aload_n hx hb dX3_init_72 rfl (lv_at hl 0 rfl) ?_
  refine lv_bipush (v := 16) hx hb dX3_init_73 (by decide) ?_
  refine va_newa (atype := .int) (ty := .int) (N' := 16) (a0 := (16, .inl (fun _ => (0 : Int32)))) hx hb (hts _ (vA_in _ _ (in_2 _ (zs16 (zs16 (zs4 (zs1 (zs1 (zs0))))))))) rfl hK hP hD hS hA (fun _ => rfl) (by decide) (by decide) (Nat.le_of_ble_eq_true rfl) (Nat.le_of_ble_eq_true rfl) (Nat.le_of_ble_eq_true rfl) dX3_init_75 (fun q9 kq9 H hK hP hD hS => ?_)
  have hK : va_K (dC, dI) vwCl [(kq1, .boolean), (kq2, .int), (kq9, .int)] s := hK
  have hP : va_P (dC, dI) vwCl [(p6, .inr (4, [.null, .null, .ref q1, .ref q2, .ref q3, .ref q4, .ref q5, .ref q6, .ref q7, .ref q8, .null, .null, .null, .null, .null, .int 0, .int 0, .null])), (q1, .inl (kq1, 320, .inl (fun _ => (0 : Int32)))), (q2, .inl (kq2, 320, .inl (fun _ => (0 : Int32)))), (q3, .inl (kq2, 320, .inl (fun _ => (0 : Int32)))), (q4, .inl (kq2, 320, .inl (fun _ => (0 : Int32)))), (q5, .inl (kq2, 20, .inl (fun _ => (0 : Int32)))), (q6, .inl (kq2, 20, .inl (fun _ => (0 : Int32)))), (q7, .inl (kq2, 20, .inl (fun _ => (0 : Int32)))), (q8, .inl (kq2, 20, .inl (fun _ => (0 : Int32)))), (q9, .inl (kq9, 16, .inl (fun _ => (0 : Int32))))] H := hP
  have hD : va_D A [(p6, .inr (4, [.null, .null, .ref q1, .ref q2, .ref q3, .ref q4, .ref q5, .ref q6, .ref q7, .ref q8, .null, .null, .null, .null, .null, .int 0, .int 0, .null])), (q1, .inl (kq1, 320, .inl (fun _ => (0 : Int32)))), (q2, .inl (kq2, 320, .inl (fun _ => (0 : Int32)))), (q3, .inl (kq2, 320, .inl (fun _ => (0 : Int32)))), (q4, .inl (kq2, 320, .inl (fun _ => (0 : Int32)))), (q5, .inl (kq2, 20, .inl (fun _ => (0 : Int32)))), (q6, .inl (kq2, 20, .inl (fun _ => (0 : Int32)))), (q7, .inl (kq2, 20, .inl (fun _ => (0 : Int32)))), (q8, .inl (kq2, 20, .inl (fun _ => (0 : Int32)))), (q9, .inl (kq9, 16, .inl (fun _ => (0 : Int32))))] := hD
  refine W.widen (k := 9) (n := 1376) (by first | exact Nat.le_of_ble_eq_true rfl | omega) (by first | exact Nat.le_of_ble_eq_true rfl | omega) ?_
  obtain rfl : kq2 = kq9 := ub_sa_int hK 1 2 rfl rfl
  have hK := hK.sub (tys' := [(kq1, .boolean), (kq2, .int)]) [0, 1] rfl
  refine va_putF (D := (dC, dI)) (ci := 4) (v := .ref q9) (ty := .array .int) (C := RX3) (T := TX3) (N := 18) hx hb hts (fun w h => vA_in _ w (in_X3 w h)) tyX3 tyX3_ok nmX3 hown hK hP hD hS 0 rfl rfl 10 (by decide) (hts _ (vA_in _ _ (in_17 _ (zs16 (zs4 (zs1 (zs1 (zs0)))))))) (fun _ h9 => h9) rfl hin rfl (by decide +kernel) rfl rfl (Nat.le_of_ble_eq_true rfl) dX3_init_77 (fun H locs hP hD hS => ?_)
  have hP : va_P (dC, dI) vwCl [(p6, .inr (4, [.null, .null, .ref q1, .ref q2, .ref q3, .ref q4, .ref q5, .ref q6, .ref q7, .ref q8, .ref q9, .null, .null, .null, .null, .int 0, .int 0, .null])), (q1, .inl (kq1, 320, .inl (fun _ => (0 : Int32)))), (q2, .inl (kq2, 320, .inl (fun _ => (0 : Int32)))), (q3, .inl (kq2, 320, .inl (fun _ => (0 : Int32)))), (q4, .inl (kq2, 320, .inl (fun _ => (0 : Int32)))), (q5, .inl (kq2, 20, .inl (fun _ => (0 : Int32)))), (q6, .inl (kq2, 20, .inl (fun _ => (0 : Int32)))), (q7, .inl (kq2, 20, .inl (fun _ => (0 : Int32)))), (q8, .inl (kq2, 20, .inl (fun _ => (0 : Int32)))), (q9, .inl (kq2, 16, .inl (fun _ => (0 : Int32))))] H := hP
  have hD : va_D A [(p6, .inr (4, [.null, .null, .ref q1, .ref q2, .ref q3, .ref q4, .ref q5, .ref q6, .ref q7, .ref q8, .ref q9, .null, .null, .null, .null, .int 0, .int 0, .null])), (q1, .inl (kq1, 320, .inl (fun _ => (0 : Int32)))), (q2, .inl (kq2, 320, .inl (fun _ => (0 : Int32)))), (q3, .inl (kq2, 320, .inl (fun _ => (0 : Int32)))), (q4, .inl (kq2, 320, .inl (fun _ => (0 : Int32)))), (q5, .inl (kq2, 20, .inl (fun _ => (0 : Int32)))), (q6, .inl (kq2, 20, .inl (fun _ => (0 : Int32)))), (q7, .inl (kq2, 20, .inl (fun _ => (0 : Int32)))), (q8, .inl (kq2, 20, .inl (fun _ => (0 : Int32)))), (q9, .inl (kq2, 16, .inl (fun _ => (0 : Int32))))] := hD
  refine lv_aload_n hx hb dX3_init_80 rfl (lv_at hl 0 rfl) ?_
  refine lv_sipush (v := 560) hx hb dX3_init_81 (by decide) ?_
  refine va_newa (atype := .int) (ty := .int) (N' := 560) (a0 := (560, .inl (fun _ => (0 : Int32)))) hx hb (hts _ (vA_in _ _ (in_2 _ (zs16 (zs16 (zs4 (zs1 (zs1 (zs0))))))))) rfl hK hP hD hS hA (fun _ => rfl) (by decide) (by decide) (Nat.le_of_ble_eq_true rfl) (Nat.le_of_ble_eq_true rfl) (Nat.le_of_ble_eq_true rfl) dX3_init_84 (fun q10 kq10 H hK hP hD hS => ?_)
  have hK : va_K (dC, dI) vwCl [(kq1, .boolean), (kq2, .int), (kq10, .int)] s := hK
  have hP : va_P (dC, dI) vwCl [(p6, .inr (4, [.null, .null, .ref q1, .ref q2, .ref q3, .ref q4, .ref q5, .ref q6, .ref q7, .ref q8, .ref q9, .null, .null, .null, .null, .int 0, .int 0, .null])), (q1, .inl (kq1, 320, .inl (fun _ => (0 : Int32)))), (q2, .inl (kq2, 320, .inl (fun _ => (0 : Int32)))), (q3, .inl (kq2, 320, .inl (fun _ => (0 : Int32)))), (q4, .inl (kq2, 320, .inl (fun _ => (0 : Int32)))), (q5, .inl (kq2, 20, .inl (fun _ => (0 : Int32)))), (q6, .inl (kq2, 20, .inl (fun _ => (0 : Int32)))), (q7, .inl (kq2, 20, .inl (fun _ => (0 : Int32)))), (q8, .inl (kq2, 20, .inl (fun _ => (0 : Int32)))), (q9, .inl (kq2, 16, .inl (fun _ => (0 : Int32)))), (q10, .inl (kq10, 560, .inl (fun _ => (0 : Int32))))] H := hP
  have hD : va_D A [(p6, .inr (4, [.null, .null, .ref q1, .ref q2, .ref q3, .ref q4, .ref q5, .ref q6, .ref q7, .ref q8, .ref q9, .null, .null, .null, .null, .int 0, .int 0, .null])), (q1, .inl (kq1, 320, .inl (fun _ => (0 : Int32)))), (q2, .inl (kq2, 320, .inl (fun _ => (0 : Int32)))), (q3, .inl (kq2, 320, .inl (fun _ => (0 : Int32)))), (q4, .inl (kq2, 320, .inl (fun _ => (0 : Int32)))), (q5, .inl (kq2, 20, .inl (fun _ => (0 : Int32)))), (q6, .inl (kq2, 20, .inl (fun _ => (0 : Int32)))), (q7, .inl (kq2, 20, .inl (fun _ => (0 : Int32)))), (q8, .inl (kq2, 20, .inl (fun _ => (0 : Int32)))), (q9, .inl (kq2, 16, .inl (fun _ => (0 : Int32)))), (q10, .inl (kq10, 560, .inl (fun _ => (0 : Int32))))] := hD
  refine W.widen (k := 10) (n := 1936) (by first | exact Nat.le_of_ble_eq_true rfl | omega) (by first | exact Nat.le_of_ble_eq_true rfl | omega) ?_
  obtain rfl : kq2 = kq10 := ub_sa_int hK 1 2 rfl rfl
  have hK := hK.sub (tys' := [(kq1, .boolean), (kq2, .int)]) [0, 1] rfl
  refine va_putF (D := (dC, dI)) (ci := 4) (v := .ref q10) (ty := .array .int) (C := RX3) (T := TX3) (N := 18) hx hb hts (fun w h => vA_in _ w (in_X3 w h)) tyX3 tyX3_ok nmX3 hown hK hP hD hS 0 rfl rfl 11 (by decide) (hts _ (vA_in _ _ (in_13 _ (zs16 (zs4 (zs0)))))) (fun _ h9 => h9) rfl hin rfl (by decide +kernel) rfl rfl (Nat.le_of_ble_eq_true rfl) dX3_init_86 (fun H locs hP hD hS => ?_)
  have hP : va_P (dC, dI) vwCl [(p6, .inr (4, [.null, .null, .ref q1, .ref q2, .ref q3, .ref q4, .ref q5, .ref q6, .ref q7, .ref q8, .ref q9, .ref q10, .null, .null, .null, .int 0, .int 0, .null])), (q1, .inl (kq1, 320, .inl (fun _ => (0 : Int32)))), (q2, .inl (kq2, 320, .inl (fun _ => (0 : Int32)))), (q3, .inl (kq2, 320, .inl (fun _ => (0 : Int32)))), (q4, .inl (kq2, 320, .inl (fun _ => (0 : Int32)))), (q5, .inl (kq2, 20, .inl (fun _ => (0 : Int32)))), (q6, .inl (kq2, 20, .inl (fun _ => (0 : Int32)))), (q7, .inl (kq2, 20, .inl (fun _ => (0 : Int32)))), (q8, .inl (kq2, 20, .inl (fun _ => (0 : Int32)))), (q9, .inl (kq2, 16, .inl (fun _ => (0 : Int32)))), (q10, .inl (kq2, 560, .inl (fun _ => (0 : Int32))))] H := hP
  have hD : va_D A [(p6, .inr (4, [.null, .null, .ref q1, .ref q2, .ref q3, .ref q4, .ref q5, .ref q6, .ref q7, .ref q8, .ref q9, .ref q10, .null, .null, .null, .int 0, .int 0, .null])), (q1, .inl (kq1, 320, .inl (fun _ => (0 : Int32)))), (q2, .inl (kq2, 320, .inl (fun _ => (0 : Int32)))), (q3, .inl (kq2, 320, .inl (fun _ => (0 : Int32)))), (q4, .inl (kq2, 320, .inl (fun _ => (0 : Int32)))), (q5, .inl (kq2, 20, .inl (fun _ => (0 : Int32)))), (q6, .inl (kq2, 20, .inl (fun _ => (0 : Int32)))), (q7, .inl (kq2, 20, .inl (fun _ => (0 : Int32)))), (q8, .inl (kq2, 20, .inl (fun _ => (0 : Int32)))), (q9, .inl (kq2, 16, .inl (fun _ => (0 : Int32)))), (q10, .inl (kq2, 560, .inl (fun _ => (0 : Int32))))] := hD
  refine lv_aload_n hx hb dX3_init_89 rfl (lv_at hl 0 rfl) ?_
  refine lv_iconst (v := 4) hx hb dX3_init_90 (by decide) ?_
  refine va_newa (atype := .int) (ty := .int) (N' := 4) (a0 := (4, .inl (fun _ => (0 : Int32)))) hx hb (hts _ (vA_in _ _ (in_2 _ (zs16 (zs16 (zs4 (zs1 (zs1 (zs0))))))))) rfl hK hP hD hS hA (fun _ => rfl) (by decide) (by decide) (Nat.le_of_ble_eq_true rfl) (Nat.le_of_ble_eq_true rfl) (Nat.le_of_ble_eq_true rfl) dX3_init_91 (fun q11 kq11 H hK hP hD hS => ?_)
  have hK : va_K (dC, dI) vwCl [(kq1, .boolean), (kq2, .int), (kq11, .int)] s := hK
  have hP : va_P (dC, dI) vwCl [(p6, .inr (4, [.null, .null, .ref q1, .ref q2, .ref q3, .ref q4, .ref q5, .ref q6, .ref q7, .ref q8, .ref q9, .ref q10, .null, .null, .null, .int 0, .int 0, .null])), (q1, .inl (kq1, 320, .inl (fun _ => (0 : Int32)))), (q2, .inl (kq2, 320, .inl (fun _ => (0 : Int32)))), (q3, .inl (kq2, 320, .inl (fun _ => (0 : Int32)))), (q4, .inl (kq2, 320, .inl (fun _ => (0 : Int32)))), (q5, .inl (kq2, 20, .inl (fun _ => (0 : Int32)))), (q6, .inl (kq2, 20, .inl (fun _ => (0 : Int32)))), (q7, .inl (kq2, 20, .inl (fun _ => (0 : Int32)))), (q8, .inl (kq2, 20, .inl (fun _ => (0 : Int32)))), (q9, .inl (kq2, 16, .inl (fun _ => (0 : Int32)))), (q10, .inl (kq2, 560, .inl (fun _ => (0 : Int32)))), (q11, .inl (kq11, 4, .inl (fun _ => (0 : Int32))))] H := hP
  have hD : va_D A [(p6, .inr (4, [.null, .null, .ref q1, .ref q2, .ref q3, .ref q4, .ref q5, .ref q6, .ref q7, .ref q8, .ref q9, .ref q10, .null, .null, .null, .int 0, .int 0, .null])), (q1, .inl (kq1, 320, .inl (fun _ => (0 : Int32)))), (q2, .inl (kq2, 320, .inl (fun _ => (0 : Int32)))), (q3, .inl (kq2, 320, .inl (fun _ => (0 : Int32)))), (q4, .inl (kq2, 320, .inl (fun _ => (0 : Int32)))), (q5, .inl (kq2, 20, .inl (fun _ => (0 : Int32)))), (q6, .inl (kq2, 20, .inl (fun _ => (0 : Int32)))), (q7, .inl (kq2, 20, .inl (fun _ => (0 : Int32)))), (q8, .inl (kq2, 20, .inl (fun _ => (0 : Int32)))), (q9, .inl (kq2, 16, .inl (fun _ => (0 : Int32)))), (q10, .inl (kq2, 560, .inl (fun _ => (0 : Int32)))), (q11, .inl (kq11, 4, .inl (fun _ => (0 : Int32))))] := hD
  refine W.widen (k := 11) (n := 1940) (by first | exact Nat.le_of_ble_eq_true rfl | omega) (by first | exact Nat.le_of_ble_eq_true rfl | omega) ?_
  obtain rfl : kq2 = kq11 := ub_sa_int hK 1 2 rfl rfl
  have hK := hK.sub (tys' := [(kq1, .boolean), (kq2, .int)]) [0, 1] rfl
  refine va_putF (D := (dC, dI)) (ci := 4) (v := .ref q11) (ty := .array .int) (C := RX3) (T := TX3) (N := 18) hx hb hts (fun w h => vA_in _ w (in_X3 w h)) tyX3 tyX3_ok nmX3 hown hK hP hD hS 0 rfl rfl 12 (by decide) (hts _ (vA_in _ _ (in_13 _ (zs4 (zs1 (zs1 (zs0))))))) (fun _ h9 => h9) rfl hin rfl (by decide +kernel) rfl rfl (Nat.le_of_ble_eq_true rfl) dX3_init_93 (fun H locs hP hD hS => ?_)
  have hP : va_P (dC, dI) vwCl [(p6, .inr (4, [.null, .null, .ref q1, .ref q2, .ref q3, .ref q4, .ref q5, .ref q6, .ref q7, .ref q8, .ref q9, .ref q10, .ref q11, .null, .null, .int 0, .int 0, .null])), (q1, .inl (kq1, 320, .inl (fun _ => (0 : Int32)))), (q2, .inl (kq2, 320, .inl (fun _ => (0 : Int32)))), (q3, .inl (kq2, 320, .inl (fun _ => (0 : Int32)))), (q4, .inl (kq2, 320, .inl (fun _ => (0 : Int32)))), (q5, .inl (kq2, 20, .inl (fun _ => (0 : Int32)))), (q6, .inl (kq2, 20, .inl (fun _ => (0 : Int32)))), (q7, .inl (kq2, 20, .inl (fun _ => (0 : Int32)))), (q8, .inl (kq2, 20, .inl (fun _ => (0 : Int32)))), (q9, .inl (kq2, 16, .inl (fun _ => (0 : Int32)))), (q10, .inl (kq2, 560, .inl (fun _ => (0 : Int32)))), (q11, .inl (kq2, 4, .inl (fun _ => (0 : Int32))))] H := hP
  have hD : va_D A [(p6, .inr (4, [.null, .null, .ref q1, .ref q2, .ref q3, .ref q4, .ref q5, .ref q6, .ref q7, .ref q8, .ref q9, .ref q10, .ref q11, .null, .null, .int 0, .int 0, .null])), (q1, .inl (kq1, 320, .inl (fun _ => (0 : Int32)))), (q2, .inl (kq2, 320, .inl (fun _ => (0 : Int32)))), (q3, .inl (kq2, 320, .inl (fun _ => (0 : Int32)))), (q4, .inl (kq2, 320, .inl (fun _ => (0 : Int32)))), (q5, .inl (kq2, 20, .inl (fun _ => (0 : Int32)))), (q6, .inl (kq2, 20, .inl (fun _ => (0 : Int32)))), (q7, .inl (kq2, 20, .inl (fun _ => (0 : Int32)))), (q8, .inl (kq2, 20, .inl (fun _ => (0 : Int32)))), (q9, .inl (kq2, 16, .inl (fun _ => (0 : Int32)))), (q10, .inl (kq2, 560, .inl (fun _ => (0 : Int32)))), (q11, .inl (kq2, 4, .inl (fun _ => (0 : Int32))))] := hD
  refine lv_aload_n hx hb dX3_init_96 rfl (lv_at hl 0 rfl) ?_
  refine lv_iconst (v := 4) hx hb dX3_init_97 (by decide) ?_
  refine va_newa (atype := .int) (ty := .int) (N' := 4) (a0 := (4, .inl (fun _ => (0 : Int32)))) hx hb (hts _ (vA_in _ _ (in_2 _ (zs16 (zs16 (zs4 (zs1 (zs1 (zs0))))))))) rfl hK hP hD hS hA (fun _ => rfl) (by decide) (by decide) (Nat.le_of_ble_eq_true rfl) (Nat.le_of_ble_eq_true rfl) (Nat.le_of_ble_eq_true rfl) dX3_init_98 (fun q12 kq12 H hK hP hD hS => ?_)
  have hK : va_K (dC, dI) vwCl [(kq1, .boolean), (kq2, .int), (kq12, .int)] s := hK
  have hP : va_P (dC, dI) vwCl [(p6, .inr (4, [.null, .null, .ref q1, .ref q2, .ref q3, .ref q4, .ref q5, .ref q6, .ref q7, .ref q8, .ref q9, .ref q10, .ref q11, .null, .null, .int 0, .int 0, .null])), (q1, .inl (kq1, 320, .inl (fun _ => (0 : Int32)))), (q2, .inl (kq2, 320, .inl (fun _ => (0 : Int32)))), (q3, .inl (kq2, 320, .inl (fun _ => (0 : Int32)))), (q4, .inl (kq2, 320, .inl (fun _ => (0 : Int32)))), (q5, .inl (kq2, 20, .inl (fun _ => (0 : Int32)))), (q6, .inl (kq2, 20, .inl (fun _ => (0 : Int32)))), (q7, .inl (kq2, 20, .inl (fun _ => (0 : Int32)))), (q8, .inl (kq2, 20, .inl (fun _ => (0 : Int32)))), (q9, .inl (kq2, 16, .inl (fun _ => (0 : Int32)))), (q10, .inl (kq2, 560, .inl (fun _ => (0 : Int32)))), (q11, .inl (kq2, 4, .inl (fun _ => (0 : Int32)))), (q12, .inl (kq12, 4, .inl (fun _ => (0 : Int32))))] H := hP
  have hD : va_D A [(p6, .inr (4, [.null, .null, .ref q1, .ref q2, .ref q3, .ref q4, .ref q5, .ref q6, .ref q7, .ref q8, .ref q9, .ref q10, .ref q11, .null, .null, .int 0, .int 0, .null])), (q1, .inl (kq1, 320, .inl (fun _ => (0 : Int32)))), (q2, .inl (kq2, 320, .inl (fun _ => (0 : Int32)))), (q3, .inl (kq2, 320, .inl (fun _ => (0 : Int32)))), (q4, .inl (kq2, 320, .inl (fun _ => (0 : Int32)))), (q5, .inl (kq2, 20, .inl (fun _ => (0 : Int32)))), (q6, .inl (kq2, 20, .inl (fun _ => (0 : Int32)))), (q7, .inl (kq2, 20, .inl (fun _ => (0 : Int32)))), (q8, .inl (kq2, 20, .inl (fun _ => (0 : Int32)))), (q9, .inl (kq2, 16, .inl (fun _ => (0 : Int32)))), (q10, .inl (kq2, 560, .inl (fun _ => (0 : Int32)))), (q11, .inl (kq2, 4, .inl (fun _ => (0 : Int32)))), (q12, .inl (kq12, 4, .inl (fun _ => (0 : Int32))))] := hD
  refine W.widen (k := 12) (n := 1944) (by first | exact Nat.le_of_ble_eq_true rfl | omega) (by first | exact Nat.le_of_ble_eq_true rfl | omega) ?_
  obtain rfl : kq2 = kq12 := ub_sa_int hK 1 2 rfl rfl
  have hK := hK.sub (tys' := [(kq1, .boolean), (kq2, .int)]) [0, 1] rfl
  refine va_putF (D := (dC, dI)) (ci := 4) (v := .ref q12) (ty := .array .int) (C := RX3) (T := TX3) (N := 18) hx hb hts (fun w h => vA_in _ w (in_X3 w h)) tyX3 tyX3_ok nmX3 hown hK hP hD hS 0 rfl rfl 13 (by decide) (hts _ (vA_in _ _ (in_13 _ (zs4 (zs4 (zs1 (zs0))))))) (fun _ h9 => h9) rfl hin rfl (by decide +kernel) rfl rfl (Nat.le_of_ble_eq_true rfl) dX3_init_100 (fun H locs hP hD hS => ?_)
  have hP : va_P (dC, dI) vwCl [(p6, .inr (4, [.null, .null, .ref q1, .ref q2, .ref q3, .ref q4, .ref q5, .ref q6, .ref q7, .ref q8, .ref q9, .ref q10, .ref q11, .ref q12, .null, .int 0, .int 0, .null])), (q1, .inl (kq1, 320, .inl (fun _ => (0 : Int32)))), (q2, .inl (kq2, 320, .inl (fun _ => (0 : Int32)))), (q3, .inl (kq2, 320, .inl (fun _ => (0 : Int32)))), (q4, .inl (kq2, 320, .inl (fun _ => (0 : Int32)))), (q5, .inl (kq2, 20, .inl (fun _ => (0 : Int32)))), (q6, .inl (kq2, 20, .inl (fun _ => (0 : Int32)))), (q7, .inl (kq2, 20, .inl (fun _ => (0 : Int32)))), (q8, .inl (kq2, 20, .inl (fun _ => (0 : Int32)))), (q9, .inl (kq2, 16, .inl (fun _ => (0 : Int32)))), (q10, .inl (kq2, 560, .inl (fun _ => (0 : Int32)))), (q11, .inl (kq2, 4, .inl (fun _ => (0 : Int32)))), (q12, .inl (kq2, 4, .inl (fun _ => (0 : Int32))))] H := hP
  have hD : va_D A [(p6, .inr (4, [.null, .null, .ref q1, .ref q2, .ref q3, .ref q4, .ref q5, .ref q6, .ref q7, .ref q8, .ref q9, .ref q10, .ref q11, .ref q12, .null, .int 0, .int 0, .null])), (q1, .inl (kq1, 320, .inl (fun _ => (0 : Int32)))), (q2, .inl (kq2, 320, .inl (fun _ => (0 : Int32)))), (q3, .inl (kq2, 320, .inl (fun _ => (0 : Int32)))), (q4, .inl (kq2, 320, .inl (fun _ => (0 : Int32)))), (q5, .inl (kq2, 20, .inl (fun _ => (0 : Int32)))), (q6, .inl (kq2, 20, .inl (fun _ => (0 : Int32)))), (q7, .inl (kq2, 20, .inl (fun _ => (0 : Int32)))), (q8, .inl (kq2, 20, .inl (fun _ => (0 : Int32)))), (q9, .inl (kq2, 16, .inl (fun _ => (0 : Int32)))), (q10, .inl (kq2, 560, .inl (fun _ => (0 : Int32)))), (q11, .inl (kq2, 4, .inl (fun _ => (0 : Int32)))), (q12, .inl (kq2, 4, .inl (fun _ => (0 : Int32))))] := hD
  refine lv_aload_n hx hb dX3_init_103 rfl (lv_at hl 0 rfl) ?_
  refine lv_iconst (v := 4) hx hb dX3_init_104 (by decide) ?_
  refine va_newa (atype := .int) (ty := .int) (N' := 4) (a0 := (4, .inl (fun _ => (0 : Int32)))) hx hb (hts _ (vA_in _ _ (in_2 _ (zs16 (zs16 (zs4 (zs1 (zs1 (zs0))))))))) rfl hK hP hD hS hA (fun _ => rfl) (by decide) (by decide) (Nat.le_of_ble_eq_true rfl) (Nat.le_of_ble_eq_true rfl) (Nat.le_of_ble_eq_true rfl) dX3_init_105 (fun q13 kq13 H hK hP hD hS => ?_)
  have hK : va_K (dC, dI) vwCl [(kq1, .boolean), (kq2, .int), (kq13, .int)] s := hK
  have hP : va_P (dC, dI) vwCl [(p6, .inr (4, [.null, .null, .ref q1, .ref q2, .ref q3, .ref q4, .ref q5, .ref q6, .ref q7, .ref q8, .ref q9, .ref q10, .ref q11, .ref q12, .null, .int 0, .int 0, .null])), (q1, .inl (kq1, 320, .inl (fun _ => (0 : Int32)))), (q2, .inl (kq2, 320, .inl (fun _ => (0 : Int32)))), (q3, .inl (kq2, 320, .inl (fun _ => (0 : Int32)))), (q4, .inl (kq2, 320, .inl (fun _ => (0 : Int32)))), (q5, .inl (kq2, 20, .inl (fun _ => (0 : Int32)))), (q6, .inl (kq2, 20, .inl (fun _ => (0 : Int32)))), (q7, .inl (kq2, 20, .inl (fun _ => (0 : Int32)))), (q8, .inl (kq2, 20, .inl (fun _ => (0 : Int32)))), (q9, .inl (kq2, 16, .inl (fun _ => (0 : Int32)))), (q10, .inl (kq2, 560, .inl (fun _ => (0 : Int32)))), (q11, .inl (kq2, 4, .inl (fun _ => (0 : Int32)))), (q12, .inl (kq2, 4, .inl (fun _ => (0 : Int32)))), (q13, .inl (kq13, 4, .inl (fun _ => (0 : Int32))))] H := hP
  have hD : va_D A [(p6, .inr (4, [.null, .null, .ref q1, .ref q2, .ref q3, .ref q4, .ref q5, .ref q6, .ref q7, .ref q8, .ref q9, .ref q10, .ref q11, .ref q12, .null, .int 0, .int 0, .null])), (q1, .inl (kq1, 320, .inl (fun _ => (0 : Int32)))), (q2, .inl (kq2, 320, .inl (fun _ => (0 : Int32)))), (q3, .inl (kq2, 320, .inl (fun _ => (0 : Int32)))), (q4, .inl (kq2, 320, .inl (fun _ => (0 : Int32)))), (q5, .inl (kq2, 20, .inl (fun _ => (0 : Int32)))), (q6, .inl (kq2, 20, .inl (fun _ => (0 : Int32)))), (q7, .inl (kq2, 20, .inl (fun _ => (0 : Int32)))), (q8, .inl (kq2, 20, .inl (fun _ => (0 : Int32)))), (q9, .inl (kq2, 16, .inl (fun _ => (0 : Int32)))), (q10, .inl (kq2, 560, .inl (fun _ => (0 : Int32)))), (q11, .inl (kq2, 4, .inl (fun _ => (0 : Int32)))), (q12, .inl (kq2, 4, .inl (fun _ => (0 : Int32)))), (q13, .inl (kq13, 4, .inl (fun _ => (0 : Int32))))] := hD
  refine W.widen (k := 13) (n := 1948) (by first | exact Nat.le_of_ble_eq_true rfl | omega) (by first | exact Nat.le_of_ble_eq_true rfl | omega) ?_
  obtain rfl : kq2 = kq13 := ub_sa_int hK 1 2 rfl rfl
  have hK := hK.sub (tys' := [(kq1, .boolean), (kq2, .int)]) [0, 1] rfl
  refine va_putF (D := (dC, dI)) (ci := 4) (v := .ref q13) (ty := .array .int) (C := RX3) (T := TX3) (N := 18) hx hb hts (fun w h => vA_in _ w (in_X3 w h)) tyX3 tyX3_ok nmX3 hown hK hP hD hS 0 rfl rfl 14 (by decide) (hts _ (vA_in _ _ (in_13 _ (zs4 (zs4 (zs1 (zs1 (zs0)))))))) (fun _ h9 => h9) rfl hin rfl (by decide +kernel) rfl rfl (Nat.le_of_ble_eq_true rfl) dX3_init_107 (fun H locs hP hD hS => ?_)
  have hP : va_P (dC, dI) vwCl [(p6, .inr (4, [.null, .null, .ref q1, .ref q2, .ref q3, .ref q4, .ref q5, .ref q6, .ref q7, .ref q8, .ref q9, .ref q10, .ref q11, .ref q12, .ref q13, .int 0, .int 0, .null])), (q1, .inl (kq1, 320, .inl (fun _ => (0 : Int32)))), (q2, .inl (kq2, 320, .inl (fun _ => (0 : Int32)))), (q3, .inl (kq2, 320, .inl (fun _ => (0 : Int32)))), (q4, .inl (kq2, 320, .inl (fun _ => (0 : Int32)))), (q5, .inl (kq2, 20, .inl (fun _ => (0 : Int32)))), (q6, .inl (kq2, 20, .inl (fun _ => (0 : Int32)))), (q7, .inl (kq2, 20, .inl (fun _ => (0 : Int32)))), (q8, .inl (kq2, 20, .inl (fun _ => (0 : Int32)))), (q9, .inl (kq2, 16, .inl (fun _ => (0 : Int32)))), (q10, .inl (kq2, 560, .inl (fun _ => (0 : Int32)))), (q11, .inl (kq2, 4, .inl (fun _ => (0 : Int32)))), (q12, .inl (kq2, 4, .inl (fun _ => (0 : Int32)))), (q13, .inl (kq2, 4, .inl (fun _ => (0 : Int32))))] H := hP
  have hD : va_D A [(p6, .inr (4, [.null, .null, .ref q1, .ref q2, .ref q3, .ref q4, .ref q5, .ref q6, .ref q7, .ref q8, .ref q9, .ref q10, .ref q11, .ref q12, .ref q13, .int 0, .int 0, .null])), (q1, .inl (kq1, 320, .inl (fun _ => (0 : Int32)))), (q2, .inl (kq2, 320, .inl (fun _ => (0 : Int32)))), (q3, .inl (kq2, 320, .inl (fun _ => (0 : Int32)))), (q4, .inl (kq2, 320, .inl (fun _ => (0 : Int32)))), (q5, .inl (kq2, 20, .inl (fun _ => (0 : Int32)))), (q6, .inl (kq2, 20, .inl (fun _ => (0 : Int32)))), (q7, .inl (kq2, 20, .inl (fun _ => (0 : Int32)))), (q8, .inl (kq2, 20, .inl (fun _ => (0 : Int32)))), (q9, .inl (kq2, 16, .inl (fun _ => (0 : Int32)))), (q10, .inl (kq2, 560, .inl (fun _ => (0 : Int32)))), (q11, .inl (kq2, 4, .inl (fun _ => (0 : Int32)))), (q12, .inl (kq2, 4, .inl (fun _ => (0 : Int32)))), (q13, .inl (kq2, 4, .inl (fun _ => (0 : Int32))))] := hD
  refine lv_aload_n hx hb dX3_init_110 rfl (lv_at hl 0 rfl) ?_
  refine lv_bipush (v := 16) hx hb dX3_init_111 (by decide) ?_
  refine va_newa (atype := .int) (ty := .int) (N' := 16) (a0 := (16, .inl (fun _ => (0 : Int32)))) hx hb (hts _ (vA_in _ _ (in_2 _ (zs16 (zs16 (zs4 (zs1 (zs1 (zs0))))))))) rfl hK hP hD hS hA (fun _ => rfl) (by decide) (by decide) (Nat.le_of_ble_eq_true rfl) (Nat.le_of_ble_eq_true rfl) (Nat.le_of_ble_eq_true rfl) dX3_init_113 (fun q14 kq14 H hK hP hD hS => ?_)
  have hK : va_K (dC, dI) vwCl [(kq1, .boolean), (kq2, .int), (kq14, .int)] s := hK
  have hP : va_P (dC, dI) vwCl [(p6, .inr (4, [.null, .null, .ref q1, .ref q2, .ref q3, .ref q4, .ref q5, .ref q6, .ref q7, .ref q8, .ref q9, .ref q10, .ref q11, .ref q12, .ref q13, .int 0, .int 0, .null])), (q1, .inl (kq1, 320, .inl (fun _ => (0 : Int32)))), (q2, .inl (kq2, 320, .inl (fun _ => (0 : Int32)))), (q3, .inl (kq2, 320, .inl (fun _ => (0 : Int32)))), (q4, .inl (kq2, 320, .inl (fun _ => (0 : Int32)))), (q5, .inl (kq2, 20, .inl (fun _ => (0 : Int32)))), (q6, .inl (kq2, 20, .inl (fun _ => (0 : Int32)))), (q7, .inl (kq2, 20, .inl (fun _ => (0 : Int32)))), (q8, .inl (kq2, 20, .inl (fun _ => (0 : Int32)))), (q9, .inl (kq2, 16, .inl (fun _ => (0 : Int32)))), (q10, .inl (kq2, 560, .inl (fun _ => (0 : Int32)))), (q11, .inl (kq2, 4, .inl (fun _ => (0 : Int32)))), (q12, .inl (kq2, 4, .inl (fun _ => (0 : Int32)))), (q13, .inl (kq2, 4, .inl (fun _ => (0 : Int32)))), (q14, .inl (kq14, 16, .inl (fun _ => (0 : Int32))))] H := hP
  have hD : va_D A [(p6, .inr (4, [.null, .null, .ref q1, .ref q2, .ref q3, .ref q4, .ref q5, .ref q6, .ref q7, .ref q8, .ref q9, .ref q10, .ref q11, .ref q12, .ref q13, .int 0, .int 0, .null])), (q1, .inl (kq1, 320, .inl (fun _ => (0 : Int32)))), (q2, .inl (kq2, 320, .inl (fun _ => (0 : Int32)))), (q3, .inl (kq2, 320, .inl (fun _ => (0 : Int32)))), (q4, .inl (kq2, 320, .inl (fun _ => (0 : Int32)))), (q5, .inl (kq2, 20, .inl (fun _ => (0 : Int32)))), (q6, .inl (kq2, 20, .inl (fun _ => (0 : Int32)))), (q7, .inl (kq2, 20, .inl (fun _ => (0 : Int32)))), (q8, .inl (kq2, 20, .inl (fun _ => (0 : Int32)))), (q9, .inl (kq2, 16, .inl (fun _ => (0 : Int32)))), (q10, .inl (kq2, 560, .inl (fun _ => (0 : Int32)))), (q11, .inl (kq2, 4, .inl (fun _ => (0 : Int32)))), (q12, .inl (kq2, 4, .inl (fun _ => (0 : Int32)))), (q13, .inl (kq2, 4, .inl (fun _ => (0 : Int32)))), (q14, .inl (kq14, 16, .inl (fun _ => (0 : Int32))))] := hD
  refine W.widen (k := 14) (n := 1964) (by first | exact Nat.le_of_ble_eq_true rfl | omega) (by first | exact Nat.le_of_ble_eq_true rfl | omega) ?_
  obtain rfl : kq2 = kq14 := ub_sa_int hK 1 2 rfl rfl
  have hK := hK.sub (tys' := [(kq1, .boolean), (kq2, .int)]) [0, 1] rfl
  refine va_putF (D := (dC, dI)) (ci := 4) (v := .ref q14) (ty := .array .int) (C := RX3) (T := TX3) (N := 18) hx hb hts (fun w h => vA_in _ w (in_X3 w h)) tyX3 tyX3_ok nmX3 hown hK hP hD hS 0 rfl rfl 17 (by decide) (hts _ (vA_in _ _ (in_16 _ (zs16 (zs16 (zs4 (zs1 (zs0)))))))) (fun _ h9 => h9) rfl hin rfl (by decide +kernel) rfl rfl (Nat.le_of_ble_eq_true rfl) dX3_init_115 (fun H locs hP hD hS => ?_)
  have hP : va_P (dC, dI) vwCl [(p6, .inr (4, [.null, .null, .ref q1, .ref q2, .ref q3, .ref q4, .ref q5, .ref q6, .ref q7, .ref q8, .ref q9, .ref q10, .ref q11, .ref q12, .ref q13, .int 0, .int 0, .ref q14])), (q1, .inl (kq1, 320, .inl (fun _ => (0 : Int32)))), (q2, .inl (kq2, 320, .inl (fun _ => (0 : Int32)))), (q3, .inl (kq2, 320, .inl (fun _ => (0 : Int32)))), (q4, .inl (kq2, 320, .inl (fun _ => (0 : Int32)))), (q5, .inl (kq2, 20, .inl (fun _ => (0 : Int32)))), (q6, .inl (kq2, 20, .inl (fun _ => (0 : Int32)))), (q7, .inl (kq2, 20, .inl (fun _ => (0 : Int32)))), (q8, .inl (kq2, 20, .inl (fun _ => (0 : Int32)))), (q9, .inl (kq2, 16, .inl (fun _ => (0 : Int32)))), (q10, .inl (kq2, 560, .inl (fun _ => (0 : Int32)))), (q11, .inl (kq2, 4, .inl (fun _ => (0 : Int32)))), (q12, .inl (kq2, 4, .inl (fun _ => (0 : Int32)))), (q13, .inl (kq2, 4, .inl (fun _ => (0 : Int32)))), (q14, .inl (kq2, 16, .inl (fun _ => (0 : Int32))))] H := hP
  have hD : va_D A [(p6, .inr (4, [.null, .null, .ref q1, .ref q2, .ref q3, .ref q4, .ref q5, .ref q6, .ref q7, .ref q8, .ref q9, .ref q10, .ref q11, .ref q12, .ref q13, .int 0, .int 0, .ref q14])), (q1, .inl (kq1, 320, .inl (fun _ => (0 : Int32)))), (q2, .inl (kq2, 320, .inl (fun _ => (0 : Int32)))), (q3, .inl (kq2, 320, .inl (fun _ => (0 : Int32)))), (q4, .inl (kq2, 320, .inl (fun _ => (0 : Int32)))), (q5, .inl (kq2, 20, .inl (fun _ => (0 : Int32)))), (q6, .inl (kq2, 20, .inl (fun _ => (0 : Int32)))), (q7, .inl (kq2, 20, .inl (fun _ => (0 : Int32)))), (q8, .inl (kq2, 20, .inl (fun _ => (0 : Int32)))), (q9, .inl (kq2, 16, .inl (fun _ => (0 : Int32)))), (q10, .inl (kq2, 560, .inl (fun _ => (0 : Int32)))), (q11, .inl (kq2, 4, .inl (fun _ => (0 : Int32)))), (q12, .inl (kq2, 4, .inl (fun _ => (0 : Int32)))), (q13, .inl (kq2, 4, .inl (fun _ => (0 : Int32)))), (q14, .inl (kq2, 16, .inl (fun _ => (0 : Int32))))] := hD
  refine lv_aload_n hx hb dX3_init_118 rfl (lv_at hl 0 rfl) ?_
  refine lv_aload_n hx hb dX3_init_119 rfl (lv_at hl 1 rfl) ?_
  refine va_putF (D := (dC, dI)) (ci := 4) (v := .ref p1) (ty := .object "UnlikeBoats$Book") (C := RX3) (T := TX3) (N := 18) hx hb hts (fun w h => vA_in _ w (in_X3 w h)) tyX3 tyX3_ok nmX3 hown hK hP hD hS 0 rfl rfl 0 (by decide) (hts _ (vA_in _ _ (in_11 _ (zs16 (zs1 (zs0)))))) (fun _ h9 => h9) rfl hin rfl (by decide +kernel) rfl rfl (Nat.le_of_ble_eq_true rfl) dX3_init_120 (fun H locs hP hD hS => ?_)
  have hP : va_P (dC, dI) vwCl [(p6, .inr (4, [.ref p1, .null, .ref q1, .ref q2, .ref q3, .ref q4, .ref q5, .ref q6, .ref q7, .ref q8, .ref q9, .ref q10, .ref q11, .ref q12, .ref q13, .int 0, .int 0, .ref q14])), (q1, .inl (kq1, 320, .inl (fun _ => (0 : Int32)))), (q2, .inl (kq2, 320, .inl (fun _ => (0 : Int32)))), (q3, .inl (kq2, 320, .inl (fun _ => (0 : Int32)))), (q4, .inl (kq2, 320, .inl (fun _ => (0 : Int32)))), (q5, .inl (kq2, 20, .inl (fun _ => (0 : Int32)))), (q6, .inl (kq2, 20, .inl (fun _ => (0 : Int32)))), (q7, .inl (kq2, 20, .inl (fun _ => (0 : Int32)))), (q8, .inl (kq2, 20, .inl (fun _ => (0 : Int32)))), (q9, .inl (kq2, 16, .inl (fun _ => (0 : Int32)))), (q10, .inl (kq2, 560, .inl (fun _ => (0 : Int32)))), (q11, .inl (kq2, 4, .inl (fun _ => (0 : Int32)))), (q12, .inl (kq2, 4, .inl (fun _ => (0 : Int32)))), (q13, .inl (kq2, 4, .inl (fun _ => (0 : Int32)))), (q14, .inl (kq2, 16, .inl (fun _ => (0 : Int32))))] H := hP
  have hD : va_D A [(p6, .inr (4, [.ref p1, .null, .ref q1, .ref q2, .ref q3, .ref q4, .ref q5, .ref q6, .ref q7, .ref q8, .ref q9, .ref q10, .ref q11, .ref q12, .ref q13, .int 0, .int 0, .ref q14])), (q1, .inl (kq1, 320, .inl (fun _ => (0 : Int32)))), (q2, .inl (kq2, 320, .inl (fun _ => (0 : Int32)))), (q3, .inl (kq2, 320, .inl (fun _ => (0 : Int32)))), (q4, .inl (kq2, 320, .inl (fun _ => (0 : Int32)))), (q5, .inl (kq2, 20, .inl (fun _ => (0 : Int32)))), (q6, .inl (kq2, 20, .inl (fun _ => (0 : Int32)))), (q7, .inl (kq2, 20, .inl (fun _ => (0 : Int32)))), (q8, .inl (kq2, 20, .inl (fun _ => (0 : Int32)))), (q9, .inl (kq2, 16, .inl (fun _ => (0 : Int32)))), (q10, .inl (kq2, 560, .inl (fun _ => (0 : Int32)))), (q11, .inl (kq2, 4, .inl (fun _ => (0 : Int32)))), (q12, .inl (kq2, 4, .inl (fun _ => (0 : Int32)))), (q13, .inl (kq2, 4, .inl (fun _ => (0 : Int32)))), (q14, .inl (kq2, 16, .inl (fun _ => (0 : Int32))))] := hD
  refine lv_aload_n hx hb dX3_init_123 rfl (lv_at hl 0 rfl) ?_
  refine lv_aload_n hx hb dX3_init_124 rfl (lv_at hl 2 rfl) ?_
  refine va_putF (D := (dC, dI)) (ci := 4) (v := .ref p3) (ty := .object "UnlikeBoats$Sheet") (C := RX3) (T := TX3) (N := 18) hx hb hts (fun w h => vA_in _ w (in_X3 w h)) tyX3 tyX3_ok nmX3 hown hK hP hD hS 0 rfl rfl 1 (by decide) (hts _ (vA_in _ _ (in_11 _ (zs16 (zs4 (zs4 (zs0))))))) (fun _ h9 => h9) rfl hin rfl (by decide +kernel) rfl rfl (Nat.le_of_ble_eq_true rfl) dX3_init_125 (fun H locs hP hD hS => ?_)
  have hP : va_P (dC, dI) vwCl [(p6, .inr (4, [.ref p1, .ref p3, .ref q1, .ref q2, .ref q3, .ref q4, .ref q5, .ref q6, .ref q7, .ref q8, .ref q9, .ref q10, .ref q11, .ref q12, .ref q13, .int 0, .int 0, .ref q14])), (q1, .inl (kq1, 320, .inl (fun _ => (0 : Int32)))), (q2, .inl (kq2, 320, .inl (fun _ => (0 : Int32)))), (q3, .inl (kq2, 320, .inl (fun _ => (0 : Int32)))), (q4, .inl (kq2, 320, .inl (fun _ => (0 : Int32)))), (q5, .inl (kq2, 20, .inl (fun _ => (0 : Int32)))), (q6, .inl (kq2, 20, .inl (fun _ => (0 : Int32)))), (q7, .inl (kq2, 20, .inl (fun _ => (0 : Int32)))), (q8, .inl (kq2, 20, .inl (fun _ => (0 : Int32)))), (q9, .inl (kq2, 16, .inl (fun _ => (0 : Int32)))), (q10, .inl (kq2, 560, .inl (fun _ => (0 : Int32)))), (q11, .inl (kq2, 4, .inl (fun _ => (0 : Int32)))), (q12, .inl (kq2, 4, .inl (fun _ => (0 : Int32)))), (q13, .inl (kq2, 4, .inl (fun _ => (0 : Int32)))), (q14, .inl (kq2, 16, .inl (fun _ => (0 : Int32))))] H := hP
  have hD : va_D A [(p6, .inr (4, [.ref p1, .ref p3, .ref q1, .ref q2, .ref q3, .ref q4, .ref q5, .ref q6, .ref q7, .ref q8, .ref q9, .ref q10, .ref q11, .ref q12, .ref q13, .int 0, .int 0, .ref q14])), (q1, .inl (kq1, 320, .inl (fun _ => (0 : Int32)))), (q2, .inl (kq2, 320, .inl (fun _ => (0 : Int32)))), (q3, .inl (kq2, 320, .inl (fun _ => (0 : Int32)))), (q4, .inl (kq2, 320, .inl (fun _ => (0 : Int32)))), (q5, .inl (kq2, 20, .inl (fun _ => (0 : Int32)))), (q6, .inl (kq2, 20, .inl (fun _ => (0 : Int32)))), (q7, .inl (kq2, 20, .inl (fun _ => (0 : Int32)))), (q8, .inl (kq2, 20, .inl (fun _ => (0 : Int32)))), (q9, .inl (kq2, 16, .inl (fun _ => (0 : Int32)))), (q10, .inl (kq2, 560, .inl (fun _ => (0 : Int32)))), (q11, .inl (kq2, 4, .inl (fun _ => (0 : Int32)))), (q12, .inl (kq2, 4, .inl (fun _ => (0 : Int32)))), (q13, .inl (kq2, 4, .inl (fun _ => (0 : Int32)))), (q14, .inl (kq2, 16, .inl (fun _ => (0 : Int32))))] := hD
  have hP9 := hP.sub (ws' := [(p6, .inr (4, [.ref p1, .ref p3, .ref q1, .ref q2, .ref q3, .ref q4, .ref q5, .ref q6, .ref q7, .ref q8, .ref q9, .ref q10, .ref q11, .ref q12, .ref q13, .int 0, .int 0, .ref q14])), (q1, .inl (kq1, 320, .inl (fun _ => (0 : Int32)))), (q2, .inl (kq2, 320, .inl (fun _ => (0 : Int32)))), (q3, .inl (kq2, 320, .inl (fun _ => (0 : Int32)))), (q4, .inl (kq2, 320, .inl (fun _ => (0 : Int32)))), (q5, .inl (kq2, 20, .inl (fun _ => (0 : Int32)))), (q6, .inl (kq2, 20, .inl (fun _ => (0 : Int32)))), (q7, .inl (kq2, 20, .inl (fun _ => (0 : Int32)))), (q8, .inl (kq2, 20, .inl (fun _ => (0 : Int32)))), (q9, .inl (kq2, 16, .inl (fun _ => (0 : Int32)))), (q10, .inl (kq2, 560, .inl (fun _ => (0 : Int32)))), (q11, .inl (kq2, 4, .inl (fun _ => (0 : Int32)))), (q12, .inl (kq2, 4, .inl (fun _ => (0 : Int32)))), (q13, .inl (kq2, 4, .inl (fun _ => (0 : Int32)))), (q14, .inl (kq2, 16, .inl (fun _ => (0 : Int32))))]) [0, 1, 2, 3, 4, 5, 6, 7, 8, 9, 10, 11, 12, 13, 14] rfl
  have hD9 := hD.sub (ws' := [(p6, .inr (4, [.ref p1, .ref p3, .ref q1, .ref q2, .ref q3, .ref q4, .ref q5, .ref q6, .ref q7, .ref q8, .ref q9, .ref q10, .ref q11, .ref q12, .ref q13, .int 0, .int 0, .ref q14])), (q1, .inl (kq1, 320, .inl (fun _ => (0 : Int32)))), (q2, .inl (kq2, 320, .inl (fun _ => (0 : Int32)))), (q3, .inl (kq2, 320, .inl (fun _ => (0 : Int32)))), (q4, .inl (kq2, 320, .inl (fun _ => (0 : Int32)))), (q5, .inl (kq2, 20, .inl (fun _ => (0 : Int32)))), (q6, .inl (kq2, 20, .inl (fun _ => (0 : Int32)))), (q7, .inl (kq2, 20, .inl (fun _ => (0 : Int32)))), (q8, .inl (kq2, 20, .inl (fun _ => (0 : Int32)))), (q9, .inl (kq2, 16, .inl (fun _ => (0 : Int32)))), (q10, .inl (kq2, 560, .inl (fun _ => (0 : Int32)))), (q11, .inl (kq2, 4, .inl (fun _ => (0 : Int32)))), (q12, .inl (kq2, 4, .inl (fun _ => (0 : Int32)))), (q13, .inl (kq2, 4, .inl (fun _ => (0 : Int32)))), (q14, .inl (kq2, 16, .inl (fun _ => (0 : Int32))))]) [0, 1, 2, 3, 4, 5, 6, 7, 8, 9, 10, 11, 12, 13, 14] (by decide) rfl
  have hK9 := hK.sub (tys' := [(kq2, .int), (kq1, .boolean)]) [1, 0] rfl
  exact W.vret hx hb hr (fun t ht hW => ⟨⟨(q1, q2, q3, q4, q5, q6, q7, q8, q9, q10, q11, q12, q13, q14, kq2, kq1), rfl, trivial, (by rw [ht]; exact hP9), va_K.moved hW.alike hK9, hD9⟩, hS.F ht⟩) hS.2.2 dX3_init_128
