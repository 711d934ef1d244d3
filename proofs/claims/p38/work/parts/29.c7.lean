def tyX10 : Nat → FieldType := fun k => match k with
  | 0 => .array .int
  | 1 => .int
  | 2 => .int
  | 3 => .int
  | 4 => .array .int
  | 5 => .int
  | 6 => .array .int
  | 7 => .array .int
  | 8 => .array .int
  | _ => .int
theorem nmX10 : ∀ a, a < 10 → ∀ b, b < 10 → a ≠ b → (TX10 a).2.1 ≠ (TX10 b).2.1 := by decide +kernel
theorem tyX10_ok : ∀ k, k < 10 → parseFieldDescriptor (TX10 k).2.2.1 = some (tyX10 k) := by decide +kernel
set_option maxRecDepth 100000 in
theorem zh_dX10_put_0_0 : zc cX10_put 0 [16, 24, 61, 28, 155, 0, 53, 27, 28, 124, 17, 0, 255, 126, 62, 29] = true := by decide +kernel
set_option maxRecDepth 100000 in
theorem zh_dX10_put_16_16 : zc cX10_put 16 [153, 0, 35, 42, 180, 0, 27, 42, 180, 0, 9, 190, 162, 0, 23, 42] = true := by decide +kernel
set_option maxRecDepth 100000 in
theorem zh_dX10_put_32_32 : zc cX10_put 32 [180, 0, 9, 42, 180, 0, 27, 29, 79, 42, 89, 180, 0, 27, 4, 96] = true := by decide +kernel
set_option maxRecDepth 100000 in
theorem zh_dX10_put_48_48 : zc cX10_put 48 [181, 0, 27, 132, 2, 248, 167, 255, 205, 177] = true := by decide +kernel
set_option maxRecDepth 100000 in
theorem zh_dX10_next_0_0 : zc cX10_next 0 [42, 180, 0, 34, 2, 159, 0, 6, 16, 254, 172, 42, 180, 0, 31, 42] = true := by decide +kernel
set_option maxRecDepth 100000 in
theorem zh_dX10_next_16_16 : zc cX10_next 16 [180, 0, 27, 162, 0, 30, 42, 180, 0, 9, 42, 180, 0, 31, 46, 16] = true := by decide +kernel
set_option maxRecDepth 100000 in
theorem zh_dX10_next_31_32 : zc cX10_next 32 [32, 160, 0, 16, 42, 89, 180, 0, 31, 4, 96, 181, 0, 31, 167, 255] = true := by decide +kernel
set_option maxRecDepth 100000 in
theorem zh_dX10_next_46_48 : zc cX10_next 48 [221, 42, 180, 0, 31, 42, 180, 0, 27, 162, 0, 15, 42, 180, 0, 9] = true := by decide +kernel
set_option maxRecDepth 100000 in
theorem zh_dX10_next_64_64 : zc cX10_next 64 [42, 180, 0, 31, 46, 167, 0, 4, 2, 172] = true := by decide +kernel
set_option maxRecDepth 100000 in
theorem zh_dX10_fail_0_0 : zc cX10_fail 0 [42, 180, 0, 34, 2, 160, 0, 11, 42, 42, 180, 0, 31, 181, 0, 34] = true := by decide +kernel
set_option maxRecDepth 100000 in
theorem zh_dX10_fail_16_16 : zc cX10_fail 16 [177] = true := by decide +kernel
set_option maxRecDepth 100000 in
theorem zh_dX10_take_0_0 : zc cX10_take 0 [42, 182, 0, 46, 27, 160, 0, 16, 42, 89, 180, 0, 31, 4, 96, 181] = true := by decide +kernel
set_option maxRecDepth 100000 in
theorem zh_dX10_take_15_16 : zc cX10_take 16 [0, 31, 167, 0, 7, 42, 182, 0, 50, 177] = true := by decide +kernel
set_option maxRecDepth 100000 in
theorem zh_dX10_add_0_0 : zc cX10_add 0 [42, 180, 0, 37, 42, 180, 0, 15, 190, 162, 0, 23, 42, 180, 0, 15] = true := by decide +kernel
set_option maxRecDepth 100000 in
theorem zh_dX10_add_16_16 : zc cX10_add 16 [42, 180, 0, 37, 27, 79, 42, 89, 180, 0, 37, 4, 96, 181, 0, 37] = true := by decide +kernel
set_option maxRecDepth 100000 in
theorem zh_dX10_add_32_32 : zc cX10_add 32 [177] = true := by decide +kernel
set_option maxRecDepth 100000 in
theorem zh_dX10_readCondition_0_0 : zc cX10_readCondition 0 [42, 27, 28, 182, 0, 85, 3, 62, 29, 17, 0, 200, 162, 0, 43, 42] = true := by decide +kernel
set_option maxRecDepth 100000 in
theorem zh_dX10_readCondition_16_16 : zc cX10_readCondition 16 [182, 0, 46, 16, 124, 160, 0, 34, 42, 89, 180, 0, 31, 4, 96, 181] = true := by decide +kernel
set_option maxRecDepth 100000 in
theorem zh_dX10_readCondition_31_32 : zc cX10_readCondition 32 [0, 31, 42, 27, 3, 182, 0, 85, 42, 16, 124, 184, 0, 88, 182, 0] = true := by decide +kernel
set_option maxRecDepth 100000 in
theorem zh_dX10_readCondition_46_48 : zc cX10_readCondition 48 [92, 132, 3, 1, 167, 255, 212, 177] = true := by decide +kernel
set_option maxRecDepth 100000 in
theorem zh_dX10_readPart_0_0 : zc cX10_readPart 0 [42, 27, 28, 182, 0, 95, 3, 62, 29, 17, 0, 200, 162, 0, 43, 42] = true := by decide +kernel
set_option maxRecDepth 100000 in
theorem zh_dX10_readPart_16_16 : zc cX10_readPart 16 [182, 0, 46, 16, 38, 160, 0, 34, 42, 89, 180, 0, 31, 4, 96, 181] = true := by decide +kernel
set_option maxRecDepth 100000 in
theorem zh_dX10_readPart_31_32 : zc cX10_readPart 32 [0, 31, 42, 27, 3, 182, 0, 95, 42, 16, 38, 184, 0, 88, 182, 0] = true := by decide +kernel
set_option maxRecDepth 100000 in
theorem zh_dX10_readPart_46_48 : zc cX10_readPart 48 [92, 132, 3, 1, 167, 255, 212, 177] = true := by decide +kernel
set_option maxRecDepth 100000 in
theorem zh_dX10_readUnit_0_0 : zc cX10_readUnit 0 [28, 153, 0, 7, 2, 167, 0, 7, 42, 182, 0, 46, 62, 29, 16, 33] = true := by decide +kernel
set_option maxRecDepth 100000 in
theorem zh_dX10_readUnit_16_16 : zc cX10_readUnit 16 [160, 0, 32, 42, 27, 182, 0, 98, 154, 0, 4, 177, 42, 27, 4, 96] = true := by decide +kernel
set_option maxRecDepth 100000 in
theorem zh_dX10_readUnit_32_32 : zc cX10_readUnit 32 [3, 182, 0, 95, 42, 16, 33, 184, 0, 88, 182, 0, 92, 167, 0, 49] = true := by decide +kernel
set_option maxRecDepth 100000 in
theorem zh_dX10_readUnit_48_48 : zc cX10_readUnit 48 [29, 16, 40, 160, 0, 29, 42, 27, 182, 0, 98, 154, 0, 4, 177, 42] = true := by decide +kernel
set_option maxRecDepth 100000 in
theorem zh_dX10_readUnit_64_64 : zc cX10_readUnit 64 [27, 4, 96, 3, 182, 0, 81, 42, 16, 41, 182, 0, 70, 167, 0, 17] = true := by decide +kernel
set_option maxRecDepth 100000 in
theorem zh_dX10_readUnit_80_80 : zc cX10_readUnit 80 [28, 154, 0, 8, 42, 27, 182, 0, 76, 42, 27, 182, 0, 102, 177] = true := by decide +kernel
set_option maxRecDepth 100000 in
theorem zh_dX10_readComparison_0_0 : zc cX10_readComparison 0 [42, 182, 0, 46, 61, 18, 79, 28, 184, 0, 66, 154, 0, 8, 42, 182] = true := by decide +kernel
set_option maxRecDepth 100000 in
theorem zh_dX10_readComparison_15_16 : zc cX10_readComparison 16 [0, 50, 177, 42, 89, 180, 0, 31, 4, 96, 181, 0, 31, 42, 27, 182] = true := by decide +kernel
set_option maxRecDepth 100000 in
theorem zh_dX10_readComparison_31_32 : zc cX10_readComparison 32 [0, 76, 42, 28, 184, 0, 88, 182, 0, 92, 177] = true := by decide +kernel
set_option maxRecDepth 100000 in
theorem zh_dX10_readSum_0_0 : zc cX10_readSum 0 [42, 27, 182, 0, 105, 3, 61, 28, 17, 0, 200, 162, 0, 54, 18, 108] = true := by decide +kernel
set_option maxRecDepth 100000 in
theorem zh_dX10_readSum_16_16 : zc cX10_readSum 16 [42, 182, 0, 46, 184, 0, 66, 153, 0, 42, 42, 180, 0, 9, 42, 180] = true := by decide +kernel
set_option maxRecDepth 100000 in
theorem zh_dX10_readSum_31_32 : zc cX10_readSum 32 [0, 31, 46, 62, 42, 89, 180, 0, 31, 4, 96, 181, 0, 31, 42, 27] = true := by decide +kernel
set_option maxRecDepth 100000 in
theorem zh_dX10_readSum_48_48 : zc cX10_readSum 48 [182, 0, 105, 42, 29, 184, 0, 88, 182, 0, 92, 132, 2, 1, 167, 255] = true := by decide +kernel
set_option maxRecDepth 100000 in
theorem zh_dX10_readSum_62_64 : zc cX10_readSum 64 [201, 177] = true := by decide +kernel
set_option maxRecDepth 100000 in
theorem zh_dX10_readTerm_0_0 : zc cX10_readTerm 0 [42, 27, 182, 0, 110, 3, 61, 28, 17, 0, 200, 162, 0, 54, 18, 113] = true := by decide +kernel
set_option maxRecDepth 100000 in
theorem zh_dX10_readTerm_16_16 : zc cX10_readTerm 16 [42, 182, 0, 46, 184, 0, 66, 153, 0, 42, 42, 180, 0, 9, 42, 180] = true := by decide +kernel
set_option maxRecDepth 100000 in
theorem zh_dX10_readTerm_31_32 : zc cX10_readTerm 32 [0, 31, 46, 62, 42, 89, 180, 0, 31, 4, 96, 181, 0, 31, 42, 27] = true := by decide +kernel
set_option maxRecDepth 100000 in
theorem zh_dX10_readTerm_48_48 : zc cX10_readTerm 48 [182, 0, 110, 42, 29, 184, 0, 88, 182, 0, 92, 132, 2, 1, 167, 255] = true := by decide +kernel
set_option maxRecDepth 100000 in
theorem zh_dX10_readTerm_62_64 : zc cX10_readTerm 64 [201, 177] = true := by decide +kernel
set_option maxRecDepth 100000 in
theorem zh_dX10_readAtom_0_0 : zc cX10_readAtom 0 [42, 182, 0, 46, 61, 28, 184, 0, 115, 153, 0, 10, 42, 182, 0, 118] = true := by decide +kernel
set_option maxRecDepth 100000 in
theorem zh_dX10_readAtom_16_16 : zc cX10_readAtom 16 [167, 0, 74, 18, 121, 28, 184, 0, 66, 153, 0, 30, 42, 89, 180, 0] = true := by decide +kernel
set_option maxRecDepth 100000 in
theorem zh_dX10_readAtom_30_32 : zc cX10_readAtom 32 [31, 4, 96, 181, 0, 31, 42, 18, 121, 28, 146, 182, 0, 123, 184, 0] = true := by decide +kernel
set_option maxRecDepth 100000 in
theorem zh_dX10_readAtom_46_48 : zc cX10_readAtom 48 [128, 182, 0, 92, 167, 0, 38, 28, 16, 91, 160, 0, 28, 42, 27, 182] = true := by decide +kernel
set_option maxRecDepth 100000 in
theorem zh_dX10_readAtom_63_64 : zc cX10_readAtom 64 [0, 98, 154, 0, 4, 177, 42, 27, 4, 96, 182, 0, 76, 42, 16, 93] = true := by decide +kernel
set_option maxRecDepth 100000 in
theorem zh_dX10_readAtom_80_80 : zc cX10_readAtom 80 [182, 0, 70, 167, 0, 7, 42, 182, 0, 50, 177] = true := by decide +kernel
set_option maxRecDepth 100000 in
theorem zh_dX10_readNumber_0_0 : zc cX10_readNumber 0 [3, 60, 3, 61, 28, 8, 162, 0, 63, 42, 180, 0, 31, 42, 180, 0] = true := by decide +kernel
set_option maxRecDepth 100000 in
theorem zh_dX10_readNumber_14_16 : zc cX10_readNumber 16 [27, 162, 0, 52, 42, 180, 0, 9, 42, 180, 0, 31, 46, 184, 0, 115] = true := by decide +kernel
set_option maxRecDepth 100000 in
theorem zh_dX10_readNumber_32_32 : zc cX10_readNumber 32 [153, 0, 37, 27, 16, 10, 104, 42, 180, 0, 9, 42, 180, 0, 31, 46] = true := by decide +kernel
set_option maxRecDepth 100000 in
theorem zh_dX10_readNumber_48_48 : zc cX10_readNumber 48 [96, 16, 48, 100, 60, 132, 2, 1, 42, 89, 180, 0, 31, 4, 96, 181] = true := by decide +kernel
set_option maxRecDepth 100000 in
theorem zh_dX10_readNumber_63_64 : zc cX10_readNumber 64 [0, 31, 167, 255, 194, 42, 27, 182, 0, 92, 177] = true := by decide +kernel
set_option maxRecDepth 100000 in
theorem zh_dX10_goDeeper_0_0 : zc cX10_goDeeper 0 [27, 16, 8, 161, 0, 9, 42, 182, 0, 50, 3, 172, 42, 89, 180, 0] = true := by decide +kernel
set_option maxRecDepth 100000 in
theorem zh_dX10_goDeeper_14_16 : zc cX10_goDeeper 16 [31, 4, 96, 181, 0, 31, 4, 172] = true := by decide +kernel
set_option maxRecDepth 100000 in
theorem zh_dX12_isOneOf_0_0 : zc cX12_isOneOf 0 [27, 158, 0, 16, 42, 27, 146, 182, 1, 75, 155, 0, 7, 4, 167, 0] = true := by decide +kernel
set_option maxRecDepth 100000 in
theorem zh_dX12_isOneOf_14_16 : zc cX12_isOneOf 16 [4, 3, 172] = true := by decide +kernel
theorem dX10_put_0 : decode cX10_put 0 = .ok (.bipush 24, 2) := zo_16 (zi_at zh_dX10_put_0_0 0 rfl) (zi_at zh_dX10_put_0_0 1 rfl) rfl
theorem dX10_put_2 : decode cX10_put 2 = .ok (.istore_n 2, 1) := zo_61 (zi_at zh_dX10_put_0_0 2 rfl)
theorem dX10_put_3 : decode cX10_put 3 = .ok (.iload_n 2, 1) := zo_28 (zi_at zh_dX10_put_0_0 3 rfl)
theorem dX10_put_4 : decode cX10_put 4 = .ok (.ifCond .lt 53, 3) := zo_155 (zi_at zh_dX10_put_0_0 4 rfl) (zi_at zh_dX10_put_0_0 5 rfl) (zi_at zh_dX10_put_0_0 6 rfl) rfl
theorem dX10_put_7 : decode cX10_put 7 = .ok (.iload_n 1, 1) := zo_27 (zi_at zh_dX10_put_0_0 7 rfl)
theorem dX10_put_8 : decode cX10_put 8 = .ok (.iload_n 2, 1) := zo_28 (zi_at zh_dX10_put_0_0 8 rfl)
theorem dX10_put_9 : decode cX10_put 9 = .ok (.iushr, 1) := zo_124 (zi_at zh_dX10_put_0_0 9 rfl)
theorem dX10_put_10 : decode cX10_put 10 = .ok (.sipush 255, 3) := zo_17 (zi_at zh_dX10_put_0_0 10 rfl) (zi_at zh_dX10_put_0_0 11 rfl) (zi_at zh_dX10_put_0_0 12 rfl) rfl
theorem dX10_put_13 : decode cX10_put 13 = .ok (.iand, 1) := zo_126 (zi_at zh_dX10_put_0_0 13 rfl)
theorem dX10_put_14 : decode cX10_put 14 = .ok (.istore_n 3, 1) := zo_62 (zi_at zh_dX10_put_0_0 14 rfl)
theorem dX10_put_15 : decode cX10_put 15 = .ok (.iload_n 3, 1) := zo_29 (zi_at zh_dX10_put_0_0 15 rfl)
theorem dX10_put_16 : decode cX10_put 16 = .ok (.ifCond .eq 35, 3) := zo_153 (zi_at zh_dX10_put_16_16 0 rfl) (zi_at zh_dX10_put_16_16 1 rfl) (zi_at zh_dX10_put_16_16 2 rfl) rfl
theorem dX10_put_19 : decode cX10_put 19 = .ok (.aload_n 0, 1) := zo_42 (zi_at zh_dX10_put_16_16 3 rfl)
theorem dX10_put_20 : decode cX10_put 20 = .ok (.getfield 27, 3) := zo_180 (zi_at zh_dX10_put_16_16 4 rfl) (zi_at zh_dX10_put_16_16 5 rfl) (zi_at zh_dX10_put_16_16 6 rfl) rfl
theorem dX10_put_23 : decode cX10_put 23 = .ok (.aload_n 0, 1) := zo_42 (zi_at zh_dX10_put_16_16 7 rfl)
theorem dX10_put_24 : decode cX10_put 24 = .ok (.getfield 9, 3) := zo_180 (zi_at zh_dX10_put_16_16 8 rfl) (zi_at zh_dX10_put_16_16 9 rfl) (zi_at zh_dX10_put_16_16 10 rfl) rfl
theorem dX10_put_27 : decode cX10_put 27 = .ok (.arraylength, 1) := zo_190 (zi_at zh_dX10_put_16_16 11 rfl)
theorem dX10_put_28 : decode cX10_put 28 = .ok (.if_icmp .ge 23, 3) := zo_162 (zi_at zh_dX10_put_16_16 12 rfl) (zi_at zh_dX10_put_16_16 13 rfl) (zi_at zh_dX10_put_16_16 14 rfl) rfl
theorem dX10_put_31 : decode cX10_put 31 = .ok (.aload_n 0, 1) := zo_42 (zi_at zh_dX10_put_16_16 15 rfl)
theorem dX10_put_32 : decode cX10_put 32 = .ok (.getfield 9, 3) := zo_180 (zi_at zh_dX10_put_32_32 0 rfl) (zi_at zh_dX10_put_32_32 1 rfl) (zi_at zh_dX10_put_32_32 2 rfl) rfl
theorem dX10_put_35 : decode cX10_put 35 = .ok (.aload_n 0, 1) := zo_42 (zi_at zh_dX10_put_32_32 3 rfl)
theorem dX10_put_36 : decode cX10_put 36 = .ok (.getfield 27, 3) := zo_180 (zi_at zh_dX10_put_32_32 4 rfl) (zi_at zh_dX10_put_32_32 5 rfl) (zi_at zh_dX10_put_32_32 6 rfl) rfl
theorem dX10_put_39 : decode cX10_put 39 = .ok (.iload_n 3, 1) := zo_29 (zi_at zh_dX10_put_32_32 7 rfl)
theorem dX10_put_40 : decode cX10_put 40 = .ok (.iastore, 1) := zo_79 (zi_at zh_dX10_put_32_32 8 rfl)
theorem dX10_put_41 : decode cX10_put 41 = .ok (.aload_n 0, 1) := zo_42 (zi_at zh_dX10_put_32_32 9 rfl)
theorem dX10_put_42 : decode cX10_put 42 = .ok (.dup, 1) := zo_89 (zi_at zh_dX10_put_32_32 10 rfl)
theorem dX10_put_43 : decode cX10_put 43 = .ok (.getfield 27, 3) := zo_180 (zi_at zh_dX10_put_32_32 11 rfl) (zi_at zh_dX10_put_32_32 12 rfl) (zi_at zh_dX10_put_32_32 13 rfl) rfl
theorem dX10_put_46 : decode cX10_put 46 = .ok (.iconst 1, 1) := zo_4 (zi_at zh_dX10_put_32_32 14 rfl)
theorem dX10_put_47 : decode cX10_put 47 = .ok (.iadd, 1) := zo_96 (zi_at zh_dX10_put_32_32 15 rfl)
theorem dX10_put_48 : decode cX10_put 48 = .ok (.putfield 27, 3) := zo_181 (zi_at zh_dX10_put_48_48 0 rfl) (zi_at zh_dX10_put_48_48 1 rfl) (zi_at zh_dX10_put_48_48 2 rfl) rfl
theorem dX10_put_51 : decode cX10_put 51 = .ok (.iinc 2 (-8), 3) := zo_132 (zi_at zh_dX10_put_48_48 3 rfl) (zi_at zh_dX10_put_48_48 4 rfl) (zi_at zh_dX10_put_48_48 5 rfl) rfl
theorem dX10_put_54 : decode cX10_put 54 = .ok (.goto (-51), 3) := zo_167 (zi_at zh_dX10_put_48_48 6 rfl) (zi_at zh_dX10_put_48_48 7 rfl) (zi_at zh_dX10_put_48_48 8 rfl) rfl
theorem dX10_put_57 : decode cX10_put 57 = .ok (.return_, 1) := zo_177 (zi_at zh_dX10_put_48_48 9 rfl)
theorem dX10_next_0 : decode cX10_next 0 = .ok (.aload_n 0, 1) := zo_42 (zi_at zh_dX10_next_0_0 0 rfl)
theorem dX10_next_1 : decode cX10_next 1 = .ok (.getfield 34, 3) := zo_180 (zi_at zh_dX10_next_0_0 1 rfl) (zi_at zh_dX10_next_0_0 2 rfl) (zi_at zh_dX10_next_0_0 3 rfl) rfl
theorem dX10_next_4 : decode cX10_next 4 = .ok (.iconst (-1), 1) := zo_2 (zi_at zh_dX10_next_0_0 4 rfl)
theorem dX10_next_5 : decode cX10_next 5 = .ok (.if_icmp .eq 6, 3) := zo_159 (zi_at zh_dX10_next_0_0 5 rfl) (zi_at zh_dX10_next_0_0 6 rfl) (zi_at zh_dX10_next_0_0 7 rfl) rfl
theorem dX10_next_8 : decode cX10_next 8 = .ok (.bipush (-2), 2) := zo_16 (zi_at zh_dX10_next_0_0 8 rfl) (zi_at zh_dX10_next_0_0 9 rfl) rfl
theorem dX10_next_10 : decode cX10_next 10 = .ok (.ireturn, 1) := zo_172 (zi_at zh_dX10_next_0_0 10 rfl)
theorem dX10_next_11 : decode cX10_next 11 = .ok (.aload_n 0, 1) := zo_42 (zi_at zh_dX10_next_0_0 11 rfl)
theorem dX10_next_12 : decode cX10_next 12 = .ok (.getfield 31, 3) := zo_180 (zi_at zh_dX10_next_0_0 12 rfl) (zi_at zh_dX10_next_0_0 13 rfl) (zi_at zh_dX10_next_0_0 14 rfl) rfl
theorem dX10_next_15 : decode cX10_next 15 = .ok (.aload_n 0, 1) := zo_42 (zi_at zh_dX10_next_0_0 15 rfl)
theorem dX10_next_16 : decode cX10_next 16 = .ok (.getfield 27, 3) := zo_180 (zi_at zh_dX10_next_16_16 0 rfl) (zi_at zh_dX10_next_16_16 1 rfl) (zi_at zh_dX10_next_16_16 2 rfl) rfl
theorem dX10_next_19 : decode cX10_next 19 = .ok (.if_icmp .ge 30, 3) := zo_162 (zi_at zh_dX10_next_16_16 3 rfl) (zi_at zh_dX10_next_16_16 4 rfl) (zi_at zh_dX10_next_16_16 5 rfl) rfl
theorem dX10_next_22 : decode cX10_next 22 = .ok (.aload_n 0, 1) := zo_42 (zi_at zh_dX10_next_16_16 6 rfl)
theorem dX10_next_23 : decode cX10_next 23 = .ok (.getfield 9, 3) := zo_180 (zi_at zh_dX10_next_16_16 7 rfl) (zi_at zh_dX10_next_16_16 8 rfl) (zi_at zh_dX10_next_16_16 9 rfl) rfl
theorem dX10_next_26 : decode cX10_next 26 = .ok (.aload_n 0, 1) := zo_42 (zi_at zh_dX10_next_16_16 10 rfl)
theorem dX10_next_27 : decode cX10_next 27 = .ok (.getfield 31, 3) := zo_180 (zi_at zh_dX10_next_16_16 11 rfl) (zi_at zh_dX10_next_16_16 12 rfl) (zi_at zh_dX10_next_16_16 13 rfl) rfl
theorem dX10_next_30 : decode cX10_next 30 = .ok (.iaload, 1) := zo_46 (zi_at zh_dX10_next_16_16 14 rfl)
theorem dX10_next_31 : decode cX10_next 31 = .ok (.bipush 32, 2) := zo_16 (zi_at zh_dX10_next_16_16 15 rfl) (zi_at zh_dX10_next_31_32 0 rfl) rfl
theorem dX10_next_33 : decode cX10_next 33 = .ok (.if_icmp .ne 16, 3) := zo_160 (zi_at zh_dX10_next_31_32 1 rfl) (zi_at zh_dX10_next_31_32 2 rfl) (zi_at zh_dX10_next_31_32 3 rfl) rfl
theorem dX10_next_36 : decode cX10_next 36 = .ok (.aload_n 0, 1) := zo_42 (zi_at zh_dX10_next_31_32 4 rfl)
theorem dX10_next_37 : decode cX10_next 37 = .ok (.dup, 1) := zo_89 (zi_at zh_dX10_next_31_32 5 rfl)
theorem dX10_next_38 : decode cX10_next 38 = .ok (.getfield 31, 3) := zo_180 (zi_at zh_dX10_next_31_32 6 rfl) (zi_at zh_dX10_next_31_32 7 rfl) (zi_at zh_dX10_next_31_32 8 rfl) rfl
theorem dX10_next_41 : decode cX10_next 41 = .ok (.iconst 1, 1) := zo_4 (zi_at zh_dX10_next_31_32 9 rfl)
theorem dX10_next_42 : decode cX10_next 42 = .ok (.iadd, 1) := zo_96 (zi_at zh_dX10_next_31_32 10 rfl)
theorem dX10_next_43 : decode cX10_next 43 = .ok (.putfield 31, 3) := zo_181 (zi_at zh_dX10_next_31_32 11 rfl) (zi_at zh_dX10_next_31_32 12 rfl) (zi_at zh_dX10_next_31_32 13 rfl) rfl
theorem dX10_next_46 : decode cX10_next 46 = .ok (.goto (-35), 3) := zo_167 (zi_at zh_dX10_next_31_32 14 rfl) (zi_at zh_dX10_next_31_32 15 rfl) (zi_at zh_dX10_next_46_48 0 rfl) rfl
theorem dX10_next_49 : decode cX10_next 49 = .ok (.aload_n 0, 1) := zo_42 (zi_at zh_dX10_next_46_48 1 rfl)
theorem dX10_next_50 : decode cX10_next 50 = .ok (.getfield 31, 3) := zo_180 (zi_at zh_dX10_next_46_48 2 rfl) (zi_at zh_dX10_next_46_48 3 rfl) (zi_at zh_dX10_next_46_48 4 rfl) rfl
theorem dX10_next_53 : decode cX10_next 53 = .ok (.aload_n 0, 1) := zo_42 (zi_at zh_dX10_next_46_48 5 rfl)
theorem dX10_next_54 : decode cX10_next 54 = .ok (.getfield 27, 3) := zo_180 (zi_at zh_dX10_next_46_48 6 rfl) (zi_at zh_dX10_next_46_48 7 rfl) (zi_at zh_dX10_next_46_48 8 rfl) rfl
theorem dX10_next_57 : decode cX10_next 57 = .ok (.if_icmp .ge 15, 3) := zo_162 (zi_at zh_dX10_next_46_48 9 rfl) (zi_at zh_dX10_next_46_48 10 rfl) (zi_at zh_dX10_next_46_48 11 rfl) rfl
theorem dX10_next_60 : decode cX10_next 60 = .ok (.aload_n 0, 1) := zo_42 (zi_at zh_dX10_next_46_48 12 rfl)
theorem dX10_next_61 : decode cX10_next 61 = .ok (.getfield 9, 3) := zo_180 (zi_at zh_dX10_next_46_48 13 rfl) (zi_at zh_dX10_next_46_48 14 rfl) (zi_at zh_dX10_next_46_48 15 rfl) rfl
theorem dX10_next_64 : decode cX10_next 64 = .ok (.aload_n 0, 1) := zo_42 (zi_at zh_dX10_next_64_64 0 rfl)
theorem dX10_next_65 : decode cX10_next 65 = .ok (.getfield 31, 3) := zo_180 (zi_at zh_dX10_next_64_64 1 rfl) (zi_at zh_dX10_next_64_64 2 rfl) (zi_at zh_dX10_next_64_64 3 rfl) rfl
theorem dX10_next_68 : decode cX10_next 68 = .ok (.iaload, 1) := zo_46 (zi_at zh_dX10_next_64_64 4 rfl)
theorem dX10_next_69 : decode cX10_next 69 = .ok (.goto 4, 3) := zo_167 (zi_at zh_dX10_next_64_64 5 rfl) (zi_at zh_dX10_next_64_64 6 rfl) (zi_at zh_dX10_next_64_64 7 rfl) rfl
theorem dX10_next_72 : decode cX10_next 72 = .ok (.iconst (-1), 1) := zo_2 (zi_at zh_dX10_next_64_64 8 rfl)
theorem dX10_next_73 : decode cX10_next 73 = .ok (.ireturn, 1) := zo_172 (zi_at zh_dX10_next_64_64 9 rfl)
theorem dX10_fail_0 : decode cX10_fail 0 = .ok (.aload_n 0, 1) := zo_42 (zi_at zh_dX10_fail_0_0 0 rfl)
theorem dX10_fail_1 : decode cX10_fail 1 = .ok (.getfield 34, 3) := zo_180 (zi_at zh_dX10_fail_0_0 1 rfl) (zi_at zh_dX10_fail_0_0 2 rfl) (zi_at zh_dX10_fail_0_0 3 rfl) rfl
theorem dX10_fail_4 : decode cX10_fail 4 = .ok (.iconst (-1), 1) := zo_2 (zi_at zh_dX10_fail_0_0 4 rfl)
theorem dX10_fail_5 : decode cX10_fail 5 = .ok (.if_icmp .ne 11, 3) := zo_160 (zi_at zh_dX10_fail_0_0 5 rfl) (zi_at zh_dX10_fail_0_0 6 rfl) (zi_at zh_dX10_fail_0_0 7 rfl) rfl
theorem dX10_fail_8 : decode cX10_fail 8 = .ok (.aload_n 0, 1) := zo_42 (zi_at zh_dX10_fail_0_0 8 rfl)
theorem dX10_fail_9 : decode cX10_fail 9 = .ok (.aload_n 0, 1) := zo_42 (zi_at zh_dX10_fail_0_0 9 rfl)
theorem dX10_fail_10 : decode cX10_fail 10 = .ok (.getfield 31, 3) := zo_180 (zi_at zh_dX10_fail_0_0 10 rfl) (zi_at zh_dX10_fail_0_0 11 rfl) (zi_at zh_dX10_fail_0_0 12 rfl) rfl
theorem dX10_fail_13 : decode cX10_fail 13 = .ok (.putfield 34, 3) := zo_181 (zi_at zh_dX10_fail_0_0 13 rfl) (zi_at zh_dX10_fail_0_0 14 rfl) (zi_at zh_dX10_fail_0_0 15 rfl) rfl
theorem dX10_fail_16 : decode cX10_fail 16 = .ok (.return_, 1) := zo_177 (zi_at zh_dX10_fail_16_16 0 rfl)
theorem dX10_take_0 : decode cX10_take 0 = .ok (.aload_n 0, 1) := zo_42 (zi_at zh_dX10_take_0_0 0 rfl)
theorem dX10_take_1 : decode cX10_take 1 = .ok (.invokevirtual 46, 3) := zo_182 (zi_at zh_dX10_take_0_0 1 rfl) (zi_at zh_dX10_take_0_0 2 rfl) (zi_at zh_dX10_take_0_0 3 rfl) rfl
theorem dX10_take_4 : decode cX10_take 4 = .ok (.iload_n 1, 1) := zo_27 (zi_at zh_dX10_take_0_0 4 rfl)
theorem dX10_take_5 : decode cX10_take 5 = .ok (.if_icmp .ne 16, 3) := zo_160 (zi_at zh_dX10_take_0_0 5 rfl) (zi_at zh_dX10_take_0_0 6 rfl) (zi_at zh_dX10_take_0_0 7 rfl) rfl
theorem dX10_take_8 : decode cX10_take 8 = .ok (.aload_n 0, 1) := zo_42 (zi_at zh_dX10_take_0_0 8 rfl)
theorem dX10_take_9 : decode cX10_take 9 = .ok (.dup, 1) := zo_89 (zi_at zh_dX10_take_0_0 9 rfl)
theorem dX10_take_10 : decode cX10_take 10 = .ok (.getfield 31, 3) := zo_180 (zi_at zh_dX10_take_0_0 10 rfl) (zi_at zh_dX10_take_0_0 11 rfl) (zi_at zh_dX10_take_0_0 12 rfl) rfl
theorem dX10_take_13 : decode cX10_take 13 = .ok (.iconst 1, 1) := zo_4 (zi_at zh_dX10_take_0_0 13 rfl)
theorem dX10_take_14 : decode cX10_take 14 = .ok (.iadd, 1) := zo_96 (zi_at zh_dX10_take_0_0 14 rfl)
theorem dX10_take_15 : decode cX10_take 15 = .ok (.putfield 31, 3) := zo_181 (zi_at zh_dX10_take_0_0 15 rfl) (zi_at zh_dX10_take_15_16 0 rfl) (zi_at zh_dX10_take_15_16 1 rfl) rfl
theorem dX10_take_18 : decode cX10_take 18 = .ok (.goto 7, 3) := zo_167 (zi_at zh_dX10_take_15_16 2 rfl) (zi_at zh_dX10_take_15_16 3 rfl) (zi_at zh_dX10_take_15_16 4 rfl) rfl
theorem dX10_take_21 : decode cX10_take 21 = .ok (.aload_n 0, 1) := zo_42 (zi_at zh_dX10_take_15_16 5 rfl)
theorem dX10_take_22 : decode cX10_take 22 = .ok (.invokevirtual 50, 3) := zo_182 (zi_at zh_dX10_take_15_16 6 rfl) (zi_at zh_dX10_take_15_16 7 rfl) (zi_at zh_dX10_take_15_16 8 rfl) rfl
theorem dX10_take_25 : decode cX10_take 25 = .ok (.return_, 1) := zo_177 (zi_at zh_dX10_take_15_16 9 rfl)
theorem dX10_add_0 : decode cX10_add 0 = .ok (.aload_n 0, 1) := zo_42 (zi_at zh_dX10_add_0_0 0 rfl)
theorem dX10_add_1 : decode cX10_add 1 = .ok (.getfield 37, 3) := zo_180 (zi_at zh_dX10_add_0_0 1 rfl) (zi_at zh_dX10_add_0_0 2 rfl) (zi_at zh_dX10_add_0_0 3 rfl) rfl
theorem dX10_add_4 : decode cX10_add 4 = .ok (.aload_n 0, 1) := zo_42 (zi_at zh_dX10_add_0_0 4 rfl)
theorem dX10_add_5 : decode cX10_add 5 = .ok (.getfield 15, 3) := zo_180 (zi_at zh_dX10_add_0_0 5 rfl) (zi_at zh_dX10_add_0_0 6 rfl) (zi_at zh_dX10_add_0_0 7 rfl) rfl
theorem dX10_add_8 : decode cX10_add 8 = .ok (.arraylength, 1) := zo_190 (zi_at zh_dX10_add_0_0 8 rfl)
theorem dX10_add_9 : decode cX10_add 9 = .ok (.if_icmp .ge 23, 3) := zo_162 (zi_at zh_dX10_add_0_0 9 rfl) (zi_at zh_dX10_add_0_0 10 rfl) (zi_at zh_dX10_add_0_0 11 rfl) rfl
theorem dX10_add_12 : decode cX10_add 12 = .ok (.aload_n 0, 1) := zo_42 (zi_at zh_dX10_add_0_0 12 rfl)
theorem dX10_add_13 : decode cX10_add 13 = .ok (.getfield 15, 3) := zo_180 (zi_at zh_dX10_add_0_0 13 rfl) (zi_at zh_dX10_add_0_0 14 rfl) (zi_at zh_dX10_add_0_0 15 rfl) rfl
theorem dX10_add_16 : decode cX10_add 16 = .ok (.aload_n 0, 1) := zo_42 (zi_at zh_dX10_add_16_16 0 rfl)
theorem dX10_add_17 : decode cX10_add 17 = .ok (.getfield 37, 3) := zo_180 (zi_at zh_dX10_add_16_16 1 rfl) (zi_at zh_dX10_add_16_16 2 rfl) (zi_at zh_dX10_add_16_16 3 rfl) rfl
theorem dX10_add_20 : decode cX10_add 20 = .ok (.iload_n 1, 1) := zo_27 (zi_at zh_dX10_add_16_16 4 rfl)
theorem dX10_add_21 : decode cX10_add 21 = .ok (.iastore, 1) := zo_79 (zi_at zh_dX10_add_16_16 5 rfl)
theorem dX10_add_22 : decode cX10_add 22 = .ok (.aload_n 0, 1) := zo_42 (zi_at zh_dX10_add_16_16 6 rfl)
theorem dX10_add_23 : decode cX10_add 23 = .ok (.dup, 1) := zo_89 (zi_at zh_dX10_add_16_16 7 rfl)
theorem dX10_add_24 : decode cX10_add 24 = .ok (.getfield 37, 3) := zo_180 (zi_at zh_dX10_add_16_16 8 rfl) (zi_at zh_dX10_add_16_16 9 rfl) (zi_at zh_dX10_add_16_16 10 rfl) rfl
theorem dX10_add_27 : decode cX10_add 27 = .ok (.iconst 1, 1) := zo_4 (zi_at zh_dX10_add_16_16 11 rfl)
theorem dX10_add_28 : decode cX10_add 28 = .ok (.iadd, 1) := zo_96 (zi_at zh_dX10_add_16_16 12 rfl)
theorem dX10_add_29 : decode cX10_add 29 = .ok (.putfield 37, 3) := zo_181 (zi_at zh_dX10_add_16_16 13 rfl) (zi_at zh_dX10_add_16_16 14 rfl) (zi_at zh_dX10_add_16_16 15 rfl) rfl
theorem dX10_add_32 : decode cX10_add 32 = .ok (.return_, 1) := zo_177 (zi_at zh_dX10_add_32_32 0 rfl)
theorem dX10_readCondition_0 : decode cX10_readCondition 0 = .ok (.aload_n 0, 1) := zo_42 (zi_at zh_dX10_readCondition_0_0 0 rfl)
theorem dX10_readCondition_1 : decode cX10_readCondition 1 = .ok (.iload_n 1, 1) := zo_27 (zi_at zh_dX10_readCondition_0_0 1 rfl)
theorem dX10_readCondition_2 : decode cX10_readCondition 2 = .ok (.iload_n 2, 1) := zo_28 (zi_at zh_dX10_readCondition_0_0 2 rfl)
theorem dX10_readCondition_3 : decode cX10_readCondition 3 = .ok (.invokevirtual 85, 3) := zo_182 (zi_at zh_dX10_readCondition_0_0 3 rfl) (zi_at zh_dX10_readCondition_0_0 4 rfl) (zi_at zh_dX10_readCondition_0_0 5 rfl) rfl
theorem dX10_readCondition_6 : decode cX10_readCondition 6 = .ok (.iconst 0, 1) := zo_3 (zi_at zh_dX10_readCondition_0_0 6 rfl)
theorem dX10_readCondition_7 : decode cX10_readCondition 7 = .ok (.istore_n 3, 1) := zo_62 (zi_at zh_dX10_readCondition_0_0 7 rfl)
theorem dX10_readCondition_8 : decode cX10_readCondition 8 = .ok (.iload_n 3, 1) := zo_29 (zi_at zh_dX10_readCondition_0_0 8 rfl)
theorem dX10_readCondition_9 : decode cX10_readCondition 9 = .ok (.sipush 200, 3) := zo_17 (zi_at zh_dX10_readCondition_0_0 9 rfl) (zi_at zh_dX10_readCondition_0_0 10 rfl) (zi_at zh_dX10_readCondition_0_0 11 rfl) rfl
theorem dX10_readCondition_12 : decode cX10_readCondition 12 = .ok (.if_icmp .ge 43, 3) := zo_162 (zi_at zh_dX10_readCondition_0_0 12 rfl) (zi_at zh_dX10_readCondition_0_0 13 rfl) (zi_at zh_dX10_readCondition_0_0 14 rfl) rfl
theorem dX10_readCondition_15 : decode cX10_readCondition 15 = .ok (.aload_n 0, 1) := zo_42 (zi_at zh_dX10_readCondition_0_0 15 rfl)
theorem dX10_readCondition_16 : decode cX10_readCondition 16 = .ok (.invokevirtual 46, 3) := zo_182 (zi_at zh_dX10_readCondition_16_16 0 rfl) (zi_at zh_dX10_readCondition_16_16 1 rfl) (zi_at zh_dX10_readCondition_16_16 2 rfl) rfl
theorem dX10_readCondition_19 : decode cX10_readCondition 19 = .ok (.bipush 124, 2) := zo_16 (zi_at zh_dX10_readCondition_16_16 3 rfl) (zi_at zh_dX10_readCondition_16_16 4 rfl) rfl
theorem dX10_readCondition_21 : decode cX10_readCondition 21 = .ok (.if_icmp .ne 34, 3) := zo_160 (zi_at zh_dX10_readCondition_16_16 5 rfl) (zi_at zh_dX10_readCondition_16_16 6 rfl) (zi_at zh_dX10_readCondition_16_16 7 rfl) rfl
theorem dX10_readCondition_24 : decode cX10_readCondition 24 = .ok (.aload_n 0, 1) := zo_42 (zi_at zh_dX10_readCondition_16_16 8 rfl)
theorem dX10_readCondition_25 : decode cX10_readCondition 25 = .ok (.dup, 1) := zo_89 (zi_at zh_dX10_readCondition_16_16 9 rfl)
theorem dX10_readCondition_26 : decode cX10_readCondition 26 = .ok (.getfield 31, 3) := zo_180 (zi_at zh_dX10_readCondition_16_16 10 rfl) (zi_at zh_dX10_readCondition_16_16 11 rfl) (zi_at zh_dX10_readCondition_16_16 12 rfl) rfl
theorem dX10_readCondition_29 : decode cX10_readCondition 29 = .ok (.iconst 1, 1) := zo_4 (zi_at zh_dX10_readCondition_16_16 13 rfl)
theorem dX10_readCondition_30 : decode cX10_readCondition 30 = .ok (.iadd, 1) := zo_96 (zi_at zh_dX10_readCondition_16_16 14 rfl)
theorem dX10_readCondition_31 : decode cX10_readCondition 31 = .ok (.putfield 31, 3) := zo_181 (zi_at zh_dX10_readCondition_16_16 15 rfl) (zi_at zh_dX10_readCondition_31_32 0 rfl) (zi_at zh_dX10_readCondition_31_32 1 rfl) rfl
theorem dX10_readCondition_34 : decode cX10_readCondition 34 = .ok (.aload_n 0, 1) := zo_42 (zi_at zh_dX10_readCondition_31_32 2 rfl)
theorem dX10_readCondition_35 : decode cX10_readCondition 35 = .ok (.iload_n 1, 1) := zo_27 (zi_at zh_dX10_readCondition_31_32 3 rfl)
theorem dX10_readCondition_36 : decode cX10_readCondition 36 = .ok (.iconst 0, 1) := zo_3 (zi_at zh_dX10_readCondition_31_32 4 rfl)
theorem dX10_readCondition_37 : decode cX10_readCondition 37 = .ok (.invokevirtual 85, 3) := zo_182 (zi_at zh_dX10_readCondition_31_32 5 rfl) (zi_at zh_dX10_readCondition_31_32 6 rfl) (zi_at zh_dX10_readCondition_31_32 7 rfl) rfl
theorem dX10_readCondition_40 : decode cX10_readCondition 40 = .ok (.aload_n 0, 1) := zo_42 (zi_at zh_dX10_readCondition_31_32 8 rfl)
theorem dX10_readCondition_41 : decode cX10_readCondition 41 = .ok (.bipush 124, 2) := zo_16 (zi_at zh_dX10_readCondition_31_32 9 rfl) (zi_at zh_dX10_readCondition_31_32 10 rfl) rfl
theorem dX10_readCondition_43 : decode cX10_readCondition 43 = .ok (.invokestatic 88, 3) := zo_184 (zi_at zh_dX10_readCondition_31_32 11 rfl) (zi_at zh_dX10_readCondition_31_32 12 rfl) (zi_at zh_dX10_readCondition_31_32 13 rfl) rfl
theorem dX10_readCondition_46 : decode cX10_readCondition 46 = .ok (.invokevirtual 92, 3) := zo_182 (zi_at zh_dX10_readCondition_31_32 14 rfl) (zi_at zh_dX10_readCondition_31_32 15 rfl) (zi_at zh_dX10_readCondition_46_48 0 rfl) rfl
theorem dX10_readCondition_49 : decode cX10_readCondition 49 = .ok (.iinc 3 1, 3) := zo_132 (zi_at zh_dX10_readCondition_46_48 1 rfl) (zi_at zh_dX10_readCondition_46_48 2 rfl) (zi_at zh_dX10_readCondition_46_48 3 rfl) rfl
theorem dX10_readCondition_52 : decode cX10_readCondition 52 = .ok (.goto (-44), 3) := zo_167 (zi_at zh_dX10_readCondition_46_48 4 rfl) (zi_at zh_dX10_readCondition_46_48 5 rfl) (zi_at zh_dX10_readCondition_46_48 6 rfl) rfl
theorem dX10_readCondition_55 : decode cX10_readCondition 55 = .ok (.return_, 1) := zo_177 (zi_at zh_dX10_readCondition_46_48 7 rfl)
theorem dX10_readPart_0 : decode cX10_readPart 0 = .ok (.aload_n 0, 1) := zo_42 (zi_at zh_dX10_readPart_0_0 0 rfl)
theorem dX10_readPart_1 : decode cX10_readPart 1 = .ok (.iload_n 1, 1) := zo_27 (zi_at zh_dX10_readPart_0_0 1 rfl)
theorem dX10_readPart_2 : decode cX10_readPart 2 = .ok (.iload_n 2, 1) := zo_28 (zi_at zh_dX10_readPart_0_0 2 rfl)
theorem dX10_readPart_3 : decode cX10_readPart 3 = .ok (.invokevirtual 95, 3) := zo_182 (zi_at zh_dX10_readPart_0_0 3 rfl) (zi_at zh_dX10_readPart_0_0 4 rfl) (zi_at zh_dX10_readPart_0_0 5 rfl) rfl
theorem dX10_readPart_6 : decode cX10_readPart 6 = .ok (.iconst 0, 1) := zo_3 (zi_at zh_dX10_readPart_0_0 6 rfl)
theorem dX10_readPart_7 : decode cX10_readPart 7 = .ok (.istore_n 3, 1) := zo_62 (zi_at zh_dX10_readPart_0_0 7 rfl)
theorem dX10_readPart_8 : decode cX10_readPart 8 = .ok (.iload_n 3, 1) := zo_29 (zi_at zh_dX10_readPart_0_0 8 rfl)
theorem dX10_readPart_9 : decode cX10_readPart 9 = .ok (.sipush 200, 3) := zo_17 (zi_at zh_dX10_readPart_0_0 9 rfl) (zi_at zh_dX10_readPart_0_0 10 rfl) (zi_at zh_dX10_readPart_0_0 11 rfl) rfl
theorem dX10_readPart_12 : decode cX10_readPart 12 = .ok (.if_icmp .ge 43, 3) := zo_162 (zi_at zh_dX10_readPart_0_0 12 rfl) (zi_at zh_dX10_readPart_0_0 13 rfl) (zi_at zh_dX10_readPart_0_0 14 rfl) rfl
theorem dX10_readPart_15 : decode cX10_readPart 15 = .ok (.aload_n 0, 1) := zo_42 (zi_at zh_dX10_readPart_0_0 15 rfl)
theorem dX10_readPart_16 : decode cX10_readPart 16 = .ok (.invokevirtual 46, 3) := zo_182 (zi_at zh_dX10_readPart_16_16 0 rfl) (zi_at zh_dX10_readPart_16_16 1 rfl) (zi_at zh_dX10_readPart_16_16 2 rfl) rfl
theorem dX10_readPart_19 : decode cX10_readPart 19 = .ok (.bipush 38, 2) := zo_16 (zi_at zh_dX10_readPart_16_16 3 rfl) (zi_at zh_dX10_readPart_16_16 4 rfl) rfl
theorem dX10_readPart_21 : decode cX10_readPart 21 = .ok (.if_icmp .ne 34, 3) := zo_160 (zi_at zh_dX10_readPart_16_16 5 rfl) (zi_at zh_dX10_readPart_16_16 6 rfl) (zi_at zh_dX10_readPart_16_16 7 rfl) rfl
theorem dX10_readPart_24 : decode cX10_readPart 24 = .ok (.aload_n 0, 1) := zo_42 (zi_at zh_dX10_readPart_16_16 8 rfl)
theorem dX10_readPart_25 : decode cX10_readPart 25 = .ok (.dup, 1) := zo_89 (zi_at zh_dX10_readPart_16_16 9 rfl)
theorem dX10_readPart_26 : decode cX10_readPart 26 = .ok (.getfield 31, 3) := zo_180 (zi_at zh_dX10_readPart_16_16 10 rfl) (zi_at zh_dX10_readPart_16_16 11 rfl) (zi_at zh_dX10_readPart_16_16 12 rfl) rfl
theorem dX10_readPart_29 : decode cX10_readPart 29 = .ok (.iconst 1, 1) := zo_4 (zi_at zh_dX10_readPart_16_16 13 rfl)
theorem dX10_readPart_30 : decode cX10_readPart 30 = .ok (.iadd, 1) := zo_96 (zi_at zh_dX10_readPart_16_16 14 rfl)
theorem dX10_readPart_31 : decode cX10_readPart 31 = .ok (.putfield 31, 3) := zo_181 (zi_at zh_dX10_readPart_16_16 15 rfl) (zi_at zh_dX10_readPart_31_32 0 rfl) (zi_at zh_dX10_readPart_31_32 1 rfl) rfl
theorem dX10_readPart_34 : decode cX10_readPart 34 = .ok (.aload_n 0, 1) := zo_42 (zi_at zh_dX10_readPart_31_32 2 rfl)
theorem dX10_readPart_35 : decode cX10_readPart 35 = .ok (.iload_n 1, 1) := zo_27 (zi_at zh_dX10_readPart_31_32 3 rfl)
theorem dX10_readPart_36 : decode cX10_readPart 36 = .ok (.iconst 0, 1) := zo_3 (zi_at zh_dX10_readPart_31_32 4 rfl)
theorem dX10_readPart_37 : decode cX10_readPart 37 = .ok (.invokevirtual 95, 3) := zo_182 (zi_at zh_dX10_readPart_31_32 5 rfl) (zi_at zh_dX10_readPart_31_32 6 rfl) (zi_at zh_dX10_readPart_31_32 7 rfl) rfl
theorem dX10_readPart_40 : decode cX10_readPart 40 = .ok (.aload_n 0, 1) := zo_42 (zi_at zh_dX10_readPart_31_32 8 rfl)
theorem dX10_readPart_41 : decode cX10_readPart 41 = .ok (.bipush 38, 2) := zo_16 (zi_at zh_dX10_readPart_31_32 9 rfl) (zi_at zh_dX10_readPart_31_32 10 rfl) rfl
theorem dX10_readPart_43 : decode cX10_readPart 43 = .ok (.invokestatic 88, 3) := zo_184 (zi_at zh_dX10_readPart_31_32 11 rfl) (zi_at zh_dX10_readPart_31_32 12 rfl) (zi_at zh_dX10_readPart_31_32 13 rfl) rfl
theorem dX10_readPart_46 : decode cX10_readPart 46 = .ok (.invokevirtual 92, 3) := zo_182 (zi_at zh_dX10_readPart_31_32 14 rfl) (zi_at zh_dX10_readPart_31_32 15 rfl) (zi_at zh_dX10_readPart_46_48 0 rfl) rfl
theorem dX10_readPart_49 : decode cX10_readPart 49 = .ok (.iinc 3 1, 3) := zo_132 (zi_at zh_dX10_readPart_46_48 1 rfl) (zi_at zh_dX10_readPart_46_48 2 rfl) (zi_at zh_dX10_readPart_46_48 3 rfl) rfl
theorem dX10_readPart_52 : decode cX10_readPart 52 = .ok (.goto (-44), 3) := zo_167 (zi_at zh_dX10_readPart_46_48 4 rfl) (zi_at zh_dX10_readPart_46_48 5 rfl) (zi_at zh_dX10_readPart_46_48 6 rfl) rfl
theorem dX10_readPart_55 : decode cX10_readPart 55 = .ok (.return_, 1) := zo_177 (zi_at zh_dX10_readPart_46_48 7 rfl)
theorem dX10_readUnit_0 : decode cX10_readUnit 0 = .ok (.iload_n 2, 1) := zo_28 (zi_at zh_dX10_readUnit_0_0 0 rfl)
theorem dX10_readUnit_1 : decode cX10_readUnit 1 = .ok (.ifCond .eq 7, 3) := zo_153 (zi_at zh_dX10_readUnit_0_0 1 rfl) (zi_at zh_dX10_readUnit_0_0 2 rfl) (zi_at zh_dX10_readUnit_0_0 3 rfl) rfl
theorem dX10_readUnit_4 : decode cX10_readUnit 4 = .ok (.iconst (-1), 1) := zo_2 (zi_at zh_dX10_readUnit_0_0 4 rfl)
theorem dX10_readUnit_5 : decode cX10_readUnit 5 = .ok (.goto 7, 3) := zo_167 (zi_at zh_dX10_readUnit_0_0 5 rfl) (zi_at zh_dX10_readUnit_0_0 6 rfl) (zi_at zh_dX10_readUnit_0_0 7 rfl) rfl
theorem dX10_readUnit_8 : decode cX10_readUnit 8 = .ok (.aload_n 0, 1) := zo_42 (zi_at zh_dX10_readUnit_0_0 8 rfl)
theorem dX10_readUnit_9 : decode cX10_readUnit 9 = .ok (.invokevirtual 46, 3) := zo_182 (zi_at zh_dX10_readUnit_0_0 9 rfl) (zi_at zh_dX10_readUnit_0_0 10 rfl) (zi_at zh_dX10_readUnit_0_0 11 rfl) rfl
theorem dX10_readUnit_12 : decode cX10_readUnit 12 = .ok (.istore_n 3, 1) := zo_62 (zi_at zh_dX10_readUnit_0_0 12 rfl)
theorem dX10_readUnit_13 : decode cX10_readUnit 13 = .ok (.iload_n 3, 1) := zo_29 (zi_at zh_dX10_readUnit_0_0 13 rfl)
theorem dX10_readUnit_14 : decode cX10_readUnit 14 = .ok (.bipush 33, 2) := zo_16 (zi_at zh_dX10_readUnit_0_0 14 rfl) (zi_at zh_dX10_readUnit_0_0 15 rfl) rfl
theorem dX10_readUnit_16 : decode cX10_readUnit 16 = .ok (.if_icmp .ne 32, 3) := zo_160 (zi_at zh_dX10_readUnit_16_16 0 rfl) (zi_at zh_dX10_readUnit_16_16 1 rfl) (zi_at zh_dX10_readUnit_16_16 2 rfl) rfl
theorem dX10_readUnit_19 : decode cX10_readUnit 19 = .ok (.aload_n 0, 1) := zo_42 (zi_at zh_dX10_readUnit_16_16 3 rfl)
theorem dX10_readUnit_20 : decode cX10_readUnit 20 = .ok (.iload_n 1, 1) := zo_27 (zi_at zh_dX10_readUnit_16_16 4 rfl)
theorem dX10_readUnit_21 : decode cX10_readUnit 21 = .ok (.invokevirtual 98, 3) := zo_182 (zi_at zh_dX10_readUnit_16_16 5 rfl) (zi_at zh_dX10_readUnit_16_16 6 rfl) (zi_at zh_dX10_readUnit_16_16 7 rfl) rfl
theorem dX10_readUnit_24 : decode cX10_readUnit 24 = .ok (.ifCond .ne 4, 3) := zo_154 (zi_at zh_dX10_readUnit_16_16 8 rfl) (zi_at zh_dX10_readUnit_16_16 9 rfl) (zi_at zh_dX10_readUnit_16_16 10 rfl) rfl
theorem dX10_readUnit_27 : decode cX10_readUnit 27 = .ok (.return_, 1) := zo_177 (zi_at zh_dX10_readUnit_16_16 11 rfl)
theorem dX10_readUnit_28 : decode cX10_readUnit 28 = .ok (.aload_n 0, 1) := zo_42 (zi_at zh_dX10_readUnit_16_16 12 rfl)
theorem dX10_readUnit_29 : decode cX10_readUnit 29 = .ok (.iload_n 1, 1) := zo_27 (zi_at zh_dX10_readUnit_16_16 13 rfl)
theorem dX10_readUnit_30 : decode cX10_readUnit 30 = .ok (.iconst 1, 1) := zo_4 (zi_at zh_dX10_readUnit_16_16 14 rfl)
theorem dX10_readUnit_31 : decode cX10_readUnit 31 = .ok (.iadd, 1) := zo_96 (zi_at zh_dX10_readUnit_16_16 15 rfl)
theorem dX10_readUnit_32 : decode cX10_readUnit 32 = .ok (.iconst 0, 1) := zo_3 (zi_at zh_dX10_readUnit_32_32 0 rfl)
theorem dX10_readUnit_33 : decode cX10_readUnit 33 = .ok (.invokevirtual 95, 3) := zo_182 (zi_at zh_dX10_readUnit_32_32 1 rfl) (zi_at zh_dX10_readUnit_32_32 2 rfl) (zi_at zh_dX10_readUnit_32_32 3 rfl) rfl
theorem dX10_readUnit_36 : decode cX10_readUnit 36 = .ok (.aload_n 0, 1) := zo_42 (zi_at zh_dX10_readUnit_32_32 4 rfl)
theorem dX10_readUnit_37 : decode cX10_readUnit 37 = .ok (.bipush 33, 2) := zo_16 (zi_at zh_dX10_readUnit_32_32 5 rfl) (zi_at zh_dX10_readUnit_32_32 6 rfl) rfl
theorem dX10_readUnit_39 : decode cX10_readUnit 39 = .ok (.invokestatic 88, 3) := zo_184 (zi_at zh_dX10_readUnit_32_32 7 rfl) (zi_at zh_dX10_readUnit_32_32 8 rfl) (zi_at zh_dX10_readUnit_32_32 9 rfl) rfl
theorem dX10_readUnit_42 : decode cX10_readUnit 42 = .ok (.invokevirtual 92, 3) := zo_182 (zi_at zh_dX10_readUnit_32_32 10 rfl) (zi_at zh_dX10_readUnit_32_32 11 rfl) (zi_at zh_dX10_readUnit_32_32 12 rfl) rfl
theorem dX10_readUnit_45 : decode cX10_readUnit 45 = .ok (.goto 49, 3) := zo_167 (zi_at zh_dX10_readUnit_32_32 13 rfl) (zi_at zh_dX10_readUnit_32_32 14 rfl) (zi_at zh_dX10_readUnit_32_32 15 rfl) rfl
theorem dX10_readUnit_48 : decode cX10_readUnit 48 = .ok (.iload_n 3, 1) := zo_29 (zi_at zh_dX10_readUnit_48_48 0 rfl)
theorem dX10_readUnit_49 : decode cX10_readUnit 49 = .ok (.bipush 40, 2) := zo_16 (zi_at zh_dX10_readUnit_48_48 1 rfl) (zi_at zh_dX10_readUnit_48_48 2 rfl) rfl
theorem dX10_readUnit_51 : decode cX10_readUnit 51 = .ok (.if_icmp .ne 29, 3) := zo_160 (zi_at zh_dX10_readUnit_48_48 3 rfl) (zi_at zh_dX10_readUnit_48_48 4 rfl) (zi_at zh_dX10_readUnit_48_48 5 rfl) rfl
theorem dX10_readUnit_54 : decode cX10_readUnit 54 = .ok (.aload_n 0, 1) := zo_42 (zi_at zh_dX10_readUnit_48_48 6 rfl)
theorem dX10_readUnit_55 : decode cX10_readUnit 55 = .ok (.iload_n 1, 1) := zo_27 (zi_at zh_dX10_readUnit_48_48 7 rfl)
theorem dX10_readUnit_56 : decode cX10_readUnit 56 = .ok (.invokevirtual 98, 3) := zo_182 (zi_at zh_dX10_readUnit_48_48 8 rfl) (zi_at zh_dX10_readUnit_48_48 9 rfl) (zi_at zh_dX10_readUnit_48_48 10 rfl) rfl
theorem dX10_readUnit_59 : decode cX10_readUnit 59 = .ok (.ifCond .ne 4, 3) := zo_154 (zi_at zh_dX10_readUnit_48_48 11 rfl) (zi_at zh_dX10_readUnit_48_48 12 rfl) (zi_at zh_dX10_readUnit_48_48 13 rfl) rfl
theorem dX10_readUnit_62 : decode cX10_readUnit 62 = .ok (.return_, 1) := zo_177 (zi_at zh_dX10_readUnit_48_48 14 rfl)
theorem dX10_readUnit_63 : decode cX10_readUnit 63 = .ok (.aload_n 0, 1) := zo_42 (zi_at zh_dX10_readUnit_48_48 15 rfl)
theorem dX10_readUnit_64 : decode cX10_readUnit 64 = .ok (.iload_n 1, 1) := zo_27 (zi_at zh_dX10_readUnit_64_64 0 rfl)
theorem dX10_readUnit_65 : decode cX10_readUnit 65 = .ok (.iconst 1, 1) := zo_4 (zi_at zh_dX10_readUnit_64_64 1 rfl)
theorem dX10_readUnit_66 : decode cX10_readUnit 66 = .ok (.iadd, 1) := zo_96 (zi_at zh_dX10_readUnit_64_64 2 rfl)
theorem dX10_readUnit_67 : decode cX10_readUnit 67 = .ok (.iconst 0, 1) := zo_3 (zi_at zh_dX10_readUnit_64_64 3 rfl)
theorem dX10_readUnit_68 : decode cX10_readUnit 68 = .ok (.invokevirtual 81, 3) := zo_182 (zi_at zh_dX10_readUnit_64_64 4 rfl) (zi_at zh_dX10_readUnit_64_64 5 rfl) (zi_at zh_dX10_readUnit_64_64 6 rfl) rfl
theorem dX10_readUnit_71 : decode cX10_readUnit 71 = .ok (.aload_n 0, 1) := zo_42 (zi_at zh_dX10_readUnit_64_64 7 rfl)
theorem dX10_readUnit_72 : decode cX10_readUnit 72 = .ok (.bipush 41, 2) := zo_16 (zi_at zh_dX10_readUnit_64_64 8 rfl) (zi_at zh_dX10_readUnit_64_64 9 rfl) rfl
theorem dX10_readUnit_74 : decode cX10_readUnit 74 = .ok (.invokevirtual 70, 3) := zo_182 (zi_at zh_dX10_readUnit_64_64 10 rfl) (zi_at zh_dX10_readUnit_64_64 11 rfl) (zi_at zh_dX10_readUnit_64_64 12 rfl) rfl
theorem dX10_readUnit_77 : decode cX10_readUnit 77 = .ok (.goto 17, 3) := zo_167 (zi_at zh_dX10_readUnit_64_64 13 rfl) (zi_at zh_dX10_readUnit_64_64 14 rfl) (zi_at zh_dX10_readUnit_64_64 15 rfl) rfl
theorem dX10_readUnit_80 : decode cX10_readUnit 80 = .ok (.iload_n 2, 1) := zo_28 (zi_at zh_dX10_readUnit_80_80 0 rfl)
theorem dX10_readUnit_81 : decode cX10_readUnit 81 = .ok (.ifCond .ne 8, 3) := zo_154 (zi_at zh_dX10_readUnit_80_80 1 rfl) (zi_at zh_dX10_readUnit_80_80 2 rfl) (zi_at zh_dX10_readUnit_80_80 3 rfl) rfl
theorem dX10_readUnit_84 : decode cX10_readUnit 84 = .ok (.aload_n 0, 1) := zo_42 (zi_at zh_dX10_readUnit_80_80 4 rfl)
theorem dX10_readUnit_85 : decode cX10_readUnit 85 = .ok (.iload_n 1, 1) := zo_27 (zi_at zh_dX10_readUnit_80_80 5 rfl)
theorem dX10_readUnit_86 : decode cX10_readUnit 86 = .ok (.invokevirtual 76, 3) := zo_182 (zi_at zh_dX10_readUnit_80_80 6 rfl) (zi_at zh_dX10_readUnit_80_80 7 rfl) (zi_at zh_dX10_readUnit_80_80 8 rfl) rfl
theorem dX10_readUnit_89 : decode cX10_readUnit 89 = .ok (.aload_n 0, 1) := zo_42 (zi_at zh_dX10_readUnit_80_80 9 rfl)
theorem dX10_readUnit_90 : decode cX10_readUnit 90 = .ok (.iload_n 1, 1) := zo_27 (zi_at zh_dX10_readUnit_80_80 10 rfl)
theorem dX10_readUnit_91 : decode cX10_readUnit 91 = .ok (.invokevirtual 102, 3) := zo_182 (zi_at zh_dX10_readUnit_80_80 11 rfl) (zi_at zh_dX10_readUnit_80_80 12 rfl) (zi_at zh_dX10_readUnit_80_80 13 rfl) rfl
theorem dX10_readUnit_94 : decode cX10_readUnit 94 = .ok (.return_, 1) := zo_177 (zi_at zh_dX10_readUnit_80_80 14 rfl)
theorem dX10_readComparison_0 : decode cX10_readComparison 0 = .ok (.aload_n 0, 1) := zo_42 (zi_at zh_dX10_readComparison_0_0 0 rfl)
theorem dX10_readComparison_1 : decode cX10_readComparison 1 = .ok (.invokevirtual 46, 3) := zo_182 (zi_at zh_dX10_readComparison_0_0 1 rfl) (zi_at zh_dX10_readComparison_0_0 2 rfl) (zi_at zh_dX10_readComparison_0_0 3 rfl) rfl
theorem dX10_readComparison_4 : decode cX10_readComparison 4 = .ok (.istore_n 2, 1) := zo_61 (zi_at zh_dX10_readComparison_0_0 4 rfl)
theorem dX10_readComparison_5 : decode cX10_readComparison 5 = .ok (.ldc 79, 2) := zo_18 (zi_at zh_dX10_readComparison_0_0 5 rfl) (zi_at zh_dX10_readComparison_0_0 6 rfl)
theorem dX10_readComparison_7 : decode cX10_readComparison 7 = .ok (.iload_n 2, 1) := zo_28 (zi_at zh_dX10_readComparison_0_0 7 rfl)
theorem dX10_readComparison_8 : decode cX10_readComparison 8 = .ok (.invokestatic 66, 3) := zo_184 (zi_at zh_dX10_readComparison_0_0 8 rfl) (zi_at zh_dX10_readComparison_0_0 9 rfl) (zi_at zh_dX10_readComparison_0_0 10 rfl) rfl
theorem dX10_readComparison_11 : decode cX10_readComparison 11 = .ok (.ifCond .ne 8, 3) := zo_154 (zi_at zh_dX10_readComparison_0_0 11 rfl) (zi_at zh_dX10_readComparison_0_0 12 rfl) (zi_at zh_dX10_readComparison_0_0 13 rfl) rfl
theorem dX10_readComparison_14 : decode cX10_readComparison 14 = .ok (.aload_n 0, 1) := zo_42 (zi_at zh_dX10_readComparison_0_0 14 rfl)
theorem dX10_readComparison_15 : decode cX10_readComparison 15 = .ok (.invokevirtual 50, 3) := zo_182 (zi_at zh_dX10_readComparison_0_0 15 rfl) (zi_at zh_dX10_readComparison_15_16 0 rfl) (zi_at zh_dX10_readComparison_15_16 1 rfl) rfl
theorem dX10_readComparison_18 : decode cX10_readComparison 18 = .ok (.return_, 1) := zo_177 (zi_at zh_dX10_readComparison_15_16 2 rfl)
theorem dX10_readComparison_19 : decode cX10_readComparison 19 = .ok (.aload_n 0, 1) := zo_42 (zi_at zh_dX10_readComparison_15_16 3 rfl)
theorem dX10_readComparison_20 : decode cX10_readComparison 20 = .ok (.dup, 1) := zo_89 (zi_at zh_dX10_readComparison_15_16 4 rfl)
theorem dX10_readComparison_21 : decode cX10_readComparison 21 = .ok (.getfield 31, 3) := zo_180 (zi_at zh_dX10_readComparison_15_16 5 rfl) (zi_at zh_dX10_readComparison_15_16 6 rfl) (zi_at zh_dX10_readComparison_15_16 7 rfl) rfl
theorem dX10_readComparison_24 : decode cX10_readComparison 24 = .ok (.iconst 1, 1) := zo_4 (zi_at zh_dX10_readComparison_15_16 8 rfl)
theorem dX10_readComparison_25 : decode cX10_readComparison 25 = .ok (.iadd, 1) := zo_96 (zi_at zh_dX10_readComparison_15_16 9 rfl)
theorem dX10_readComparison_26 : decode cX10_readComparison 26 = .ok (.putfield 31, 3) := zo_181 (zi_at zh_dX10_readComparison_15_16 10 rfl) (zi_at zh_dX10_readComparison_15_16 11 rfl) (zi_at zh_dX10_readComparison_15_16 12 rfl) rfl
theorem dX10_readComparison_29 : decode cX10_readComparison 29 = .ok (.aload_n 0, 1) := zo_42 (zi_at zh_dX10_readComparison_15_16 13 rfl)
theorem dX10_readComparison_30 : decode cX10_readComparison 30 = .ok (.iload_n 1, 1) := zo_27 (zi_at zh_dX10_readComparison_15_16 14 rfl)
theorem dX10_readComparison_31 : decode cX10_readComparison 31 = .ok (.invokevirtual 76, 3) := zo_182 (zi_at zh_dX10_readComparison_15_16 15 rfl) (zi_at zh_dX10_readComparison_31_32 0 rfl) (zi_at zh_dX10_readComparison_31_32 1 rfl) rfl
theorem dX10_readComparison_34 : decode cX10_readComparison 34 = .ok (.aload_n 0, 1) := zo_42 (zi_at zh_dX10_readComparison_31_32 2 rfl)
theorem dX10_readComparison_35 : decode cX10_readComparison 35 = .ok (.iload_n 2, 1) := zo_28 (zi_at zh_dX10_readComparison_31_32 3 rfl)
theorem dX10_readComparison_36 : decode cX10_readComparison 36 = .ok (.invokestatic 88, 3) := zo_184 (zi_at zh_dX10_readComparison_31_32 4 rfl) (zi_at zh_dX10_readComparison_31_32 5 rfl) (zi_at zh_dX10_readComparison_31_32 6 rfl) rfl
theorem dX10_readComparison_39 : decode cX10_readComparison 39 = .ok (.invokevirtual 92, 3) := zo_182 (zi_at zh_dX10_readComparison_31_32 7 rfl) (zi_at zh_dX10_readComparison_31_32 8 rfl) (zi_at zh_dX10_readComparison_31_32 9 rfl) rfl
theorem dX10_readComparison_42 : decode cX10_readComparison 42 = .ok (.return_, 1) := zo_177 (zi_at zh_dX10_readComparison_31_32 10 rfl)
theorem dX10_readSum_0 : decode cX10_readSum 0 = .ok (.aload_n 0, 1) := zo_42 (zi_at zh_dX10_readSum_0_0 0 rfl)
theorem dX10_readSum_1 : decode cX10_readSum 1 = .ok (.iload_n 1, 1) := zo_27 (zi_at zh_dX10_readSum_0_0 1 rfl)
theorem dX10_readSum_2 : decode cX10_readSum 2 = .ok (.invokevirtual 105, 3) := zo_182 (zi_at zh_dX10_readSum_0_0 2 rfl) (zi_at zh_dX10_readSum_0_0 3 rfl) (zi_at zh_dX10_readSum_0_0 4 rfl) rfl
theorem dX10_readSum_5 : decode cX10_readSum 5 = .ok (.iconst 0, 1) := zo_3 (zi_at zh_dX10_readSum_0_0 5 rfl)
theorem dX10_readSum_6 : decode cX10_readSum 6 = .ok (.istore_n 2, 1) := zo_61 (zi_at zh_dX10_readSum_0_0 6 rfl)
theorem dX10_readSum_7 : decode cX10_readSum 7 = .ok (.iload_n 2, 1) := zo_28 (zi_at zh_dX10_readSum_0_0 7 rfl)
theorem dX10_readSum_8 : decode cX10_readSum 8 = .ok (.sipush 200, 3) := zo_17 (zi_at zh_dX10_readSum_0_0 8 rfl) (zi_at zh_dX10_readSum_0_0 9 rfl) (zi_at zh_dX10_readSum_0_0 10 rfl) rfl
theorem dX10_readSum_11 : decode cX10_readSum 11 = .ok (.if_icmp .ge 54, 3) := zo_162 (zi_at zh_dX10_readSum_0_0 11 rfl) (zi_at zh_dX10_readSum_0_0 12 rfl) (zi_at zh_dX10_readSum_0_0 13 rfl) rfl
theorem dX10_readSum_14 : decode cX10_readSum 14 = .ok (.ldc 108, 2) := zo_18 (zi_at zh_dX10_readSum_0_0 14 rfl) (zi_at zh_dX10_readSum_0_0 15 rfl)
theorem dX10_readSum_16 : decode cX10_readSum 16 = .ok (.aload_n 0, 1) := zo_42 (zi_at zh_dX10_readSum_16_16 0 rfl)
theorem dX10_readSum_17 : decode cX10_readSum 17 = .ok (.invokevirtual 46, 3) := zo_182 (zi_at zh_dX10_readSum_16_16 1 rfl) (zi_at zh_dX10_readSum_16_16 2 rfl) (zi_at zh_dX10_readSum_16_16 3 rfl) rfl
theorem dX10_readSum_20 : decode cX10_readSum 20 = .ok (.invokestatic 66, 3) := zo_184 (zi_at zh_dX10_readSum_16_16 4 rfl) (zi_at zh_dX10_readSum_16_16 5 rfl) (zi_at zh_dX10_readSum_16_16 6 rfl) rfl
theorem dX10_readSum_23 : decode cX10_readSum 23 = .ok (.ifCond .eq 42, 3) := zo_153 (zi_at zh_dX10_readSum_16_16 7 rfl) (zi_at zh_dX10_readSum_16_16 8 rfl) (zi_at zh_dX10_readSum_16_16 9 rfl) rfl
theorem dX10_readSum_26 : decode cX10_readSum 26 = .ok (.aload_n 0, 1) := zo_42 (zi_at zh_dX10_readSum_16_16 10 rfl)
theorem dX10_readSum_27 : decode cX10_readSum 27 = .ok (.getfield 9, 3) := zo_180 (zi_at zh_dX10_readSum_16_16 11 rfl) (zi_at zh_dX10_readSum_16_16 12 rfl) (zi_at zh_dX10_readSum_16_16 13 rfl) rfl
theorem dX10_readSum_30 : decode cX10_readSum 30 = .ok (.aload_n 0, 1) := zo_42 (zi_at zh_dX10_readSum_16_16 14 rfl)
theorem dX10_readSum_31 : decode cX10_readSum 31 = .ok (.getfield 31, 3) := zo_180 (zi_at zh_dX10_readSum_16_16 15 rfl) (zi_at zh_dX10_readSum_31_32 0 rfl) (zi_at zh_dX10_readSum_31_32 1 rfl) rfl
theorem dX10_readSum_34 : decode cX10_readSum 34 = .ok (.iaload, 1) := zo_46 (zi_at zh_dX10_readSum_31_32 2 rfl)
theorem dX10_readSum_35 : decode cX10_readSum 35 = .ok (.istore_n 3, 1) := zo_62 (zi_at zh_dX10_readSum_31_32 3 rfl)
theorem dX10_readSum_36 : decode cX10_readSum 36 = .ok (.aload_n 0, 1) := zo_42 (zi_at zh_dX10_readSum_31_32 4 rfl)
theorem dX10_readSum_37 : decode cX10_readSum 37 = .ok (.dup, 1) := zo_89 (zi_at zh_dX10_readSum_31_32 5 rfl)
theorem dX10_readSum_38 : decode cX10_readSum 38 = .ok (.getfield 31, 3) := zo_180 (zi_at zh_dX10_readSum_31_32 6 rfl) (zi_at zh_dX10_readSum_31_32 7 rfl) (zi_at zh_dX10_readSum_31_32 8 rfl) rfl
theorem dX10_readSum_41 : decode cX10_readSum 41 = .ok (.iconst 1, 1) := zo_4 (zi_at zh_dX10_readSum_31_32 9 rfl)
theorem dX10_readSum_42 : decode cX10_readSum 42 = .ok (.iadd, 1) := zo_96 (zi_at zh_dX10_readSum_31_32 10 rfl)
theorem dX10_readSum_43 : decode cX10_readSum 43 = .ok (.putfield 31, 3) := zo_181 (zi_at zh_dX10_readSum_31_32 11 rfl) (zi_at zh_dX10_readSum_31_32 12 rfl) (zi_at zh_dX10_readSum_31_32 13 rfl) rfl
theorem dX10_readSum_46 : decode cX10_readSum 46 = .ok (.aload_n 0, 1) := zo_42 (zi_at zh_dX10_readSum_31_32 14 rfl)
theorem dX10_readSum_47 : decode cX10_readSum 47 = .ok (.iload_n 1, 1) := zo_27 (zi_at zh_dX10_readSum_31_32 15 rfl)
theorem dX10_readSum_48 : decode cX10_readSum 48 = .ok (.invokevirtual 105, 3) := zo_182 (zi_at zh_dX10_readSum_48_48 0 rfl) (zi_at zh_dX10_readSum_48_48 1 rfl) (zi_at zh_dX10_readSum_48_48 2 rfl) rfl
theorem dX10_readSum_51 : decode cX10_readSum 51 = .ok (.aload_n 0, 1) := zo_42 (zi_at zh_dX10_readSum_48_48 3 rfl)
theorem dX10_readSum_52 : decode cX10_readSum 52 = .ok (.iload_n 3, 1) := zo_29 (zi_at zh_dX10_readSum_48_48 4 rfl)
theorem dX10_readSum_53 : decode cX10_readSum 53 = .ok (.invokestatic 88, 3) := zo_184 (zi_at zh_dX10_readSum_48_48 5 rfl) (zi_at zh_dX10_readSum_48_48 6 rfl) (zi_at zh_dX10_readSum_48_48 7 rfl) rfl
theorem dX10_readSum_56 : decode cX10_readSum 56 = .ok (.invokevirtual 92, 3) := zo_182 (zi_at zh_dX10_readSum_48_48 8 rfl) (zi_at zh_dX10_readSum_48_48 9 rfl) (zi_at zh_dX10_readSum_48_48 10 rfl) rfl
theorem dX10_readSum_59 : decode cX10_readSum 59 = .ok (.iinc 2 1, 3) := zo_132 (zi_at zh_dX10_readSum_48_48 11 rfl) (zi_at zh_dX10_readSum_48_48 12 rfl) (zi_at zh_dX10_readSum_48_48 13 rfl) rfl
theorem dX10_readSum_62 : decode cX10_readSum 62 = .ok (.goto (-55), 3) := zo_167 (zi_at zh_dX10_readSum_48_48 14 rfl) (zi_at zh_dX10_readSum_48_48 15 rfl) (zi_at zh_dX10_readSum_62_64 0 rfl) rfl
theorem dX10_readSum_65 : decode cX10_readSum 65 = .ok (.return_, 1) := zo_177 (zi_at zh_dX10_readSum_62_64 1 rfl)
theorem dX10_readTerm_0 : decode cX10_readTerm 0 = .ok (.aload_n 0, 1) := zo_42 (zi_at zh_dX10_readTerm_0_0 0 rfl)
theorem dX10_readTerm_1 : decode cX10_readTerm 1 = .ok (.iload_n 1, 1) := zo_27 (zi_at zh_dX10_readTerm_0_0 1 rfl)
theorem dX10_readTerm_2 : decode cX10_readTerm 2 = .ok (.invokevirtual 110, 3) := zo_182 (zi_at zh_dX10_readTerm_0_0 2 rfl) (zi_at zh_dX10_readTerm_0_0 3 rfl) (zi_at zh_dX10_readTerm_0_0 4 rfl) rfl
theorem dX10_readTerm_5 : decode cX10_readTerm 5 = .ok (.iconst 0, 1) := zo_3 (zi_at zh_dX10_readTerm_0_0 5 rfl)
theorem dX10_readTerm_6 : decode cX10_readTerm 6 = .ok (.istore_n 2, 1) := zo_61 (zi_at zh_dX10_readTerm_0_0 6 rfl)
theorem dX10_readTerm_7 : decode cX10_readTerm 7 = .ok (.iload_n 2, 1) := zo_28 (zi_at zh_dX10_readTerm_0_0 7 rfl)
theorem dX10_readTerm_8 : decode cX10_readTerm 8 = .ok (.sipush 200, 3) := zo_17 (zi_at zh_dX10_readTerm_0_0 8 rfl) (zi_at zh_dX10_readTerm_0_0 9 rfl) (zi_at zh_dX10_readTerm_0_0 10 rfl) rfl
theorem dX10_readTerm_11 : decode cX10_readTerm 11 = .ok (.if_icmp .ge 54, 3) := zo_162 (zi_at zh_dX10_readTerm_0_0 11 rfl) (zi_at zh_dX10_readTerm_0_0 12 rfl) (zi_at zh_dX10_readTerm_0_0 13 rfl) rfl
theorem dX10_readTerm_14 : decode cX10_readTerm 14 = .ok (.ldc 113, 2) := zo_18 (zi_at zh_dX10_readTerm_0_0 14 rfl) (zi_at zh_dX10_readTerm_0_0 15 rfl)
theorem dX10_readTerm_16 : decode cX10_readTerm 16 = .ok (.aload_n 0, 1) := zo_42 (zi_at zh_dX10_readTerm_16_16 0 rfl)
theorem dX10_readTerm_17 : decode cX10_readTerm 17 = .ok (.invokevirtual 46, 3) := zo_182 (zi_at zh_dX10_readTerm_16_16 1 rfl) (zi_at zh_dX10_readTerm_16_16 2 rfl) (zi_at zh_dX10_readTerm_16_16 3 rfl) rfl
theorem dX10_readTerm_20 : decode cX10_readTerm 20 = .ok (.invokestatic 66, 3) := zo_184 (zi_at zh_dX10_readTerm_16_16 4 rfl) (zi_at zh_dX10_readTerm_16_16 5 rfl) (zi_at zh_dX10_readTerm_16_16 6 rfl) rfl
theorem dX10_readTerm_23 : decode cX10_readTerm 23 = .ok (.ifCond .eq 42, 3) := zo_153 (zi_at zh_dX10_readTerm_16_16 7 rfl) (zi_at zh_dX10_readTerm_16_16 8 rfl) (zi_at zh_dX10_readTerm_16_16 9 rfl) rfl
theorem dX10_readTerm_26 : decode cX10_readTerm 26 = .ok (.aload_n 0, 1) := zo_42 (zi_at zh_dX10_readTerm_16_16 10 rfl)
theorem dX10_readTerm_27 : decode cX10_readTerm 27 = .ok (.getfield 9, 3) := zo_180 (zi_at zh_dX10_readTerm_16_16 11 rfl) (zi_at zh_dX10_readTerm_16_16 12 rfl) (zi_at zh_dX10_readTerm_16_16 13 rfl) rfl
theorem dX10_readTerm_30 : decode cX10_readTerm 30 = .ok (.aload_n 0, 1) := zo_42 (zi_at zh_dX10_readTerm_16_16 14 rfl)
theorem dX10_readTerm_31 : decode cX10_readTerm 31 = .ok (.getfield 31, 3) := zo_180 (zi_at zh_dX10_readTerm_16_16 15 rfl) (zi_at zh_dX10_readTerm_31_32 0 rfl) (zi_at zh_dX10_readTerm_31_32 1 rfl) rfl
theorem dX10_readTerm_34 : decode cX10_readTerm 34 = .ok (.iaload, 1) := zo_46 (zi_at zh_dX10_readTerm_31_32 2 rfl)
theorem dX10_readTerm_35 : decode cX10_readTerm 35 = .ok (.istore_n 3, 1) := zo_62 (zi_at zh_dX10_readTerm_31_32 3 rfl)
theorem dX10_readTerm_36 : decode cX10_readTerm 36 = .ok (.aload_n 0, 1) := zo_42 (zi_at zh_dX10_readTerm_31_32 4 rfl)
theorem dX10_readTerm_37 : decode cX10_readTerm 37 = .ok (.dup, 1) := zo_89 (zi_at zh_dX10_readTerm_31_32 5 rfl)
theorem dX10_readTerm_38 : decode cX10_readTerm 38 = .ok (.getfield 31, 3) := zo_180 (zi_at zh_dX10_readTerm_31_32 6 rfl) (zi_at zh_dX10_readTerm_31_32 7 rfl) (zi_at zh_dX10_readTerm_31_32 8 rfl) rfl
theorem dX10_readTerm_41 : decode cX10_readTerm 41 = .ok (.iconst 1, 1) := zo_4 (zi_at zh_dX10_readTerm_31_32 9 rfl)
theorem dX10_readTerm_42 : decode cX10_readTerm 42 = .ok (.iadd, 1) := zo_96 (zi_at zh_dX10_readTerm_31_32 10 rfl)
theorem dX10_readTerm_43 : decode cX10_readTerm 43 = .ok (.putfield 31, 3) := zo_181 (zi_at zh_dX10_readTerm_31_32 11 rfl) (zi_at zh_dX10_readTerm_31_32 12 rfl) (zi_at zh_dX10_readTerm_31_32 13 rfl) rfl
theorem dX10_readTerm_46 : decode cX10_readTerm 46 = .ok (.aload_n 0, 1) := zo_42 (zi_at zh_dX10_readTerm_31_32 14 rfl)
theorem dX10_readTerm_47 : decode cX10_readTerm 47 = .ok (.iload_n 1, 1) := zo_27 (zi_at zh_dX10_readTerm_31_32 15 rfl)
theorem dX10_readTerm_48 : decode cX10_readTerm 48 = .ok (.invokevirtual 110, 3) := zo_182 (zi_at zh_dX10_readTerm_48_48 0 rfl) (zi_at zh_dX10_readTerm_48_48 1 rfl) (zi_at zh_dX10_readTerm_48_48 2 rfl) rfl
theorem dX10_readTerm_51 : decode cX10_readTerm 51 = .ok (.aload_n 0, 1) := zo_42 (zi_at zh_dX10_readTerm_48_48 3 rfl)
theorem dX10_readTerm_52 : decode cX10_readTerm 52 = .ok (.iload_n 3, 1) := zo_29 (zi_at zh_dX10_readTerm_48_48 4 rfl)
theorem dX10_readTerm_53 : decode cX10_readTerm 53 = .ok (.invokestatic 88, 3) := zo_184 (zi_at zh_dX10_readTerm_48_48 5 rfl) (zi_at zh_dX10_readTerm_48_48 6 rfl) (zi_at zh_dX10_readTerm_48_48 7 rfl) rfl
theorem dX10_readTerm_56 : decode cX10_readTerm 56 = .ok (.invokevirtual 92, 3) := zo_182 (zi_at zh_dX10_readTerm_48_48 8 rfl) (zi_at zh_dX10_readTerm_48_48 9 rfl) (zi_at zh_dX10_readTerm_48_48 10 rfl) rfl
theorem dX10_readTerm_59 : decode cX10_readTerm 59 = .ok (.iinc 2 1, 3) := zo_132 (zi_at zh_dX10_readTerm_48_48 11 rfl) (zi_at zh_dX10_readTerm_48_48 12 rfl) (zi_at zh_dX10_readTerm_48_48 13 rfl) rfl
theorem dX10_readTerm_62 : decode cX10_readTerm 62 = .ok (.goto (-55), 3) := zo_167 (zi_at zh_dX10_readTerm_48_48 14 rfl) (zi_at zh_dX10_readTerm_48_48 15 rfl) (zi_at zh_dX10_readTerm_62_64 0 rfl) rfl
theorem dX10_readTerm_65 : decode cX10_readTerm 65 = .ok (.return_, 1) := zo_177 (zi_at zh_dX10_readTerm_62_64 1 rfl)
theorem dX10_readAtom_0 : decode cX10_readAtom 0 = .ok (.aload_n 0, 1) := zo_42 (zi_at zh_dX10_readAtom_0_0 0 rfl)
theorem dX10_readAtom_1 : decode cX10_readAtom 1 = .ok (.invokevirtual 46, 3) := zo_182 (zi_at zh_dX10_readAtom_0_0 1 rfl) (zi_at zh_dX10_readAtom_0_0 2 rfl) (zi_at zh_dX10_readAtom_0_0 3 rfl) rfl
theorem dX10_readAtom_4 : decode cX10_readAtom 4 = .ok (.istore_n 2, 1) := zo_61 (zi_at zh_dX10_readAtom_0_0 4 rfl)
theorem dX10_readAtom_5 : decode cX10_readAtom 5 = .ok (.iload_n 2, 1) := zo_28 (zi_at zh_dX10_readAtom_0_0 5 rfl)
theorem dX10_readAtom_6 : decode cX10_readAtom 6 = .ok (.invokestatic 115, 3) := zo_184 (zi_at zh_dX10_readAtom_0_0 6 rfl) (zi_at zh_dX10_readAtom_0_0 7 rfl) (zi_at zh_dX10_readAtom_0_0 8 rfl) rfl
theorem dX10_readAtom_9 : decode cX10_readAtom 9 = .ok (.ifCond .eq 10, 3) := zo_153 (zi_at zh_dX10_readAtom_0_0 9 rfl) (zi_at zh_dX10_readAtom_0_0 10 rfl) (zi_at zh_dX10_readAtom_0_0 11 rfl) rfl
theorem dX10_readAtom_12 : decode cX10_readAtom 12 = .ok (.aload_n 0, 1) := zo_42 (zi_at zh_dX10_readAtom_0_0 12 rfl)
theorem dX10_readAtom_13 : decode cX10_readAtom 13 = .ok (.invokevirtual 118, 3) := zo_182 (zi_at zh_dX10_readAtom_0_0 13 rfl) (zi_at zh_dX10_readAtom_0_0 14 rfl) (zi_at zh_dX10_readAtom_0_0 15 rfl) rfl
theorem dX10_readAtom_16 : decode cX10_readAtom 16 = .ok (.goto 74, 3) := zo_167 (zi_at zh_dX10_readAtom_16_16 0 rfl) (zi_at zh_dX10_readAtom_16_16 1 rfl) (zi_at zh_dX10_readAtom_16_16 2 rfl) rfl
theorem dX10_readAtom_19 : decode cX10_readAtom 19 = .ok (.ldc 121, 2) := zo_18 (zi_at zh_dX10_readAtom_16_16 3 rfl) (zi_at zh_dX10_readAtom_16_16 4 rfl)
theorem dX10_readAtom_21 : decode cX10_readAtom 21 = .ok (.iload_n 2, 1) := zo_28 (zi_at zh_dX10_readAtom_16_16 5 rfl)
theorem dX10_readAtom_22 : decode cX10_readAtom 22 = .ok (.invokestatic 66, 3) := zo_184 (zi_at zh_dX10_readAtom_16_16 6 rfl) (zi_at zh_dX10_readAtom_16_16 7 rfl) (zi_at zh_dX10_readAtom_16_16 8 rfl) rfl
theorem dX10_readAtom_25 : decode cX10_readAtom 25 = .ok (.ifCond .eq 30, 3) := zo_153 (zi_at zh_dX10_readAtom_16_16 9 rfl) (zi_at zh_dX10_readAtom_16_16 10 rfl) (zi_at zh_dX10_readAtom_16_16 11 rfl) rfl
theorem dX10_readAtom_28 : decode cX10_readAtom 28 = .ok (.aload_n 0, 1) := zo_42 (zi_at zh_dX10_readAtom_16_16 12 rfl)
theorem dX10_readAtom_29 : decode cX10_readAtom 29 = .ok (.dup, 1) := zo_89 (zi_at zh_dX10_readAtom_16_16 13 rfl)
theorem dX10_readAtom_30 : decode cX10_readAtom 30 = .ok (.getfield 31, 3) := zo_180 (zi_at zh_dX10_readAtom_16_16 14 rfl) (zi_at zh_dX10_readAtom_16_16 15 rfl) (zi_at zh_dX10_readAtom_30_32 0 rfl) rfl
theorem dX10_readAtom_33 : decode cX10_readAtom 33 = .ok (.iconst 1, 1) := zo_4 (zi_at zh_dX10_readAtom_30_32 1 rfl)
theorem dX10_readAtom_34 : decode cX10_readAtom 34 = .ok (.iadd, 1) := zo_96 (zi_at zh_dX10_readAtom_30_32 2 rfl)
theorem dX10_readAtom_35 : decode cX10_readAtom 35 = .ok (.putfield 31, 3) := zo_181 (zi_at zh_dX10_readAtom_30_32 3 rfl) (zi_at zh_dX10_readAtom_30_32 4 rfl) (zi_at zh_dX10_readAtom_30_32 5 rfl) rfl
theorem dX10_readAtom_38 : decode cX10_readAtom 38 = .ok (.aload_n 0, 1) := zo_42 (zi_at zh_dX10_readAtom_30_32 6 rfl)
theorem dX10_readAtom_39 : decode cX10_readAtom 39 = .ok (.ldc 121, 2) := zo_18 (zi_at zh_dX10_readAtom_30_32 7 rfl) (zi_at zh_dX10_readAtom_30_32 8 rfl)
theorem dX10_readAtom_41 : decode cX10_readAtom 41 = .ok (.iload_n 2, 1) := zo_28 (zi_at zh_dX10_readAtom_30_32 9 rfl)
theorem dX10_readAtom_42 : decode cX10_readAtom 42 = .ok (.i2c, 1) := zo_146 (zi_at zh_dX10_readAtom_30_32 10 rfl)
theorem dX10_readAtom_43 : decode cX10_readAtom 43 = .ok (.invokevirtual 123, 3) := zo_182 (zi_at zh_dX10_readAtom_30_32 11 rfl) (zi_at zh_dX10_readAtom_30_32 12 rfl) (zi_at zh_dX10_readAtom_30_32 13 rfl) rfl
theorem dX10_readAtom_46 : decode cX10_readAtom 46 = .ok (.invokestatic 128, 3) := zo_184 (zi_at zh_dX10_readAtom_30_32 14 rfl) (zi_at zh_dX10_readAtom_30_32 15 rfl) (zi_at zh_dX10_readAtom_46_48 0 rfl) rfl
theorem dX10_readAtom_49 : decode cX10_readAtom 49 = .ok (.invokevirtual 92, 3) := zo_182 (zi_at zh_dX10_readAtom_46_48 1 rfl) (zi_at zh_dX10_readAtom_46_48 2 rfl) (zi_at zh_dX10_readAtom_46_48 3 rfl) rfl
theorem dX10_readAtom_52 : decode cX10_readAtom 52 = .ok (.goto 38, 3) := zo_167 (zi_at zh_dX10_readAtom_46_48 4 rfl) (zi_at zh_dX10_readAtom_46_48 5 rfl) (zi_at zh_dX10_readAtom_46_48 6 rfl) rfl
theorem dX10_readAtom_55 : decode cX10_readAtom 55 = .ok (.iload_n 2, 1) := zo_28 (zi_at zh_dX10_readAtom_46_48 7 rfl)
theorem dX10_readAtom_56 : decode cX10_readAtom 56 = .ok (.bipush 91, 2) := zo_16 (zi_at zh_dX10_readAtom_46_48 8 rfl) (zi_at zh_dX10_readAtom_46_48 9 rfl) rfl
theorem dX10_readAtom_58 : decode cX10_readAtom 58 = .ok (.if_icmp .ne 28, 3) := zo_160 (zi_at zh_dX10_readAtom_46_48 10 rfl) (zi_at zh_dX10_readAtom_46_48 11 rfl) (zi_at zh_dX10_readAtom_46_48 12 rfl) rfl
theorem dX10_readAtom_61 : decode cX10_readAtom 61 = .ok (.aload_n 0, 1) := zo_42 (zi_at zh_dX10_readAtom_46_48 13 rfl)
theorem dX10_readAtom_62 : decode cX10_readAtom 62 = .ok (.iload_n 1, 1) := zo_27 (zi_at zh_dX10_readAtom_46_48 14 rfl)
theorem dX10_readAtom_63 : decode cX10_readAtom 63 = .ok (.invokevirtual 98, 3) := zo_182 (zi_at zh_dX10_readAtom_46_48 15 rfl) (zi_at zh_dX10_readAtom_63_64 0 rfl) (zi_at zh_dX10_readAtom_63_64 1 rfl) rfl
theorem dX10_readAtom_66 : decode cX10_readAtom 66 = .ok (.ifCond .ne 4, 3) := zo_154 (zi_at zh_dX10_readAtom_63_64 2 rfl) (zi_at zh_dX10_readAtom_63_64 3 rfl) (zi_at zh_dX10_readAtom_63_64 4 rfl) rfl
theorem dX10_readAtom_69 : decode cX10_readAtom 69 = .ok (.return_, 1) := zo_177 (zi_at zh_dX10_readAtom_63_64 5 rfl)
theorem dX10_readAtom_70 : decode cX10_readAtom 70 = .ok (.aload_n 0, 1) := zo_42 (zi_at zh_dX10_readAtom_63_64 6 rfl)
theorem dX10_readAtom_71 : decode cX10_readAtom 71 = .ok (.iload_n 1, 1) := zo_27 (zi_at zh_dX10_readAtom_63_64 7 rfl)
theorem dX10_readAtom_72 : decode cX10_readAtom 72 = .ok (.iconst 1, 1) := zo_4 (zi_at zh_dX10_readAtom_63_64 8 rfl)
theorem dX10_readAtom_73 : decode cX10_readAtom 73 = .ok (.iadd, 1) := zo_96 (zi_at zh_dX10_readAtom_63_64 9 rfl)
theorem dX10_readAtom_74 : decode cX10_readAtom 74 = .ok (.invokevirtual 76, 3) := zo_182 (zi_at zh_dX10_readAtom_63_64 10 rfl) (zi_at zh_dX10_readAtom_63_64 11 rfl) (zi_at zh_dX10_readAtom_63_64 12 rfl) rfl
theorem dX10_readAtom_77 : decode cX10_readAtom 77 = .ok (.aload_n 0, 1) := zo_42 (zi_at zh_dX10_readAtom_63_64 13 rfl)
theorem dX10_readAtom_78 : decode cX10_readAtom 78 = .ok (.bipush 93, 2) := zo_16 (zi_at zh_dX10_readAtom_63_64 14 rfl) (zi_at zh_dX10_readAtom_63_64 15 rfl) rfl
theorem dX10_readAtom_80 : decode cX10_readAtom 80 = .ok (.invokevirtual 70, 3) := zo_182 (zi_at zh_dX10_readAtom_80_80 0 rfl) (zi_at zh_dX10_readAtom_80_80 1 rfl) (zi_at zh_dX10_readAtom_80_80 2 rfl) rfl
theorem dX10_readAtom_83 : decode cX10_readAtom 83 = .ok (.goto 7, 3) := zo_167 (zi_at zh_dX10_readAtom_80_80 3 rfl) (zi_at zh_dX10_readAtom_80_80 4 rfl) (zi_at zh_dX10_readAtom_80_80 5 rfl) rfl
theorem dX10_readAtom_86 : decode cX10_readAtom 86 = .ok (.aload_n 0, 1) := zo_42 (zi_at zh_dX10_readAtom_80_80 6 rfl)
theorem dX10_readAtom_87 : decode cX10_readAtom 87 = .ok (.invokevirtual 50, 3) := zo_182 (zi_at zh_dX10_readAtom_80_80 7 rfl) (zi_at zh_dX10_readAtom_80_80 8 rfl) (zi_at zh_dX10_readAtom_80_80 9 rfl) rfl
theorem dX10_readAtom_90 : decode cX10_readAtom 90 = .ok (.return_, 1) := zo_177 (zi_at zh_dX10_readAtom_80_80 10 rfl)
theorem dX10_readNumber_0 : decode cX10_readNumber 0 = .ok (.iconst 0, 1) := zo_3 (zi_at zh_dX10_readNumber_0_0 0 rfl)
theorem dX10_readNumber_1 : decode cX10_readNumber 1 = .ok (.istore_n 1, 1) := zo_60 (zi_at zh_dX10_readNumber_0_0 1 rfl)
theorem dX10_readNumber_2 : decode cX10_readNumber 2 = .ok (.iconst 0, 1) := zo_3 (zi_at zh_dX10_readNumber_0_0 2 rfl)
theorem dX10_readNumber_3 : decode cX10_readNumber 3 = .ok (.istore_n 2, 1) := zo_61 (zi_at zh_dX10_readNumber_0_0 3 rfl)
theorem dX10_readNumber_4 : decode cX10_readNumber 4 = .ok (.iload_n 2, 1) := zo_28 (zi_at zh_dX10_readNumber_0_0 4 rfl)
theorem dX10_readNumber_5 : decode cX10_readNumber 5 = .ok (.iconst 5, 1) := zo_8 (zi_at zh_dX10_readNumber_0_0 5 rfl)
theorem dX10_readNumber_6 : decode cX10_readNumber 6 = .ok (.if_icmp .ge 63, 3) := zo_162 (zi_at zh_dX10_readNumber_0_0 6 rfl) (zi_at zh_dX10_readNumber_0_0 7 rfl) (zi_at zh_dX10_readNumber_0_0 8 rfl) rfl
theorem dX10_readNumber_9 : decode cX10_readNumber 9 = .ok (.aload_n 0, 1) := zo_42 (zi_at zh_dX10_readNumber_0_0 9 rfl)
theorem dX10_readNumber_10 : decode cX10_readNumber 10 = .ok (.getfield 31, 3) := zo_180 (zi_at zh_dX10_readNumber_0_0 10 rfl) (zi_at zh_dX10_readNumber_0_0 11 rfl) (zi_at zh_dX10_readNumber_0_0 12 rfl) rfl
theorem dX10_readNumber_13 : decode cX10_readNumber 13 = .ok (.aload_n 0, 1) := zo_42 (zi_at zh_dX10_readNumber_0_0 13 rfl)
theorem dX10_readNumber_14 : decode cX10_readNumber 14 = .ok (.getfield 27, 3) := zo_180 (zi_at zh_dX10_readNumber_0_0 14 rfl) (zi_at zh_dX10_readNumber_0_0 15 rfl) (zi_at zh_dX10_readNumber_14_16 0 rfl) rfl
theorem dX10_readNumber_17 : decode cX10_readNumber 17 = .ok (.if_icmp .ge 52, 3) := zo_162 (zi_at zh_dX10_readNumber_14_16 1 rfl) (zi_at zh_dX10_readNumber_14_16 2 rfl) (zi_at zh_dX10_readNumber_14_16 3 rfl) rfl
theorem dX10_readNumber_20 : decode cX10_readNumber 20 = .ok (.aload_n 0, 1) := zo_42 (zi_at zh_dX10_readNumber_14_16 4 rfl)
theorem dX10_readNumber_21 : decode cX10_readNumber 21 = .ok (.getfield 9, 3) := zo_180 (zi_at zh_dX10_readNumber_14_16 5 rfl) (zi_at zh_dX10_readNumber_14_16 6 rfl) (zi_at zh_dX10_readNumber_14_16 7 rfl) rfl
theorem dX10_readNumber_24 : decode cX10_readNumber 24 = .ok (.aload_n 0, 1) := zo_42 (zi_at zh_dX10_readNumber_14_16 8 rfl)
theorem dX10_readNumber_25 : decode cX10_readNumber 25 = .ok (.getfield 31, 3) := zo_180 (zi_at zh_dX10_readNumber_14_16 9 rfl) (zi_at zh_dX10_readNumber_14_16 10 rfl) (zi_at zh_dX10_readNumber_14_16 11 rfl) rfl
theorem dX10_readNumber_28 : decode cX10_readNumber 28 = .ok (.iaload, 1) := zo_46 (zi_at zh_dX10_readNumber_14_16 12 rfl)
theorem dX10_readNumber_29 : decode cX10_readNumber 29 = .ok (.invokestatic 115, 3) := zo_184 (zi_at zh_dX10_readNumber_14_16 13 rfl) (zi_at zh_dX10_readNumber_14_16 14 rfl) (zi_at zh_dX10_readNumber_14_16 15 rfl) rfl
theorem dX10_readNumber_32 : decode cX10_readNumber 32 = .ok (.ifCond .eq 37, 3) := zo_153 (zi_at zh_dX10_readNumber_32_32 0 rfl) (zi_at zh_dX10_readNumber_32_32 1 rfl) (zi_at zh_dX10_readNumber_32_32 2 rfl) rfl
theorem dX10_readNumber_35 : decode cX10_readNumber 35 = .ok (.iload_n 1, 1) := zo_27 (zi_at zh_dX10_readNumber_32_32 3 rfl)
theorem dX10_readNumber_36 : decode cX10_readNumber 36 = .ok (.bipush 10, 2) := zo_16 (zi_at zh_dX10_readNumber_32_32 4 rfl) (zi_at zh_dX10_readNumber_32_32 5 rfl) rfl
theorem dX10_readNumber_38 : decode cX10_readNumber 38 = .ok (.imul, 1) := zo_104 (zi_at zh_dX10_readNumber_32_32 6 rfl)
theorem dX10_readNumber_39 : decode cX10_readNumber 39 = .ok (.aload_n 0, 1) := zo_42 (zi_at zh_dX10_readNumber_32_32 7 rfl)
theorem dX10_readNumber_40 : decode cX10_readNumber 40 = .ok (.getfield 9, 3) := zo_180 (zi_at zh_dX10_readNumber_32_32 8 rfl) (zi_at zh_dX10_readNumber_32_32 9 rfl) (zi_at zh_dX10_readNumber_32_32 10 rfl) rfl
theorem dX10_readNumber_43 : decode cX10_readNumber 43 = .ok (.aload_n 0, 1) := zo_42 (zi_at zh_dX10_readNumber_32_32 11 rfl)
theorem dX10_readNumber_44 : decode cX10_readNumber 44 = .ok (.getfield 31, 3) := zo_180 (zi_at zh_dX10_readNumber_32_32 12 rfl) (zi_at zh_dX10_readNumber_32_32 13 rfl) (zi_at zh_dX10_readNumber_32_32 14 rfl) rfl
theorem dX10_readNumber_47 : decode cX10_readNumber 47 = .ok (.iaload, 1) := zo_46 (zi_at zh_dX10_readNumber_32_32 15 rfl)
theorem dX10_readNumber_48 : decode cX10_readNumber 48 = .ok (.iadd, 1) := zo_96 (zi_at zh_dX10_readNumber_48_48 0 rfl)
theorem dX10_readNumber_49 : decode cX10_readNumber 49 = .ok (.bipush 48, 2) := zo_16 (zi_at zh_dX10_readNumber_48_48 1 rfl) (zi_at zh_dX10_readNumber_48_48 2 rfl) rfl
theorem dX10_readNumber_51 : decode cX10_readNumber 51 = .ok (.isub, 1) := zo_100 (zi_at zh_dX10_readNumber_48_48 3 rfl)
theorem dX10_readNumber_52 : decode cX10_readNumber 52 = .ok (.istore_n 1, 1) := zo_60 (zi_at zh_dX10_readNumber_48_48 4 rfl)
theorem dX10_readNumber_53 : decode cX10_readNumber 53 = .ok (.iinc 2 1, 3) := zo_132 (zi_at zh_dX10_readNumber_48_48 5 rfl) (zi_at zh_dX10_readNumber_48_48 6 rfl) (zi_at zh_dX10_readNumber_48_48 7 rfl) rfl
theorem dX10_readNumber_56 : decode cX10_readNumber 56 = .ok (.aload_n 0, 1) := zo_42 (zi_at zh_dX10_readNumber_48_48 8 rfl)
theorem dX10_readNumber_57 : decode cX10_readNumber 57 = .ok (.dup, 1) := zo_89 (zi_at zh_dX10_readNumber_48_48 9 rfl)
theorem dX10_readNumber_58 : decode cX10_readNumber 58 = .ok (.getfield 31, 3) := zo_180 (zi_at zh_dX10_readNumber_48_48 10 rfl) (zi_at zh_dX10_readNumber_48_48 11 rfl) (zi_at zh_dX10_readNumber_48_48 12 rfl) rfl
theorem dX10_readNumber_61 : decode cX10_readNumber 61 = .ok (.iconst 1, 1) := zo_4 (zi_at zh_dX10_readNumber_48_48 13 rfl)
theorem dX10_readNumber_62 : decode cX10_readNumber 62 = .ok (.iadd, 1) := zo_96 (zi_at zh_dX10_readNumber_48_48 14 rfl)
theorem dX10_readNumber_63 : decode cX10_readNumber 63 = .ok (.putfield 31, 3) := zo_181 (zi_at zh_dX10_readNumber_48_48 15 rfl) (zi_at zh_dX10_readNumber_63_64 0 rfl) (zi_at zh_dX10_readNumber_63_64 1 rfl) rfl
theorem dX10_readNumber_66 : decode cX10_readNumber 66 = .ok (.goto (-62), 3) := zo_167 (zi_at zh_dX10_readNumber_63_64 2 rfl) (zi_at zh_dX10_readNumber_63_64 3 rfl) (zi_at zh_dX10_readNumber_63_64 4 rfl) rfl
theorem dX10_readNumber_69 : decode cX10_readNumber 69 = .ok (.aload_n 0, 1) := zo_42 (zi_at zh_dX10_readNumber_63_64 5 rfl)
theorem dX10_readNumber_70 : decode cX10_readNumber 70 = .ok (.iload_n 1, 1) := zo_27 (zi_at zh_dX10_readNumber_63_64 6 rfl)
theorem dX10_readNumber_71 : decode cX10_readNumber 71 = .ok (.invokevirtual 92, 3) := zo_182 (zi_at zh_dX10_readNumber_63_64 7 rfl) (zi_at zh_dX10_readNumber_63_64 8 rfl) (zi_at zh_dX10_readNumber_63_64 9 rfl) rfl
theorem dX10_readNumber_74 : decode cX10_readNumber 74 = .ok (.return_, 1) := zo_177 (zi_at zh_dX10_readNumber_63_64 10 rfl)
theorem dX10_goDeeper_0 : decode cX10_goDeeper 0 = .ok (.iload_n 1, 1) := zo_27 (zi_at zh_dX10_goDeeper_0_0 0 rfl)
theorem dX10_goDeeper_1 : decode cX10_goDeeper 1 = .ok (.bipush 8, 2) := zo_16 (zi_at zh_dX10_goDeeper_0_0 1 rfl) (zi_at zh_dX10_goDeeper_0_0 2 rfl) rfl
theorem dX10_goDeeper_3 : decode cX10_goDeeper 3 = .ok (.if_icmp .lt 9, 3) := zo_161 (zi_at zh_dX10_goDeeper_0_0 3 rfl) (zi_at zh_dX10_goDeeper_0_0 4 rfl) (zi_at zh_dX10_goDeeper_0_0 5 rfl) rfl
theorem dX10_goDeeper_6 : decode cX10_goDeeper 6 = .ok (.aload_n 0, 1) := zo_42 (zi_at zh_dX10_goDeeper_0_0 6 rfl)
theorem dX10_goDeeper_7 : decode cX10_goDeeper 7 = .ok (.invokevirtual 50, 3) := zo_182 (zi_at zh_dX10_goDeeper_0_0 7 rfl) (zi_at zh_dX10_goDeeper_0_0 8 rfl) (zi_at zh_dX10_goDeeper_0_0 9 rfl) rfl
theorem dX10_goDeeper_10 : decode cX10_goDeeper 10 = .ok (.iconst 0, 1) := zo_3 (zi_at zh_dX10_goDeeper_0_0 10 rfl)
theorem dX10_goDeeper_11 : decode cX10_goDeeper 11 = .ok (.ireturn, 1) := zo_172 (zi_at zh_dX10_goDeeper_0_0 11 rfl)
theorem dX10_goDeeper_12 : decode cX10_goDeeper 12 = .ok (.aload_n 0, 1) := zo_42 (zi_at zh_dX10_goDeeper_0_0 12 rfl)
theorem dX10_goDeeper_13 : decode cX10_goDeeper 13 = .ok (.dup, 1) := zo_89 (zi_at zh_dX10_goDeeper_0_0 13 rfl)
theorem dX10_goDeeper_14 : decode cX10_goDeeper 14 = .ok (.getfield 31, 3) := zo_180 (zi_at zh_dX10_goDeeper_0_0 14 rfl) (zi_at zh_dX10_goDeeper_0_0 15 rfl) (zi_at zh_dX10_goDeeper_14_16 0 rfl) rfl
theorem dX10_goDeeper_17 : decode cX10_goDeeper 17 = .ok (.iconst 1, 1) := zo_4 (zi_at zh_dX10_goDeeper_14_16 1 rfl)
theorem dX10_goDeeper_18 : decode cX10_goDeeper 18 = .ok (.iadd, 1) := zo_96 (zi_at zh_dX10_goDeeper_14_16 2 rfl)
theorem dX10_goDeeper_19 : decode cX10_goDeeper 19 = .ok (.putfield 31, 3) := zo_181 (zi_at zh_dX10_goDeeper_14_16 3 rfl) (zi_at zh_dX10_goDeeper_14_16 4 rfl) (zi_at zh_dX10_goDeeper_14_16 5 rfl) rfl
theorem dX10_goDeeper_22 : decode cX10_goDeeper 22 = .ok (.iconst 1, 1) := zo_4 (zi_at zh_dX10_goDeeper_14_16 6 rfl)
theorem dX10_goDeeper_23 : decode cX10_goDeeper 23 = .ok (.ireturn, 1) := zo_172 (zi_at zh_dX10_goDeeper_14_16 7 rfl)
theorem dX12_isOneOf_0 : decode cX12_isOneOf 0 = .ok (.iload_n 1, 1) := zo_27 (zi_at zh_dX12_isOneOf_0_0 0 rfl)
theorem dX12_isOneOf_1 : decode cX12_isOneOf 1 = .ok (.ifCond .le 16, 3) := zo_158 (zi_at zh_dX12_isOneOf_0_0 1 rfl) (zi_at zh_dX12_isOneOf_0_0 2 rfl) (zi_at zh_dX12_isOneOf_0_0 3 rfl) rfl
theorem dX12_isOneOf_4 : decode cX12_isOneOf 4 = .ok (.aload_n 0, 1) := zo_42 (zi_at zh_dX12_isOneOf_0_0 4 rfl)
theorem dX12_isOneOf_5 : decode cX12_isOneOf 5 = .ok (.iload_n 1, 1) := zo_27 (zi_at zh_dX12_isOneOf_0_0 5 rfl)
theorem dX12_isOneOf_6 : decode cX12_isOneOf 6 = .ok (.i2c, 1) := zo_146 (zi_at zh_dX12_isOneOf_0_0 6 rfl)
theorem dX12_isOneOf_7 : decode cX12_isOneOf 7 = .ok (.invokevirtual 331, 3) := zo_182 (zi_at zh_dX12_isOneOf_0_0 7 rfl) (zi_at zh_dX12_isOneOf_0_0 8 rfl) (zi_at zh_dX12_isOneOf_0_0 9 rfl) rfl
theorem dX12_isOneOf_10 : decode cX12_isOneOf 10 = .ok (.ifCond .lt 7, 3) := zo_155 (zi_at zh_dX12_isOneOf_0_0 10 rfl) (zi_at zh_dX12_isOneOf_0_0 11 rfl) (zi_at zh_dX12_isOneOf_0_0 12 rfl) rfl
theorem dX12_isOneOf_13 : decode cX12_isOneOf 13 = .ok (.iconst 1, 1) := zo_4 (zi_at zh_dX12_isOneOf_0_0 13 rfl)
theorem dX12_isOneOf_14 : decode cX12_isOneOf 14 = .ok (.goto 4, 3) := zo_167 (zi_at zh_dX12_isOneOf_0_0 14 rfl) (zi_at zh_dX12_isOneOf_0_0 15 rfl) (zi_at zh_dX12_isOneOf_14_16 0 rfl) rfl
theorem dX12_isOneOf_17 : decode cX12_isOneOf 17 = .ok (.iconst 0, 1) := zo_3 (zi_at zh_dX12_isOneOf_14_16 1 rfl)
theorem dX12_isOneOf_18 : decode cX12_isOneOf 18 = .ok (.ireturn, 1) := zo_172 (zi_at zh_dX12_isOneOf_14_16 2 rfl)

/-- where CLAUSES begin and their SUMS lie within the steps -/
def TPok (gb gs : Nat → Int32) (c s : Int32) : Prop := ∀ k : Nat, (k : Int) < c.toInt → (gb k).toInt ≤ s.toInt ∧ (gs k).toInt ≤ s.toInt
theorem TPok_m {gb gs : Nat → Int32} {c s s2 : Int32} (h : TPok gb gs c s) (h2 : s.toInt ≤ s2.toInt) : TPok gb gs c s2 := fun k hk => ⟨Int.le_trans (h k hk).1 h2, Int.le_trans (h k hk).2 h2⟩
theorem TPok_0 {gb gs : Nat → Int32} {s : Int32} : TPok gb gs 0 s := fun k hk => absurd hk (by have : (0 : Int32).toInt = 0 := rfl; omega)
theorem TPok_push {gb gs gb2 gs2 : Nat → Int32} {c c2 s s2 : Int32} (h : TPok gb gs c s) (h2 : s.toInt ≤ s2.toInt) (hc : 0 ≤ c.toInt) (tc : c2.toInt = c.toInt + 1) (hb : ∀ k, k ≠ c.toNatClampNeg → gb2 k = gb k) (hs : ∀ k, k ≠ c.toNatClampNeg → gs2 k = gs k) (hb2 : (gb2 c.toNatClampNeg).toInt ≤ s2.toInt) (hs2 : (gs2 c.toNatClampNeg).toInt ≤ s2.toInt) : TPok gb2 gs2 c2 s2 := by
  intro k hk
  by_cases e : k = c.toNatClampNeg
  · subst e
    exact ⟨hb2, hs2⟩
  · rw [hb k e, hs k e]
    have := h k (by rw [tn_] at e; omega)
    omega
def v_isOneOf : List Cond := .code yX12_isOneOf cX12_isOneOf 2 (some .boolean) :: vA
abbrev rm_isOneOf : Room := { frames := 4, cells := 0, slots := 0, locals := 160 }
set_option maxHeartbeats 4000000 in
set_option maxRecDepth 100000 in
theorem q_isOneOf (l : Launch) (qs vs : Nat) (bs : List Int32) (a0 : Int32) (hh0 : bs.length ≤ 1000) (hh1 : ∀ b ∈ bs, 0 ≤ b.toInt ∧ b.toInt < 128) : Met l yX12_isOneOf v_isOneOf rm_isOneOf (va_Pc [.ref (qs), .int a0] (fun U => SS qs vs bs (fun _ => False) U U.heap)) (va_Qi (S := Unit) (fun r _ => (r = 1 ∧ (0 < a0.toInt)) ∨ (r = 0)) (fun _ _ => True) (fun _ => False)) 0 0 (fun _ => False) := by
  refine Met.ofW (cc := cX12_isOneOf) (maxL := 2) (ret := (some .boolean)) (by decide) rfl ?_
  intro p e s m args below meth c s₁ B hml hv
  obtain ⟨hargs, hSS⟩ := hv
  have hSS : SS qs vs bs (fun _ => False) s s.heap := hSS
  have hx := B.exec
  have hb := B.bytes
  have hr := B.returns
  have hts := atoms_spec (ws := v_isOneOf) B.pre
  have hown : s.vm.findClass RX12 = some m.cls := findClass_of_methodNamed B.named
  have hlocks := B.notSynchronized
  have hS : va_S (fun _ : Nat => False) s.heap s.heap [] := va_S.rf
  have hl := lv_entry ([.ref (qs), .int a0]) (n := 2) (Nat.le_of_ble_eq_true rfl)
  obtain ⟨Q, hQ⟩ : ∃ Q, Q = MQ below (va_Qi (S := Unit) (fun r _ => (r = 1 ∧ (0 < a0.toInt)) ∨ (r = 0)) (fun _ _ => True) (fun _ => False)) args s 0 0 (fun _ => False) := ⟨_, rfl⟩
  rw [← hQ, show entryFrame m args 2 = _ from (congrArg (fun z => entryFrame m z 2) hargs).trans (lg_entry_eq _ _ _)]
  generalize (lg_sl ([.ref (qs), .int a0]) ++ List.replicate (2 - (lg_sl ([.ref (qs), .int a0])).length) Slot.unset).toArray = ls at hl ⊢
  have hl : lv_has ls 2 [(0, .ref qs), (1, .int a0)] := hl
  refine lv_iload_n hx hb dX12_isOneOf_0 rfl (lv_at hl 1 rfl) ?_
  refine lv_if_le (tgt := 17) hx hb dX12_isOneOf_1 (by decide) (fun c1 => ?_) (fun c1 => ?_)
  · --1 taken
    have t2 : a0.toInt ≤ 0 := ti_le c1
    have i3 : -2147483648 ≤ a0.toInt ∧ a0.toInt ≤ 0 := iv_le_l t2 (iv_all _) (il_ 0) (by decide)
    refine lv_iconst (v := 0) hx hb dX12_isOneOf_17 (by decide) ?_
    rw [hQ]
    exact W.zret (v := 0) hx hb hr rfl (fun t ht hW => ⟨⟨0, (), rfl, Or.inr (rfl), trivial⟩, hS.F ht⟩) hS.2.2 dX12_isOneOf_18
  · --1 not
    have t4 : (0 : Int) < a0.toInt := ti_nle c1
    have i5 : 1 ≤ a0.toInt ∧ a0.toInt ≤ 2147483647 := iv_lt_r t4 (il_ 0) (iv_all _) (by decide)
    refine lv_aload_n hx hb dX12_isOneOf_4 rfl (lv_at hl 0 rfl) ?_
    refine lv_iload_n hx hb dX12_isOneOf_5 rfl (lv_at hl 1 rfl) ?_
    refine lv_i2c hx hb dX12_isOneOf_6 rfl ?_
    refine lv_topi (fun y6 ey6 => ?_)
    refine th_pi (va_runV (As := [.int y6]) (rest := []) ⟨hx, hb, hml, hown, hts⟩ (q_indexOf l qs vs bs y6 (by exact hh0) (by exact hh1)) (cwV 1 hts (gi_V (in_8 _ (List.mem_of_getElem? (i := 32) rfl)) (in_8 _ (List.mem_of_getElem? (i := 33) rfl)) (in_8 _ (List.mem_of_getElem? (i := 34) rfl)) (in_0 _ (List.mem_of_getElem? (i := 13) rfl)) (in_0 _ (List.mem_of_getElem? (i := 9) rfl))) rfl rfl rfl (by decide +kernel) ⟨Nat.le_of_ble_eq_true rfl, Nat.le_of_ble_eq_true rfl⟩) ⟨fun a U g mk q => ⟨q.1, SS_c q.2⟩, va_Orecv hSS.1 hS, fun U hU hW => ⟨rfl, SS_w hU hW hS (fun _ h => h) hSS⟩⟩ rfl rfl hl.1 rfl (lv_room (Nat.le_of_ble_eq_true rfl)) dX12_isOneOf_7 ⟨Nat.le_of_ble_eq_true rfl, Nat.le_of_ble_eq_true rfl⟩) hS (fun r7 H1 locs1 hw hk1 hS => ?_)
    generalize H1 = H at hS ⊢
    generalize locs1 = locs at hS ⊢
    obtain ⟨f8, f9⟩ := hw
    refine lv_if_lt (tgt := 17) hx hb dX12_isOneOf_10 (by decide) (fun c10 => ?_) (fun c10 => ?_)
    · --10 taken
      have t11 : r7.toInt < 0 := ti_lt c10
      have i12 : -1 ≤ r7.toInt ∧ r7.toInt ≤ -1 := iv_lt_l t11 f8 (il_ 0) (by decide)
      refine lv_iconst (v := 0) hx hb dX12_isOneOf_17 (by decide) ?_
      rw [hQ]
      exact W.zret (v := 0) hx hb hr rfl (fun t ht hW => ⟨⟨0, (), rfl, Or.inr (rfl), trivial⟩, hS.F ht⟩) hS.2.2 dX12_isOneOf_18
    · --10 not
      have t13 : (0 : Int) ≤ r7.toInt := ti_nlt c10
      have i14 : 0 ≤ r7.toInt ∧ r7.toInt ≤ 1000 := iv_le_r t13 (il_ 0) f8 (by decide)
      refine lv_iconst (v := 1) hx hb dX12_isOneOf_13 (by decide) ?_
      refine lv_goto (tgt := 18) hx hb dX12_isOneOf_14 (by decide) ?_
      rw [hQ]
      exact W.zret (v := 1) hx hb hr rfl (fun t ht hW => ⟨⟨1, (), rfl, Or.inl ⟨rfl, by have h8 := ln_1; all_goals omega⟩, trivial⟩, hS.F ht⟩) hS.2.2 dX12_isOneOf_18
def v_next : List Cond := .code yX10_next cX10_next 1 (some .int) :: vA
abbrev rm_next : Room := { frames := 0, cells := 0, slots := 0, locals := 0 }
def w_next : Nat → Nat → Bool := wl [] [(2, 2)]
set_option maxHeartbeats 4000000 in
set_option maxRecDepth 100000 in
theorem q_next (l : Launch) (dC : Nat → ClassId) (dI : Nat → Nat → Nat) (cT : Nat → ClassId) (cf : Nat → Nat) (hC : CF cf) (ad : Nat → Nat) (E : Nat → va_E) (sz : Nat)  (hI0 : IXL cT (shC cf) (spC cf) (LC cf) ad E)  : Met l yX10_next v_next rm_next (va_Pc [.ref (ad 2)] (HWL dC dI (TYC cT) cf ad E sz)) (va_Qi (S := Nat → va_E) (fun r u => IXL cT (shC cf) (spC cf) (LC cf) ad u ∧ Kp w_next E u ∧ ((-2 ≤ r.toInt ∧ r.toInt ≤ 255) ∧ ((0 ≤ r.toInt → (xi (u 2) 2).toInt < (xi (E 2) 1).toInt)))) (HBL dC dI (LC cf) ad) (va_A (WL (LC cf) ad E) sz)) 0 0 (va_A (WL (LC cf) ad E) sz) := by
  obtain ⟨⟨hc0, hc1, hc2, hc3, hc4, hc5⟩, hcr⟩ := id hC
  refine Met.ofW (cc := cX10_next) (maxL := 1) (ret := (some .int)) (by decide) rfl ?_
  intro p e s m args below meth c s₁ B hml hv
  obtain ⟨hargs, hsz, hP, hK, hD0, hEV⟩ := hv
  subst hsz
  have hx := B.exec
  have hb := B.bytes
  have hr := B.returns
  have hts := atoms_spec (ws := v_next) B.pre
  have hown : s.vm.findClass RX10 = some m.cls := findClass_of_methodNamed B.named
  have hlocks := B.notSynchronized
  have hinX10 : ∀ w ∈ u_ws RX10 TX10 10, w ∈ v_next := fun w h => vA_in _ w (in_X10 w h)
  generalize hAe : va_A (WL (LC cf) ad E) s.heap.size = A at hEV ⊢
  have hA : ∀ q : Nat, s.heap.size ≤ q → A q := fun q h => by rw [← hAe]; exact Or.inr h
  have hD : va_D A (WL (LC cf) ad E) := by rw [← hAe]; exact hD0.self
  have hS : va_S A s.heap s.heap [] := va_S.rf
  have hI := hI0
  have hKp : Kp w_next E E := Kp.rf
  have hl := lv_entry ([.ref (ad 2)]) (n := 1) (Nat.le_of_ble_eq_true rfl)
  obtain ⟨Q, hQ⟩ : ∃ Q, Q = MQ below (va_Qi (S := Nat → va_E) (fun r u => IXL cT (shC cf) (spC cf) (LC cf) ad u ∧ Kp w_next E u ∧ ((-2 ≤ r.toInt ∧ r.toInt ≤ 255) ∧ ((0 ≤ r.toInt → (xi (u 2) 2).toInt < (xi (E 2) 1).toInt)))) (HBL dC dI (LC cf) ad) (A)) args s 0 0 (A) := ⟨_, rfl⟩
  rw [← hQ, show entryFrame m args 1 = _ from (congrArg (fun z => entryFrame m z 1) hargs).trans (lg_entry_eq _ _ _)]
  generalize (lg_sl ([.ref (ad 2)]) ++ List.replicate (1 - (lg_sl ([.ref (ad 2)])).length) Slot.unset).toArray = ls at hl ⊢
  have hl : lv_has ls 1 [(0, .ref (ad 2))] := hl
  obtain ⟨y1, ey1⟩ : ∃ y, xi (E 2) 2 = y := ⟨_, rfl⟩
  have fy1 : xv (E 2) 2 = .int y1 := (hI.fi 2 (mF 2 rfl) rfl (Nat.le_of_ble_eq_true rfl) rfl).trans (congrArg Value.int ey1)
  have i2 : 0 ≤ y1.toInt ∧ y1.toInt ≤ 200 := by rw [← ey1]; exact hI.iv 2 (mF 2 rfl) rfl (Nat.le_of_ble_eq_true rfl) rfl
  refine lv_aload_n hx hb dX10_next_0 rfl (lv_at hl 0 rfl) ?_
  have i3 : -1 ≤ (xi (E 2) 3).toInt ∧ (xi (E 2) 3).toInt ≤ 200 := hI0.iv 2 (mF 2 rfl) rfl (Nat.le_of_ble_eq_true rfl) rfl
  refine th_getL (ci := 11) (C := RX10) (T := TX10) (N := 10) (v := .int (xi (E 2) 3)) hx hb hts hinX10 hown hK hP hI 2 (mF 2 rfl) rfl rfl 3 (Nat.le_of_ble_eq_true rfl) (hts _ (vA_in _ _ (in_8 _ (List.mem_of_getElem? (i := 8) rfl)))) (fun _ h9 => h9) (th_v0L hKp hI0 2 (mF 2 rfl) rfl (Nat.le_of_ble_eq_true rfl) rfl rfl) dX10_next_1 ?_
  refine lv_iconst (v := -1) hx hb dX10_next_4 (by decide) ?_
  refine lv_icmp_eq (tgt := 11) hx hb dX10_next_5 (by decide) (fun c4 => ?_) (fun c4 => ?_)
  · --5 taken
    have t5 : (xi (E 2) 3).toInt = -1 := ti_eq c4
    have i6 : -1 ≤ (xi (E 2) 3).toInt ∧ (xi (E 2) 3).toInt ≤ -1 := iv_eqi t5 i3 (il_ (-1)) (by decide)
    have hL11 : ∀ d : Nat, ∀ (w11_2_2 : Int32) (E11_ : Nat → va_E) (H : Heap) (locs : List Loc) (ls : Array Slot), 0 ≤ w11_2_2.toInt ∧ w11_2_2.toInt ≤ 200 → 200 - w11_2_2.toInt < (d : Int) → IXL cT (shC cf) (spC cf) (LC cf) ad E11_ → Kp w_next E E11_ → xv (E11_ 2) 2 = .int w11_2_2 → va_P (dC, dI) vwCl (WL (LC cf) ad E11_) H → va_S A s.heap H locs → lv_has ls 1 [(0, .ref (ad 2))] → W p l e (headSpec v_next rm_next).room s m args below meth c H locs 0 0 Q (F0 m 11 ls []) := by
      intro d
      induction d with
      | zero =>
        intro w11_2_2 E11_ H locs ls hw11_2_2 hx11_0 hI hKp hs11_2_2 hP hS hl
        exact absurd hx11_0 (by omega)
      | succ d ih11 =>
        intro w11_2_2 E11_ H locs ls hw11_2_2 hx11_0 hI hKp hs11_2_2 hP hS hl
        refine lv_aload_n hx hb dX10_next_11 rfl (lv_at hl 0 rfl) ?_
        refine th_getL (ci := 11) (C := RX10) (T := TX10) (N := 10) (v := .int w11_2_2) hx hb hts hinX10 hown hK hP hI 2 (mF 2 rfl) rfl rfl 2 (Nat.le_of_ble_eq_true rfl) (hts _ (vA_in _ _ (in_8 _ (List.mem_of_getElem? (i := 9) rfl)))) (fun _ h9 => h9) hs11_2_2 dX10_next_12 ?_
        refine lv_aload_n hx hb dX10_next_15 rfl (lv_at hl 0 rfl) ?_
        have i7 : 0 ≤ (xi (E 2) 1).toInt ∧ (xi (E 2) 1).toInt ≤ 200 := hI0.iv 2 (mF 2 rfl) rfl (Nat.le_of_ble_eq_true rfl) rfl
        refine th_getL (ci := 11) (C := RX10) (T := TX10) (N := 10) (v := .int (xi (E 2) 1)) hx hb hts hinX10 hown hK hP hI 2 (mF 2 rfl) rfl rfl 1 (Nat.le_of_ble_eq_true rfl) (hts _ (vA_in _ _ (in_8 _ (List.mem_of_getElem? (i := 20) rfl)))) (fun _ h9 => h9) (th_v0L hKp hI0 2 (mF 2 rfl) rfl (Nat.le_of_ble_eq_true rfl) rfl rfl) dX10_next_16 ?_
        have hJ49 : ∀ (H : Heap) (locs : List Loc) (ls : Array Slot), va_P (dC, dI) vwCl (WL (LC cf) ad E11_) H → va_S A s.heap H locs → lv_has ls 1 [(0, .ref (ad 2))] → W p l e (headSpec v_next rm_next).room s m args below meth c H locs 0 0 Q (F0 m 49 ls []) := by
          intro H locs ls hP hS hl
          refine lv_aload_n hx hb dX10_next_49 rfl (lv_at hl 0 rfl) ?_
          refine th_getL (ci := 11) (C := RX10) (T := TX10) (N := 10) (v := .int w11_2_2) hx hb hts hinX10 hown hK hP hI 2 (mF 2 rfl) rfl rfl 2 (Nat.le_of_ble_eq_true rfl) (hts _ (vA_in _ _ (in_8 _ (List.mem_of_getElem? (i := 9) rfl)))) (fun _ h9 => h9) hs11_2_2 dX10_next_50 ?_
          refine lv_aload_n hx hb dX10_next_53 rfl (lv_at hl 0 rfl) ?_
          refine th_getL (ci := 11) (C := RX10) (T := TX10) (N := 10) (v := .int (xi (E 2) 1)) hx hb hts hinX10 hown hK hP hI 2 (mF 2 rfl) rfl rfl 1 (Nat.le_of_ble_eq_true rfl) (hts _ (vA_in _ _ (in_8 _ (List.mem_of_getElem? (i := 20) rfl)))) (fun _ h9 => h9) (th_v0L hKp hI0 2 (mF 2 rfl) rfl (Nat.le_of_ble_eq_true rfl) rfl rfl) dX10_next_54 ?_
          refine lv_icmp_ge (tgt := 72) hx hb dX10_next_57 (by decide) (fun c8 => ?_) (fun c8 => ?_)
          · --57 taken
            have t9 : (xi (E 2) 1).toInt ≤ w11_2_2.toInt := ti_le c8
            refine lv_iconst (v := -1) hx hb dX10_next_72 (by decide) ?_
            rw [hQ]
            exact W.iret (v := (-1)) hx hb hr (fun t ht hW => ⟨⟨(-1), E11_, rfl, ⟨hI, hKp, ⟨(iv_w ln_m1 (by decide)), by have h8 := ln_m1; (try rw [(show xi (E11_ 2) 2 = w11_2_2 from vi_e hs11_2_2)]); (try rw [ey1]); all_goals omega⟩⟩, by show va_P (dC, dI) vwCl (WL (LC cf) ad E11_) t.heap; rw [ht]; exact hP⟩, hS.F ht⟩) hS.2.2 dX10_next_73
          · --57 not
            have t10 : w11_2_2.toInt < (xi (E 2) 1).toInt := ti_nle c8
            have i11 : 0 ≤ w11_2_2.toInt ∧ w11_2_2.toInt ≤ 199 := iv_lt_l t10 hw11_2_2 i7 (by decide)
            have i12 : 1 ≤ (xi (E 2) 1).toInt ∧ (xi (E 2) 1).toInt ≤ 200 := iv_lt_r t10 hw11_2_2 i7 (by decide)
            refine lv_aload_n hx hb dX10_next_60 rfl (lv_at hl 0 rfl) ?_
            refine th_getL (ci := 11) (C := RX10) (T := TX10) (N := 10) (v := .ref (ad 21)) hx hb hts hinX10 hown hK hP hI 2 (mF 2 rfl) rfl rfl 0 (Nat.le_of_ble_eq_true rfl) (hts _ (vA_in _ _ (in_8 _ (List.mem_of_getElem? (i := 17) rfl)))) (fun _ h9 => h9) (hI.fr 2 (mF 2 rfl) rfl (Nat.le_of_ble_eq_true rfl) 21 rfl) dX10_next_61 ?_
            refine lv_aload_n hx hb dX10_next_64 rfl (lv_at hl 0 rfl) ?_
            refine th_getL (ci := 11) (C := RX10) (T := TX10) (N := 10) (v := .int w11_2_2) hx hb hts hinX10 hown hK hP hI 2 (mF 2 rfl) rfl rfl 2 (Nat.le_of_ble_eq_true rfl) (hts _ (vA_in _ _ (in_8 _ (List.mem_of_getElem? (i := 9) rfl)))) (fun _ h9 => h9) hs11_2_2 dX10_next_65 ?_
            have n14 : vp_in w11_2_2 200 := (iv_in (n := 200) i11 (by decide))
            refine th_ialdL hx hb hK hP hI 21 (mF 21 rfl) rfl rfl n14 dX10_next_68 (fun y13 ey13 => ?_)
            have iy13 : 0 ≤ y13.toInt ∧ y13.toInt ≤ 255 := hI.el 21 (mF 21 rfl) rfl n14 (fun _ => rfl) ey13
            have ey13 := ey13.trans (hKp.ei 21 _ rfl)
            refine lv_goto (tgt := 73) hx hb dX10_next_69 (by decide) ?_
            rw [hQ]
            exact W.iret (v := y13) hx hb hr (fun t ht hW => ⟨⟨y13, E11_, rfl, ⟨hI, hKp, ⟨(iv_w iy13 (by decide)), by (try rw [(show xi (E11_ 2) 2 = w11_2_2 from vi_e hs11_2_2)]); (try rw [ey1]); all_goals omega⟩⟩, by show va_P (dC, dI) vwCl (WL (LC cf) ad E11_) t.heap; rw [ht]; exact hP⟩, hS.F ht⟩) hS.2.2 dX10_next_73
        refine lv_icmp_ge (tgt := 49) hx hb dX10_next_19 (by decide) (fun c15 => ?_) (fun c15 => ?_)
        · --19 taken
          have t16 : (xi (E 2) 1).toInt ≤ w11_2_2.toInt := ti_le c15
          exact hJ49 _ _ _ hP hS (lv_sub hl [0] rfl)
        · --19 not
          have t17 : w11_2_2.toInt < (xi (E 2) 1).toInt := ti_nle c15
          have i18 : 0 ≤ w11_2_2.toInt ∧ w11_2_2.toInt ≤ 199 := iv_lt_l t17 hw11_2_2 i7 (by decide)
          have i19 : 1 ≤ (xi (E 2) 1).toInt ∧ (xi (E 2) 1).toInt ≤ 200 := iv_lt_r t17 hw11_2_2 i7 (by decide)
          refine lv_aload_n hx hb dX10_next_22 rfl (lv_at hl 0 rfl) ?_
          refine th_getL (ci := 11) (C := RX10) (T := TX10) (N := 10) (v := .ref (ad 21)) hx hb hts hinX10 hown hK hP hI 2 (mF 2 rfl) rfl rfl 0 (Nat.le_of_ble_eq_true rfl) (hts _ (vA_in _ _ (in_8 _ (List.mem_of_getElem? (i := 17) rfl)))) (fun _ h9 => h9) (hI.fr 2 (mF 2 rfl) rfl (Nat.le_of_ble_eq_true rfl) 21 rfl) dX10_next_23 ?_
          refine lv_aload_n hx hb dX10_next_26 rfl (lv_at hl 0 rfl) ?_
          refine th_getL (ci := 11) (C := RX10) (T := TX10) (N := 10) (v := .int w11_2_2) hx hb hts hinX10 hown hK hP hI 2 (mF 2 rfl) rfl rfl 2 (Nat.le_of_ble_eq_true rfl) (hts _ (vA_in _ _ (in_8 _ (List.mem_of_getElem? (i := 9) rfl)))) (fun _ h9 => h9) hs11_2_2 dX10_next_27 ?_
          have n21 : vp_in w11_2_2 200 := (iv_in (n := 200) i18 (by decide))
          refine th_ialdL hx hb hK hP hI 21 (mF 21 rfl) rfl rfl n21 dX10_next_30 (fun y20 ey20 => ?_)
          have iy20 : 0 ≤ y20.toInt ∧ y20.toInt ≤ 255 := hI.el 21 (mF 21 rfl) rfl n21 (fun _ => rfl) ey20
          have ey20 := ey20.trans (hKp.ei 21 _ rfl)
          refine lv_bipush (v := 32) hx hb dX10_next_31 (by decide) ?_
          refine lv_icmp_ne (tgt := 49) hx hb dX10_next_33 (by decide) (fun c22 => ?_) (fun c22 => ?_)
          · --33 taken
            have t23 : ¬ y20.toInt = 32 := ti_ne c22
            exact hJ49 _ _ _ hP hS (lv_sub hl [0] rfl)
          · --33 not
            have t24 : y20.toInt = 32 := ti_eq c22
            have i25 : 32 ≤ y20.toInt ∧ y20.toInt ≤ 32 := iv_eqi t24 iy20 (il_ 32) (by decide)
            refine lv_aload_n hx hb dX10_next_36 rfl (lv_at hl 0 rfl) ?_
            refine lv_dup hx hb dX10_next_37 rfl ?_
            refine th_getL (ci := 11) (C := RX10) (T := TX10) (N := 10) (v := .int w11_2_2) hx hb hts hinX10 hown hK hP hI 2 (mF 2 rfl) rfl rfl 2 (Nat.le_of_ble_eq_true rfl) (hts _ (vA_in _ _ (in_8 _ (List.mem_of_getElem? (i := 9) rfl)))) (fun _ h9 => h9) hs11_2_2 dX10_next_38 ?_
            refine lv_iconst (v := 1) hx hb dX10_next_41 (by decide) ?_
            refine lv_iadd hx hb dX10_next_42 ?_
            refine lv_topi (fun y26 ey26 => ?_)
            obtain ⟨ty26, iy26⟩ := ti_add (e := 1) (f := 200) i18 ln_1 ey26 (by decide)
            have ty26 : y26.toInt = w11_2_2.toInt + 1 := ty26
            have iy26 : 1 ≤ y26.toInt ∧ y26.toInt ≤ 200 := iy26
            refine th_putL (ci := 11) (C := RX10) (T := TX10) (N := 10) (v := .int y26) (ty := .int) hx hb hts hinX10 tyX10 tyX10_ok nmX10 hown hK hP (WL_D hD) hS hI 2 (mF 2 rfl) rfl rfl 2 (Nat.le_of_ble_eq_true rfl) (hts _ (vA_in _ _ (in_8 _ (List.mem_of_getElem? (i := 9) rfl)))) (fun _ h9 => h9) rfl (by decide +kernel) rfl rfl (okI rfl (iv_w iy26 (by decide))) dX10_next_43 (fun H locs E27 pw28 hI hP hS => ?_)
            have hKp := hKp.pw pw28 rfl
            refine lv_goto (tgt := 11) hx hb dX10_next_46 (by decide) ?_
            exact ih11 y26 E27 _ _ _ (iv_w iy26 (by decide)) (by omega) hI hKp pw28.1 hP hS (lv_sub hl [0] rfl)
    exact hL11 (201) y1 E _ _ _ i2 (by have h9 := i2; omega) hI hKp fy1 hP hS (lv_sub hl [0] rfl)
  · --5 not
    have t29 : ¬ (xi (E 2) 3).toInt = -1 := ti_ne c4
    have i30 : 0 ≤ (xi (E 2) 3).toInt ∧ (xi (E 2) 3).toInt ≤ 200 := iv_ne_l t29 i3 (il_ (-1))
    refine lv_bipush (v := -2) hx hb dX10_next_8 (by decide) ?_
    rw [hQ]
    exact W.iret (v := (-2)) hx hb hr (fun t ht hW => ⟨⟨(-2), E, rfl, ⟨hI, hKp, ⟨(iv_w ln_m2 (by decide)), by have h8 := ln_m2; (try rw [(show xi (E 2) 2 = y1 from vi_e fy1)]); (try rw [ey1]); all_goals omega⟩⟩, by show va_P (dC, dI) vwCl (WL (LC cf) ad E) t.heap; rw [ht]; exact hP⟩, hS.F ht⟩) hS.2.2 dX10_next_10
def v_failT : List Cond := .code yX10_fail cX10_fail 1 none :: vA
abbrev rm_failT : Room := { frames := 0, cells := 0, slots := 0, locals := 0 }
def w_failT : Nat → Nat → Bool := wl [] [(2, 3)]
set_option maxHeartbeats 4000000 in
set_option maxRecDepth 100000 in
theorem q_failT (l : Launch) (dC : Nat → ClassId) (dI : Nat → Nat → Nat) (cT : Nat → ClassId) (cf : Nat → Nat) (hC : CF cf) (ad : Nat → Nat) (E : Nat → va_E) (sz : Nat)  (hI0 : IXL cT (shC cf) (spC cf) (LC cf) ad E)  : Met l yX10_fail v_failT rm_failT (va_Pc [.ref (ad 2)] (HWL dC dI (TYC cT) cf ad E sz)) (va_Qv (S := Nat → va_E) (fun u => IXL cT (shC cf) (spC cf) (LC cf) ad u ∧ Kp w_failT E u ∧ (True)) (HBL dC dI (LC cf) ad) (va_A (WL (LC cf) ad E) sz)) 0 0 (va_A (WL (LC cf) ad E) sz) := by
  obtain ⟨⟨hc0, hc1, hc2, hc3, hc4, hc5⟩, hcr⟩ := id hC
  refine Met.ofW (cc := cX10_fail) (maxL := 1) (ret := none) (by decide) rfl ?_
  intro p e s m args below meth c s₁ B hml hv
  obtain ⟨hargs, hsz, hP, hK, hD0, hEV⟩ := hv
  subst hsz
  have hx := B.exec
  have hb := B.bytes
  have hr := B.returns
  have hts := atoms_spec (ws := v_failT) B.pre
  have hown : s.vm.findClass RX10 = some m.cls := findClass_of_methodNamed B.named
  have hlocks := B.notSynchronized
  have hinX10 : ∀ w ∈ u_ws RX10 TX10 10, w ∈ v_failT := fun w h => vA_in _ w (in_X10 w h)
  generalize hAe : va_A (WL (LC cf) ad E) s.heap.size = A at hEV ⊢
  have hA : ∀ q : Nat, s.heap.size ≤ q → A q := fun q h => by rw [← hAe]; exact Or.inr h
  have hD : va_D A (WL (LC cf) ad E) := by rw [← hAe]; exact hD0.self
  have hS : va_S A s.heap s.heap [] := va_S.rf
  have hI := hI0
  have hKp : Kp w_failT E E := Kp.rf
  have hl := lv_entry ([.ref (ad 2)]) (n := 1) (Nat.le_of_ble_eq_true rfl)
  obtain ⟨Q, hQ⟩ : ∃ Q, Q = MQ below (va_Qv (S := Nat → va_E) (fun u => IXL cT (shC cf) (spC cf) (LC cf) ad u ∧ Kp w_failT E u ∧ (True)) (HBL dC dI (LC cf) ad) (A)) args s 0 0 (A) := ⟨_, rfl⟩
  rw [← hQ, show entryFrame m args 1 = _ from (congrArg (fun z => entryFrame m z 1) hargs).trans (lg_entry_eq _ _ _)]
  generalize (lg_sl ([.ref (ad 2)]) ++ List.replicate (1 - (lg_sl ([.ref (ad 2)])).length) Slot.unset).toArray = ls at hl ⊢
  have hl : lv_has ls 1 [(0, .ref (ad 2))] := hl
  refine lv_aload_n hx hb dX10_fail_0 rfl (lv_at hl 0 rfl) ?_
  obtain ⟨y1, ey1⟩ : ∃ y, xi (E 2) 3 = y := ⟨_, rfl⟩
  have fy1 : xv (E 2) 3 = .int y1 := (hI.fi 2 (mF 2 rfl) rfl (Nat.le_of_ble_eq_true rfl) rfl).trans (congrArg Value.int ey1)
  have i2 : -1 ≤ y1.toInt ∧ y1.toInt ≤ 200 := by rw [← ey1]; exact hI.iv 2 (mF 2 rfl) rfl (Nat.le_of_ble_eq_true rfl) rfl
  refine th_getL (ci := 11) (C := RX10) (T := TX10) (N := 10) (v := .int y1) hx hb hts hinX10 hown hK hP hI 2 (mF 2 rfl) rfl rfl 3 (Nat.le_of_ble_eq_true rfl) (hts _ (vA_in _ _ (in_8 _ (List.mem_of_getElem? (i := 8) rfl)))) (fun _ h9 => h9) fy1 dX10_fail_1 ?_
  refine lv_iconst (v := -1) hx hb dX10_fail_4 (by decide) ?_
  refine lv_icmp_ne (tgt := 16) hx hb dX10_fail_5 (by decide) (fun c3 => ?_) (fun c3 => ?_)
  · --5 taken
    have t4 : ¬ y1.toInt = -1 := ti_ne c3
    have i5 : 0 ≤ y1.toInt ∧ y1.toInt ≤ 200 := iv_ne_l t4 i2 (il_ (-1))
    rw [hQ]
    exact W.vret hx hb hr (fun t ht hW => ⟨⟨E, rfl, ⟨hI, hKp, trivial⟩, by show va_P (dC, dI) vwCl (WL (LC cf) ad E) t.heap; rw [ht]; exact hP⟩, hS.F ht⟩) hS.2.2 dX10_fail_16
  · --5 not
    have t6 : y1.toInt = -1 := ti_eq c3
    have i7 : -1 ≤ y1.toInt ∧ y1.toInt ≤ -1 := iv_eqi t6 i2 (il_ (-1)) (by decide)
    refine lv_aload_n hx hb dX10_fail_8 rfl (lv_at hl 0 rfl) ?_
    refine lv_aload_n hx hb dX10_fail_9 rfl (lv_at hl 0 rfl) ?_
    have i8 : 0 ≤ (xi (E 2) 2).toInt ∧ (xi (E 2) 2).toInt ≤ 200 := hI0.iv 2 (mF 2 rfl) rfl (Nat.le_of_ble_eq_true rfl) rfl
    refine th_getL (ci := 11) (C := RX10) (T := TX10) (N := 10) (v := .int (xi (E 2) 2)) hx hb hts hinX10 hown hK hP hI 2 (mF 2 rfl) rfl rfl 2 (Nat.le_of_ble_eq_true rfl) (hts _ (vA_in _ _ (in_8 _ (List.mem_of_getElem? (i := 9) rfl)))) (fun _ h9 => h9) (th_v0L hKp hI0 2 (mF 2 rfl) rfl (Nat.le_of_ble_eq_true rfl) rfl rfl) dX10_fail_10 ?_
    refine th_putL (ci := 11) (C := RX10) (T := TX10) (N := 10) (v := .int (xi (E 2) 2)) (ty := .int) hx hb hts hinX10 tyX10 tyX10_ok nmX10 hown hK hP (WL_D hD) hS hI 2 (mF 2 rfl) rfl rfl 3 (Nat.le_of_ble_eq_true rfl) (hts _ (vA_in _ _ (in_8 _ (List.mem_of_getElem? (i := 8) rfl)))) (fun _ h9 => h9) rfl (by decide +kernel) rfl rfl (okI rfl (iv_w i8 (by decide))) dX10_fail_13 (fun H locs E9 pw10 hI hP hS => ?_)
    have hKp := hKp.pw pw10 rfl
    rw [hQ]
    exact W.vret hx hb hr (fun t ht hW => ⟨⟨E9, rfl, ⟨hI, hKp, trivial⟩, by show va_P (dC, dI) vwCl (WL (LC cf) ad E9) t.heap; rw [ht]; exact hP⟩, hS.F ht⟩) hS.2.2 dX10_fail_16
def v_take : List Cond := .code yX10_take cX10_take 2 none :: vA
abbrev rm_take : Room := { frames := 1, cells := 0, slots := 0, locals := 40 }
def w_take : Nat → Nat → Bool := wl [] [(2, 2), (2, 3)]
set_option maxHeartbeats 4000000 in
set_option maxRecDepth 100000 in
theorem q_take (l : Launch) (dC : Nat → ClassId) (dI : Nat → Nat → Nat) (cT : Nat → ClassId) (cf : Nat → Nat) (hC : CF cf) (ad : Nat → Nat) (E : Nat → va_E) (sz : Nat) (a0 : Int32) (hI0 : IXL cT (shC cf) (spC cf) (LC cf) ad E) (hh0 : 0 ≤ a0.toInt ∧ a0.toInt ≤ 255) : Met l yX10_take v_take rm_take (va_Pc [.ref (ad 2), .int a0] (HWL dC dI (TYC cT) cf ad E sz)) (va_Qv (S := Nat → va_E) (fun u => IXL cT (shC cf) (spC cf) (LC cf) ad u ∧ Kp w_take E u ∧ (True)) (HBL dC dI (LC cf) ad) (va_A (WL (LC cf) ad E) sz)) 0 0 (va_A (WL (LC cf) ad E) sz) := by
  obtain ⟨⟨hc0, hc1, hc2, hc3, hc4, hc5⟩, hcr⟩ := id hC
  refine Met.ofW (cc := cX10_take) (maxL := 2) (ret := none) (by decide) rfl ?_
  intro p e s m args below meth c s₁ B hml hv
  obtain ⟨hargs, hsz, hP, hK, hD0, hEV⟩ := hv
  subst hsz
  have hx := B.exec
  have hb := B.bytes
  have hr := B.returns
  have hts := atoms_spec (ws := v_take) B.pre
  have hown : s.vm.findClass RX10 = some m.cls := findClass_of_methodNamed B.named
  have hlocks := B.notSynchronized
  have hinX10 : ∀ w ∈ u_ws RX10 TX10 10, w ∈ v_take := fun w h => vA_in _ w (in_X10 w h)
  generalize hAe : va_A (WL (LC cf) ad E) s.heap.size = A at hEV ⊢
  have hA : ∀ q : Nat, s.heap.size ≤ q → A q := fun q h => by rw [← hAe]; exact Or.inr h
  have hD : va_D A (WL (LC cf) ad E) := by rw [← hAe]; exact hD0.self
  have hS : va_S A s.heap s.heap [] := va_S.rf
  have hI := hI0
  have hKp : Kp w_take E E := Kp.rf
  have hl := lv_entry ([.ref (ad 2), .int a0]) (n := 2) (Nat.le_of_ble_eq_true rfl)
  obtain ⟨Q, hQ⟩ : ∃ Q, Q = MQ below (va_Qv (S := Nat → va_E) (fun u => IXL cT (shC cf) (spC cf) (LC cf) ad u ∧ Kp w_take E u ∧ (True)) (HBL dC dI (LC cf) ad) (A)) args s 0 0 (A) := ⟨_, rfl⟩
  rw [← hQ, show entryFrame m args 2 = _ from (congrArg (fun z => entryFrame m z 2) hargs).trans (lg_entry_eq _ _ _)]
  generalize (lg_sl ([.ref (ad 2), .int a0]) ++ List.replicate (2 - (lg_sl ([.ref (ad 2), .int a0])).length) Slot.unset).toArray = ls at hl ⊢
  have hl : lv_has ls 2 [(0, .ref (ad 2)), (1, .int a0)] := hl
  refine lv_aload_n hx hb dX10_take_0 rfl (lv_at hl 0 rfl) ?_
  refine th_iL (va_runV (As := []) (rest := []) ⟨hx, hb, hml, hown, hts⟩ (q_next l dC dI cT cf hC ad E s.heap.size hI) (cwV 0 hts (gi_V (in_8 _ (List.mem_of_getElem? (i := 27) rfl)) (in_8 _ (List.mem_of_getElem? (i := 28) rfl)) (in_8 _ (List.mem_of_getElem? (i := 29) rfl)) (in_8 _ (List.mem_of_getElem? (i := 14) rfl)) (in_8 _ (List.mem_of_getElem? (i := 19) rfl))) rfl rfl rfl (by decide +kernel) ⟨Nat.le_of_ble_eq_true rfl, Nat.le_of_ble_eq_true rfl⟩) ⟨HWL_bl, va_recv hK hP (ci := 11) (q0 := posL 2 (LC cf)) rfl (hI.ob 2 (mF 2 rfl) rfl), (HWL_wi hP hK (WL_D hD) hS hA hEV)⟩ rfl rfl hl.1 rfl (lv_room (Nat.le_of_ble_eq_true rfl)) dX10_take_1 ⟨Nat.le_of_ble_eq_true rfl, Nat.le_of_ble_eq_true rfl⟩) (WL_D hD) hS hA (fun r1 E2 H locs hw hP hS => ?_)
  obtain ⟨hI, kq3, hw⟩ := hw
  have hKb := hKp
  have hKp := hKp.tr kq3 (wl_sub rfl rfl)
  obtain ⟨y4, ey4⟩ : ∃ y, xi (E2 2) 2 = y := ⟨_, rfl⟩
  have fy4 : xv (E2 2) 2 = .int y4 := (hI.fi 2 (mF 2 rfl) rfl (Nat.le_of_ble_eq_true rfl) rfl).trans (congrArg Value.int ey4)
  have i5 : 0 ≤ y4.toInt ∧ y4.toInt ≤ 200 := by rw [← ey4]; exact hI.iv 2 (mF 2 rfl) rfl (Nat.le_of_ble_eq_true rfl) rfl
  obtain ⟨f6, f7⟩ := hw
  have i8 : 0 ≤ (xi (E 2) 1).toInt ∧ (xi (E 2) 1).toInt ≤ 200 := hI0.iv 2 (mF 2 rfl) rfl (Nat.le_of_ble_eq_true rfl) rfl
  try rw [(show xi (E2 2) 2 = y4 from vi_e fy4)] at f7
  refine lv_iload_n hx hb dX10_take_4 rfl (lv_at hl 1 rfl) ?_
  refine lv_icmp_ne (tgt := 21) hx hb dX10_take_5 (by decide) (fun c9 => ?_) (fun c9 => ?_)
  · --5 taken
    have t10 : ¬ r1.toInt = a0.toInt := ti_ne c9
    refine lv_aload_n hx hb dX10_take_21 rfl (lv_at hl 0 rfl) ?_
    refine th_vL (va_runV (As := []) (rest := []) ⟨hx, hb, hml, hown, hts⟩ (q_failT l dC dI cT cf hC ad E2 H.size hI) (cwV 0 hts (gi_V (in_8 _ (List.mem_of_getElem? (i := 11) rfl)) (in_8 _ (List.mem_of_getElem? (i := 12) rfl)) (in_8 _ (List.mem_of_getElem? (i := 13) rfl)) (in_8 _ (List.mem_of_getElem? (i := 14) rfl)) (in_8 _ (List.mem_of_getElem? (i := 7) rfl))) rfl rfl rfl (by decide +kernel) ⟨Nat.le_of_ble_eq_true rfl, Nat.le_of_ble_eq_true rfl⟩) ⟨HWL_bl, va_recv hK hP (ci := 11) (q0 := posL 2 (LC cf)) rfl (hI.ob 2 (mF 2 rfl) rfl), (HWL_wi hP hK (WL_D hD) hS hA hEV)⟩ rfl rfl hl.1 rfl (lv_room (Nat.le_of_ble_eq_true rfl)) dX10_take_22 ⟨Nat.le_of_ble_eq_true rfl, Nat.le_of_ble_eq_true rfl⟩) (WL_D hD) hS hA (fun E12 H locs hw hP hS => ?_)
    obtain ⟨hI, kq13, hw⟩ := hw
    have hKb := hKp
    have hKp := hKp.tr kq13 (wl_sub rfl rfl)
    rw [hQ]
    exact W.vret hx hb hr (fun t ht hW => ⟨⟨E12, rfl, ⟨hI, hKp, trivial⟩, by show va_P (dC, dI) vwCl (WL (LC cf) ad E12) t.heap; rw [ht]; exact hP⟩, hS.F ht⟩) hS.2.2 dX10_take_25
  · --5 not
    have t14 : r1.toInt = a0.toInt := ti_eq c9
    have i15 : 0 ≤ r1.toInt ∧ r1.toInt ≤ 255 := iv_eqi t14 f6 hh0 (by decide)
    refine lv_aload_n hx hb dX10_take_8 rfl (lv_at hl 0 rfl) ?_
    refine lv_dup hx hb dX10_take_9 rfl ?_
    refine th_getL (ci := 11) (C := RX10) (T := TX10) (N := 10) (v := .int y4) hx hb hts hinX10 hown hK hP hI 2 (mF 2 rfl) rfl rfl 2 (Nat.le_of_ble_eq_true rfl) (hts _ (vA_in _ _ (in_8 _ (List.mem_of_getElem? (i := 9) rfl)))) (fun _ h9 => h9) fy4 dX10_take_10 ?_
    refine lv_iconst (v := 1) hx hb dX10_take_13 (by decide) ?_
    refine lv_iadd hx hb dX10_take_14 ?_
    refine lv_topi (fun y16 ey16 => ?_)
    obtain ⟨ty16, iy16⟩ := ti_add (e := 1) (f := 201) i5 ln_1 ey16 (by decide)
    have ty16 : y16.toInt = y4.toInt + 1 := ty16
    have iy16 : 1 ≤ y16.toInt ∧ y16.toInt ≤ 201 := iy16
    have i17 : 1 ≤ y16.toInt ∧ y16.toInt ≤ 200 := by omega
    refine th_putL (ci := 11) (C := RX10) (T := TX10) (N := 10) (v := .int y16) (ty := .int) hx hb hts hinX10 tyX10 tyX10_ok nmX10 hown hK hP (WL_D hD) hS hI 2 (mF 2 rfl) rfl rfl 2 (Nat.le_of_ble_eq_true rfl) (hts _ (vA_in _ _ (in_8 _ (List.mem_of_getElem? (i := 9) rfl)))) (fun _ h9 => h9) rfl (by decide +kernel) rfl rfl (okI rfl (iv_w i17 (by decide))) dX10_take_15 (fun H locs E18 pw19 hI hP hS => ?_)
    have hKp := hKp.pw pw19 rfl
    refine lv_goto (tgt := 25) hx hb dX10_take_18 (by decide) ?_
    rw [hQ]
    exact W.vret hx hb hr (fun t ht hW => ⟨⟨E18, rfl, ⟨hI, hKp, trivial⟩, by show va_P (dC, dI) vwCl (WL (LC cf) ad E18) t.heap; rw [ht]; exact hP⟩, hS.F ht⟩) hS.2.2 dX10_take_25
def v_addT : List Cond := .code yX10_add cX10_add 2 none :: vA
abbrev rm_addT : Room := { frames := 0, cells := 0, slots := 0, locals := 0 }
def w_addT : Nat → Nat → Bool := wl [22] [(2, 5)]
set_option maxHeartbeats 4000000 in
set_option maxRecDepth 100000 in
theorem q_addT (l : Launch) (dC : Nat → ClassId) (dI : Nat → Nat → Nat) (cT : Nat → ClassId) (cf : Nat → Nat) (hC : CF cf) (ad : Nat → Nat) (E : Nat → va_E) (sz : Nat) (a0 : Int32) (hI0 : IXL cT (shC cf) (spC cf) (LC cf) ad E)  : Met l yX10_add v_addT rm_addT (va_Pc [.ref (ad 2), .int a0] (HWL dC dI (TYC cT) cf ad E sz)) (va_Qv (S := Nat → va_E) (fun u => IXL cT (shC cf) (spC cf) (LC cf) ad u ∧ Kp w_addT E u ∧ (((xi (E 2) 5).toInt ≤ (xi (u 2) 5).toInt))) (HBL dC dI (LC cf) ad) (va_A (WL (LC cf) ad E) sz)) 0 0 (va_A (WL (LC cf) ad E) sz) := by
  obtain ⟨⟨hc0, hc1, hc2, hc3, hc4, hc5⟩, hcr⟩ := id hC
  refine Met.ofW (cc := cX10_add) (maxL := 2) (ret := none) (by decide) rfl ?_
  intro p e s m args below meth c s₁ B hml hv
  obtain ⟨hargs, hsz, hP, hK, hD0, hEV⟩ := hv
  subst hsz
  have hx := B.exec
  have hb := B.bytes
  have hr := B.returns
  have hts := atoms_spec (ws := v_addT) B.pre
  have hown : s.vm.findClass RX10 = some m.cls := findClass_of_methodNamed B.named
  have hlocks := B.notSynchronized
  have hinX10 : ∀ w ∈ u_ws RX10 TX10 10, w ∈ v_addT := fun w h => vA_in _ w (in_X10 w h)
  generalize hAe : va_A (WL (LC cf) ad E) s.heap.size = A at hEV ⊢
  have hA : ∀ q : Nat, s.heap.size ≤ q → A q := fun q h => by rw [← hAe]; exact Or.inr h
  have hD : va_D A (WL (LC cf) ad E) := by rw [← hAe]; exact hD0.self
  have hS : va_S A s.heap s.heap [] := va_S.rf
  have hI := hI0
  have hKp : Kp w_addT E E := Kp.rf
  have hl := lv_entry ([.ref (ad 2), .int a0]) (n := 2) (Nat.le_of_ble_eq_true rfl)
  obtain ⟨Q, hQ⟩ : ∃ Q, Q = MQ below (va_Qv (S := Nat → va_E) (fun u => IXL cT (shC cf) (spC cf) (LC cf) ad u ∧ Kp w_addT E u ∧ (((xi (E 2) 5).toInt ≤ (xi (u 2) 5).toInt))) (HBL dC dI (LC cf) ad) (A)) args s 0 0 (A) := ⟨_, rfl⟩
  rw [← hQ, show entryFrame m args 2 = _ from (congrArg (fun z => entryFrame m z 2) hargs).trans (lg_entry_eq _ _ _)]
  generalize (lg_sl ([.ref (ad 2), .int a0]) ++ List.replicate (2 - (lg_sl ([.ref (ad 2), .int a0])).length) Slot.unset).toArray = ls at hl ⊢
  have hl : lv_has ls 2 [(0, .ref (ad 2)), (1, .int a0)] := hl
  obtain ⟨y1, ey1⟩ : ∃ y, xi (E 2) 5 = y := ⟨_, rfl⟩
  have fy1 : xv (E 2) 5 = .int y1 := (hI.fi 2 (mF 2 rfl) rfl (Nat.le_of_ble_eq_true rfl) rfl).trans (congrArg Value.int ey1)
  have i2 : 0 ≤ y1.toInt ∧ y1.toInt ≤ 200 := by rw [← ey1]; exact hI.iv 2 (mF 2 rfl) rfl (Nat.le_of_ble_eq_true rfl) rfl
  refine lv_aload_n hx hb dX10_add_0 rfl (lv_at hl 0 rfl) ?_
  refine th_getL (ci := 11) (C := RX10) (T := TX10) (N := 10) (v := .int y1) hx hb hts hinX10 hown hK hP hI 2 (mF 2 rfl) rfl rfl 5 (Nat.le_of_ble_eq_true rfl) (hts _ (vA_in _ _ (in_7 _ (List.mem_of_getElem? (i := 30) rfl)))) (fun _ h9 => h9) fy1 dX10_add_1 ?_
  refine lv_aload_n hx hb dX10_add_4 rfl (lv_at hl 0 rfl) ?_
  refine th_getL (ci := 11) (C := RX10) (T := TX10) (N := 10) (v := .ref (ad 22)) hx hb hts hinX10 hown hK hP hI 2 (mF 2 rfl) rfl rfl 4 (Nat.le_of_ble_eq_true rfl) (hts _ (vA_in _ _ (in_7 _ (List.mem_of_getElem? (i := 31) rfl)))) (fun _ h9 => h9) (hI.fr 2 (mF 2 rfl) rfl (Nat.le_of_ble_eq_true rfl) 22 rfl) dX10_add_5 ?_
  refine va_alen (v := 200) hx hb hK hP (posL 22 (LC cf)) 0 (hI.ar 22 (mF 22 rfl) rfl) rfl rfl dX10_add_8 ?_
  refine lv_icmp_ge (tgt := 32) hx hb dX10_add_9 (by decide) (fun c3 => ?_) (fun c3 => ?_)
  · --9 taken
    have t4 : (200 : Int) ≤ y1.toInt := ti_le c3
    have i5 : 200 ≤ y1.toInt ∧ y1.toInt ≤ 200 := iv_le_r t4 (il_ 200) i2 (by decide)
    rw [hQ]
    exact W.vret hx hb hr (fun t ht hW => ⟨⟨E, rfl, ⟨hI, hKp, (by (try rw [(show xi (E 2) 5 = y1 from vi_e fy1)]); (try rw [ey1]); all_goals omega)⟩, by show va_P (dC, dI) vwCl (WL (LC cf) ad E) t.heap; rw [ht]; exact hP⟩, hS.F ht⟩) hS.2.2 dX10_add_32
  · --9 not
    have t6 : y1.toInt < 200 := ti_nle c3
    have i7 : 0 ≤ y1.toInt ∧ y1.toInt ≤ 199 := iv_lt_l t6 i2 (il_ 200) (by decide)
    refine lv_aload_n hx hb dX10_add_12 rfl (lv_at hl 0 rfl) ?_
    refine th_getL (ci := 11) (C := RX10) (T := TX10) (N := 10) (v := .ref (ad 22)) hx hb hts hinX10 hown hK hP hI 2 (mF 2 rfl) rfl rfl 4 (Nat.le_of_ble_eq_true rfl) (hts _ (vA_in _ _ (in_7 _ (List.mem_of_getElem? (i := 31) rfl)))) (fun _ h9 => h9) (hI.fr 2 (mF 2 rfl) rfl (Nat.le_of_ble_eq_true rfl) 22 rfl) dX10_add_13 ?_
    refine lv_aload_n hx hb dX10_add_16 rfl (lv_at hl 0 rfl) ?_
    refine th_getL (ci := 11) (C := RX10) (T := TX10) (N := 10) (v := .int y1) hx hb hts hinX10 hown hK hP hI 2 (mF 2 rfl) rfl rfl 5 (Nat.le_of_ble_eq_true rfl) (hts _ (vA_in _ _ (in_7 _ (List.mem_of_getElem? (i := 30) rfl)))) (fun _ h9 => h9) fy1 dX10_add_17 ?_
    refine lv_iload_n hx hb dX10_add_20 rfl (lv_at hl 1 rfl) ?_
    have n8 : vp_in y1 200 := (iv_in (n := 200) i7 (by decide))
    refine th_iastL hx hb hK hP (WL_D hD) hS hI 22 (mF 22 rfl) rfl rfl n8 (okI rfl (iv_all _)) dX10_add_21 (fun H locs E9 pw10 hI hP hS => ?_)
    have hKp := hKp.pw pw10 rfl
    refine lv_aload_n hx hb dX10_add_22 rfl (lv_at hl 0 rfl) ?_
    refine lv_dup hx hb dX10_add_23 rfl ?_
    refine th_getL (ci := 11) (C := RX10) (T := TX10) (N := 10) (v := .int y1) hx hb hts hinX10 hown hK hP hI 2 (mF 2 rfl) rfl rfl 5 (Nat.le_of_ble_eq_true rfl) (hts _ (vA_in _ _ (in_7 _ (List.mem_of_getElem? (i := 30) rfl)))) (fun _ h9 => h9) ((pw10.2 2 5 (fun q9 => absurd q9.1 (Nat.ne_of_beq_eq_false rfl))).trans fy1) dX10_add_24 ?_
    refine lv_iconst (v := 1) hx hb dX10_add_27 (by decide) ?_
    refine lv_iadd hx hb dX10_add_28 ?_
    refine lv_topi (fun y11 ey11 => ?_)
    obtain ⟨ty11, iy11⟩ := ti_add (e := 1) (f := 200) i7 ln_1 ey11 (by decide)
    have ty11 : y11.toInt = y1.toInt + 1 := ty11
    have iy11 : 1 ≤ y11.toInt ∧ y11.toInt ≤ 200 := iy11
    refine th_putL (ci := 11) (C := RX10) (T := TX10) (N := 10) (v := .int y11) (ty := .int) hx hb hts hinX10 tyX10 tyX10_ok nmX10 hown hK hP (WL_D hD) hS hI 2 (mF 2 rfl) rfl rfl 5 (Nat.le_of_ble_eq_true rfl) (hts _ (vA_in _ _ (in_7 _ (List.mem_of_getElem? (i := 30) rfl)))) (fun _ h9 => h9) rfl (by decide +kernel) rfl rfl (okI rfl (iv_w iy11 (by decide))) dX10_add_29 (fun H locs E12 pw13 hI hP hS => ?_)
    have hKp := hKp.pw pw13 rfl
    rw [hQ]
    exact W.vret hx hb hr (fun t ht hW => ⟨⟨E12, rfl, ⟨hI, hKp, (by (try rw [(show xi (E12 2) 5 = y11 from vi_e pw13.1)]); (try rw [ey1]); all_goals omega)⟩, by show va_P (dC, dI) vwCl (WL (LC cf) ad E12) t.heap; rw [ht]; exact hP⟩, hS.F ht⟩) hS.2.2 dX10_add_32
def v_putT : List Cond := .code yX10_put cX10_put 4 none :: vA
abbrev rm_putT : Room := { frames := 0, cells := 0, slots := 0, locals := 0 }
def w_putT : Nat → Nat → Bool := wl [21] [(2, 1)]
set_option maxHeartbeats 4000000 in
set_option maxRecDepth 100000 in
theorem q_putT (l : Launch) (dC : Nat → ClassId) (dI : Nat → Nat → Nat) (cT : Nat → ClassId) (cf : Nat → Nat) (hC : CF cf) (ad : Nat → Nat) (E : Nat → va_E) (sz : Nat) (a0 : Int32) (hI0 : IXL cT (shC cf) (spC cf) (LC cf) ad E)  : Met l yX10_put v_putT rm_putT (va_Pc [.ref (ad 2), .int a0] (HWL dC dI (TYC cT) cf ad E sz)) (va_Qv (S := Nat → va_E) (fun u => IXL cT (shC cf) (spC cf) (LC cf) ad u ∧ Kp w_putT E u ∧ (True)) (HBL dC dI (LC cf) ad) (va_A (WL (LC cf) ad E) sz)) 0 0 (va_A (WL (LC cf) ad E) sz) := by
  obtain ⟨⟨hc0, hc1, hc2, hc3, hc4, hc5⟩, hcr⟩ := id hC
  refine Met.ofW (cc := cX10_put) (maxL := 4) (ret := none) (by decide) rfl ?_
  intro p e s m args below meth c s₁ B hml hv
  obtain ⟨hargs, hsz, hP, hK, hD0, hEV⟩ := hv
  subst hsz
  have hx := B.exec
  have hb := B.bytes
  have hr := B.returns
  have hts := atoms_spec (ws := v_putT) B.pre
  have hown : s.vm.findClass RX10 = some m.cls := findClass_of_methodNamed B.named
  have hlocks := B.notSynchronized
  have hinX10 : ∀ w ∈ u_ws RX10 TX10 10, w ∈ v_putT := fun w h => vA_in _ w (in_X10 w h)
  generalize hAe : va_A (WL (LC cf) ad E) s.heap.size = A at hEV ⊢
  have hA : ∀ q : Nat, s.heap.size ≤ q → A q := fun q h => by rw [← hAe]; exact Or.inr h
  have hD : va_D A (WL (LC cf) ad E) := by rw [← hAe]; exact hD0.self
  have hS : va_S A s.heap s.heap [] := va_S.rf
  have hI := hI0
  have hKp : Kp w_putT E E := Kp.rf
  have hl := lv_entry ([.ref (ad 2), .int a0]) (n := 4) (Nat.le_of_ble_eq_true rfl)
  obtain ⟨Q, hQ⟩ : ∃ Q, Q = MQ below (va_Qv (S := Nat → va_E) (fun u => IXL cT (shC cf) (spC cf) (LC cf) ad u ∧ Kp w_putT E u ∧ (True)) (HBL dC dI (LC cf) ad) (A)) args s 0 0 (A) := ⟨_, rfl⟩
  rw [← hQ, show entryFrame m args 4 = _ from (congrArg (fun z => entryFrame m z 4) hargs).trans (lg_entry_eq _ _ _)]
  generalize (lg_sl ([.ref (ad 2), .int a0]) ++ List.replicate (4 - (lg_sl ([.ref (ad 2), .int a0])).length) Slot.unset).toArray = ls at hl ⊢
  have hl : lv_has ls 4 [(0, .ref (ad 2)), (1, .int a0)] := hl
  refine lv_bipush (v := 24) hx hb dX10_put_0 (by decide) ?_
  refine lv_istore_n (lv' := [(2, .int 24), (0, .ref (ad 2)), (1, .int a0)]) hx hb dX10_put_2 rfl hl (by decide) rfl (fun ls hl => ?_)
  refine lv_iload_n hx hb dX10_put_3 rfl (lv_at hl 0 rfl) ?_
  refine lv_if_lt (tgt := 57) hx hb dX10_put_4 (by decide) (fun c1 => ?_) (fun c1 => ?_)
  · --4 taken
    exact absurd c1 (by decide)
  · --4 not
    refine lv_iload_n hx hb dX10_put_7 rfl (lv_at hl 2 rfl) ?_
    refine lv_iload_n hx hb dX10_put_8 rfl (lv_at hl 0 rfl) ?_
    refine lv_iushr hx hb dX10_put_9 rfl ?_
    refine lv_topi (fun y2 ey2 => ?_)
    refine lv_sipush (v := 255) hx hb dX10_put_10 (by decide) ?_
    refine lv_iand hx hb dX10_put_13 ?_
    refine lv_topi (fun y3 ey3 => ?_)
    have iy3 : 0 ≤ y3.toInt ∧ y3.toInt ≤ 255 := ti_and (by decide) ey3
    refine lv_istore_n (lv' := [(3, .int y3), (2, .int 24), (0, .ref (ad 2)), (1, .int a0)]) hx hb dX10_put_14 rfl hl (by decide) rfl (fun ls hl => ?_)
    refine lv_iload_n hx hb dX10_put_15 rfl (lv_at hl 0 rfl) ?_
    refine lv_if_eq (tgt := 51) hx hb dX10_put_16 (by decide) (fun c4 => ?_) (fun c4 => ?_)
    · --16 taken
      have t5 : y3.toInt = 0 := ti_eq c4
      have i6 : 0 ≤ y3.toInt ∧ y3.toInt ≤ 0 := iv_eqi t5 iy3 (il_ 0) (by decide)
      refine lv_iinc (v := 16) (lv' := [(2, .int 16), (3, .int y3), (0, .ref (ad 2)), (1, .int a0)]) hx hb dX10_put_51 hl (k := 1) rfl (by decide) (by decide) rfl (fun ls hl => ?_)
      refine lv_goto (tgt := 3) hx hb dX10_put_54 (by decide) ?_
      refine lv_iload_n hx hb dX10_put_3 rfl (lv_at hl 0 rfl) ?_
      refine lv_if_lt (tgt := 57) hx hb dX10_put_4 (by decide) (fun c7 => ?_) (fun c7 => ?_)
      · --4 taken
        exact absurd c7 (by decide)
      · --4 not
        refine lv_iload_n hx hb dX10_put_7 rfl (lv_at hl 3 rfl) ?_
        refine lv_iload_n hx hb dX10_put_8 rfl (lv_at hl 0 rfl) ?_
        refine lv_iushr hx hb dX10_put_9 rfl ?_
        refine lv_topi (fun y8 ey8 => ?_)
        refine lv_sipush (v := 255) hx hb dX10_put_10 (by decide) ?_
        refine lv_iand hx hb dX10_put_13 ?_
        refine lv_topi (fun y9 ey9 => ?_)
        have iy9 : 0 ≤ y9.toInt ∧ y9.toInt ≤ 255 := ti_and (by decide) ey9
        refine lv_istore_n (lv' := [(3, .int y9), (2, .int 16), (0, .ref (ad 2)), (1, .int a0)]) hx hb dX10_put_14 rfl hl (by decide) rfl (fun ls hl => ?_)
        refine lv_iload_n hx hb dX10_put_15 rfl (lv_at hl 0 rfl) ?_
        refine lv_if_eq (tgt := 51) hx hb dX10_put_16 (by decide) (fun c10 => ?_) (fun c10 => ?_)
        · --16 taken
          have t11 : y9.toInt = 0 := ti_eq c10
          have i12 : 0 ≤ y9.toInt ∧ y9.toInt ≤ 0 := iv_eqi t11 iy9 (il_ 0) (by decide)
          refine lv_iinc (v := 8) (lv' := [(2, .int 8), (3, .int y9), (0, .ref (ad 2)), (1, .int a0)]) hx hb dX10_put_51 hl (k := 1) rfl (by decide) (by decide) rfl (fun ls hl => ?_)
          refine lv_goto (tgt := 3) hx hb dX10_put_54 (by decide) ?_
          refine lv_iload_n hx hb dX10_put_3 rfl (lv_at hl 0 rfl) ?_
          refine lv_if_lt (tgt := 57) hx hb dX10_put_4 (by decide) (fun c13 => ?_) (fun c13 => ?_)
          · --4 taken
            exact absurd c13 (by decide)
          · --4 not
            refine lv_iload_n hx hb dX10_put_7 rfl (lv_at hl 3 rfl) ?_
            refine lv_iload_n hx hb dX10_put_8 rfl (lv_at hl 0 rfl) ?_
            refine lv_iushr hx hb dX10_put_9 rfl ?_
            refine lv_topi (fun y14 ey14 => ?_)
            refine lv_sipush (v := 255) hx hb dX10_put_10 (by decide) ?_
            refine lv_iand hx hb dX10_put_13 ?_
            refine lv_topi (fun y15 ey15 => ?_)
            have iy15 : 0 ≤ y15.toInt ∧ y15.toInt ≤ 255 := ti_and (by decide) ey15
            refine lv_istore_n (lv' := [(3, .int y15), (2, .int 8), (0, .ref (ad 2)), (1, .int a0)]) hx hb dX10_put_14 rfl hl (by decide) rfl (fun ls hl => ?_)
            refine lv_iload_n hx hb dX10_put_15 rfl (lv_at hl 0 rfl) ?_
            refine lv_if_eq (tgt := 51) hx hb dX10_put_16 (by decide) (fun c16 => ?_) (fun c16 => ?_)
            · --16 taken
              have t17 : y15.toInt = 0 := ti_eq c16
              have i18 : 0 ≤ y15.toInt ∧ y15.toInt ≤ 0 := iv_eqi t17 iy15 (il_ 0) (by decide)
              refine lv_iinc (v := 0) (lv' := [(2, .int 0), (3, .int y15), (0, .ref (ad 2)), (1, .int a0)]) hx hb dX10_put_51 hl (k := 1) rfl (by decide) (by decide) rfl (fun ls hl => ?_)
              refine lv_goto (tgt := 3) hx hb dX10_put_54 (by decide) ?_
              refine lv_iload_n hx hb dX10_put_3 rfl (lv_at hl 0 rfl) ?_
              refine lv_if_lt (tgt := 57) hx hb dX10_put_4 (by decide) (fun c19 => ?_) (fun c19 => ?_)
              · --4 taken
                exact absurd c19 (by decide)
              · --4 not
                refine lv_iload_n hx hb dX10_put_7 rfl (lv_at hl 3 rfl) ?_
                refine lv_iload_n hx hb dX10_put_8 rfl (lv_at hl 0 rfl) ?_
                refine lv_iushr hx hb dX10_put_9 rfl ?_
                refine lv_topi (fun y20 ey20 => ?_)
                refine lv_sipush (v := 255) hx hb dX10_put_10 (by decide) ?_
                refine lv_iand hx hb dX10_put_13 ?_
                refine lv_topi (fun y21 ey21 => ?_)
                have iy21 : 0 ≤ y21.toInt ∧ y21.toInt ≤ 255 := ti_and (by decide) ey21
                refine lv_istore_n (lv' := [(3, .int y21), (2, .int 0), (0, .ref (ad 2)), (1, .int a0)]) hx hb dX10_put_14 rfl hl (by decide) rfl (fun ls hl => ?_)
                refine lv_iload_n hx hb dX10_put_15 rfl (lv_at hl 0 rfl) ?_
                refine lv_if_eq (tgt := 51) hx hb dX10_put_16 (by decide) (fun c22 => ?_) (fun c22 => ?_)
                · --16 taken
                  have t23 : y21.toInt = 0 := ti_eq c22
                  have i24 : 0 ≤ y21.toInt ∧ y21.toInt ≤ 0 := iv_eqi t23 iy21 (il_ 0) (by decide)
                  refine lv_iinc (v := -8) (lv' := [(2, .int (-8)), (3, .int y21), (0, .ref (ad 2)), (1, .int a0)]) hx hb dX10_put_51 hl (k := 1) rfl (by decide) (by decide) rfl (fun ls hl => ?_)
                  refine lv_goto (tgt := 3) hx hb dX10_put_54 (by decide) ?_
                  refine lv_iload_n hx hb dX10_put_3 rfl (lv_at hl 0 rfl) ?_
                  refine lv_if_lt (tgt := 57) hx hb dX10_put_4 (by decide) (fun c25 => ?_) (fun c25 => ?_)
                  · --4 taken
                    rw [hQ]
                    exact W.vret hx hb hr (fun t ht hW => ⟨⟨E, rfl, ⟨hI, hKp, trivial⟩, by show va_P (dC, dI) vwCl (WL (LC cf) ad E) t.heap; rw [ht]; exact hP⟩, hS.F ht⟩) hS.2.2 dX10_put_57
                  · --4 not
                    exact absurd c25 (by decide)
                · --16 not
                  have t26 : ¬ y21.toInt = 0 := ti_ne c22
                  have i27 : 1 ≤ y21.toInt ∧ y21.toInt ≤ 255 := iv_ne_l t26 iy21 (il_ 0)
                  refine lv_aload_n hx hb dX10_put_19 rfl (lv_at hl 2 rfl) ?_
                  obtain ⟨y28, ey28⟩ : ∃ y, xi (E 2) 1 = y := ⟨_, rfl⟩
                  have fy28 : xv (E 2) 1 = .int y28 := (hI.fi 2 (mF 2 rfl) rfl (Nat.le_of_ble_eq_true rfl) rfl).trans (congrArg Value.int ey28)
                  have i29 : 0 ≤ y28.toInt ∧ y28.toInt ≤ 200 := by rw [← ey28]; exact hI.iv 2 (mF 2 rfl) rfl (Nat.le_of_ble_eq_true rfl) rfl
                  refine th_getL (ci := 11) (C := RX10) (T := TX10) (N := 10) (v := .int y28) hx hb hts hinX10 hown hK hP hI 2 (mF 2 rfl) rfl rfl 1 (Nat.le_of_ble_eq_true rfl) (hts _ (vA_in _ _ (in_8 _ (List.mem_of_getElem? (i := 20) rfl)))) (fun _ h9 => h9) fy28 dX10_put_20 ?_
                  refine lv_aload_n hx hb dX10_put_23 rfl (lv_at hl 2 rfl) ?_
                  refine th_getL (ci := 11) (C := RX10) (T := TX10) (N := 10) (v := .ref (ad 21)) hx hb hts hinX10 hown hK hP hI 2 (mF 2 rfl) rfl rfl 0 (Nat.le_of_ble_eq_true rfl) (hts _ (vA_in _ _ (in_8 _ (List.mem_of_getElem? (i := 17) rfl)))) (fun _ h9 => h9) (hI.fr 2 (mF 2 rfl) rfl (Nat.le_of_ble_eq_true rfl) 21 rfl) dX10_put_24 ?_
                  refine va_alen (v := 200) hx hb hK hP (posL 21 (LC cf)) 0 (hI.ar 21 (mF 21 rfl) rfl) rfl rfl dX10_put_27 ?_
                  refine lv_icmp_ge (tgt := 51) hx hb dX10_put_28 (by decide) (fun c30 => ?_) (fun c30 => ?_)
                  · --28 taken
                    have t31 : (200 : Int) ≤ y28.toInt := ti_le c30
                    have i32 : 200 ≤ y28.toInt ∧ y28.toInt ≤ 200 := iv_le_r t31 (il_ 200) i29 (by decide)
                    refine lv_iinc (v := -8) (lv' := [(2, .int (-8)), (3, .int y21), (0, .ref (ad 2)), (1, .int a0)]) hx hb dX10_put_51 hl (k := 1) rfl (by decide) (by decide) rfl (fun ls hl => ?_)
                    refine lv_goto (tgt := 3) hx hb dX10_put_54 (by decide) ?_
                    refine lv_iload_n hx hb dX10_put_3 rfl (lv_at hl 0 rfl) ?_
                    refine lv_if_lt (tgt := 57) hx hb dX10_put_4 (by decide) (fun c33 => ?_) (fun c33 => ?_)
                    · --4 taken
                      rw [hQ]
                      exact W.vret hx hb hr (fun t ht hW => ⟨⟨E, rfl, ⟨hI, hKp, trivial⟩, by show va_P (dC, dI) vwCl (WL (LC cf) ad E) t.heap; rw [ht]; exact hP⟩, hS.F ht⟩) hS.2.2 dX10_put_57
                    · --4 not
                      exact absurd c33 (by decide)
                  · --28 not
                    have t34 : y28.toInt < 200 := ti_nle c30
                    have i35 : 0 ≤ y28.toInt ∧ y28.toInt ≤ 199 := iv_lt_l t34 i29 (il_ 200) (by decide)
                    refine lv_aload_n hx hb dX10_put_31 rfl (lv_at hl 2 rfl) ?_
                    refine th_getL (ci := 11) (C := RX10) (T := TX10) (N := 10) (v := .ref (ad 21)) hx hb hts hinX10 hown hK hP hI 2 (mF 2 rfl) rfl rfl 0 (Nat.le_of_ble_eq_true rfl) (hts _ (vA_in _ _ (in_8 _ (List.mem_of_getElem? (i := 17) rfl)))) (fun _ h9 => h9) (hI.fr 2 (mF 2 rfl) rfl (Nat.le_of_ble_eq_true rfl) 21 rfl) dX10_put_32 ?_
                    refine lv_aload_n hx hb dX10_put_35 rfl (lv_at hl 2 rfl) ?_
                    refine th_getL (ci := 11) (C := RX10) (T := TX10) (N := 10) (v := .int y28) hx hb hts hinX10 hown hK hP hI 2 (mF 2 rfl) rfl rfl 1 (Nat.le_of_ble_eq_true rfl) (hts _ (vA_in _ _ (in_8 _ (List.mem_of_getElem? (i := 20) rfl)))) (fun _ h9 => h9) fy28 dX10_put_36 ?_
                    refine lv_iload_n hx hb dX10_put_39 rfl (lv_at hl 0 rfl) ?_
                    have n36 : vp_in y28 200 := (iv_in (n := 200) i35 (by decide))
                    refine th_iastL hx hb hK hP (WL_D hD) hS hI 21 (mF 21 rfl) rfl rfl n36 (okI rfl (iv_w i27 (by decide))) dX10_put_40 (fun H locs E37 pw38 hI hP hS => ?_)
                    have hKp := hKp.pw pw38 rfl
                    refine lv_aload_n hx hb dX10_put_41 rfl (lv_at hl 2 rfl) ?_
                    refine lv_dup hx hb dX10_put_42 rfl ?_
                    refine th_getL (ci := 11) (C := RX10) (T := TX10) (N := 10) (v := .int y28) hx hb hts hinX10 hown hK hP hI 2 (mF 2 rfl) rfl rfl 1 (Nat.le_of_ble_eq_true rfl) (hts _ (vA_in _ _ (in_8 _ (List.mem_of_getElem? (i := 20) rfl)))) (fun _ h9 => h9) ((pw38.2 2 1 (fun q9 => absurd q9.1 (Nat.ne_of_beq_eq_false rfl))).trans fy28) dX10_put_43 ?_
                    refine lv_iconst (v := 1) hx hb dX10_put_46 (by decide) ?_
                    refine lv_iadd hx hb dX10_put_47 ?_
                    refine lv_topi (fun y39 ey39 => ?_)
                    obtain ⟨ty39, iy39⟩ := ti_add (e := 1) (f := 200) i35 ln_1 ey39 (by decide)
                    have ty39 : y39.toInt = y28.toInt + 1 := ty39
                    have iy39 : 1 ≤ y39.toInt ∧ y39.toInt ≤ 200 := iy39
                    refine th_putL (ci := 11) (C := RX10) (T := TX10) (N := 10) (v := .int y39) (ty := .int) hx hb hts hinX10 tyX10 tyX10_ok nmX10 hown hK hP (WL_D hD) hS hI 2 (mF 2 rfl) rfl rfl 1 (Nat.le_of_ble_eq_true rfl) (hts _ (vA_in _ _ (in_8 _ (List.mem_of_getElem? (i := 20) rfl)))) (fun _ h9 => h9) rfl (by decide +kernel) rfl rfl (okI rfl (iv_w iy39 (by decide))) dX10_put_48 (fun H locs E40 pw41 hI hP hS => ?_)
                    have hKp := hKp.pw pw41 rfl
                    refine lv_iinc (v := -8) (lv' := [(2, .int (-8)), (3, .int y21), (0, .ref (ad 2)), (1, .int a0)]) hx hb dX10_put_51 hl (k := 1) rfl (by decide) (by decide) rfl (fun ls hl => ?_)
                    refine lv_goto (tgt := 3) hx hb dX10_put_54 (by decide) ?_
                    refine lv_iload_n hx hb dX10_put_3 rfl (lv_at hl 0 rfl) ?_
                    refine lv_if_lt (tgt := 57) hx hb dX10_put_4 (by decide) (fun c42 => ?_) (fun c42 => ?_)
                    · --4 taken
                      rw [hQ]
                      exact W.vret hx hb hr (fun t ht hW => ⟨⟨E40, rfl, ⟨hI, hKp, trivial⟩, by show va_P (dC, dI) vwCl (WL (LC cf) ad E40) t.heap; rw [ht]; exact hP⟩, hS.F ht⟩) hS.2.2 dX10_put_57
                    · --4 not
                      exact absurd c42 (by decide)
            · --16 not
              have t43 : ¬ y15.toInt = 0 := ti_ne c16
              have i44 : 1 ≤ y15.toInt ∧ y15.toInt ≤ 255 := iv_ne_l t43 iy15 (il_ 0)
              refine lv_aload_n hx hb dX10_put_19 rfl (lv_at hl 2 rfl) ?_
              obtain ⟨y45, ey45⟩ : ∃ y, xi (E 2) 1 = y := ⟨_, rfl⟩
              have fy45 : xv (E 2) 1 = .int y45 := (hI.fi 2 (mF 2 rfl) rfl (Nat.le_of_ble_eq_true rfl) rfl).trans (congrArg Value.int ey45)
              have i46 : 0 ≤ y45.toInt ∧ y45.toInt ≤ 200 := by rw [← ey45]; exact hI.iv 2 (mF 2 rfl) rfl (Nat.le_of_ble_eq_true rfl) rfl
              refine th_getL (ci := 11) (C := RX10) (T := TX10) (N := 10) (v := .int y45) hx hb hts hinX10 hown hK hP hI 2 (mF 2 rfl) rfl rfl 1 (Nat.le_of_ble_eq_true rfl) (hts _ (vA_in _ _ (in_8 _ (List.mem_of_getElem? (i := 20) rfl)))) (fun _ h9 => h9) fy45 dX10_put_20 ?_
              refine lv_aload_n hx hb dX10_put_23 rfl (lv_at hl 2 rfl) ?_
              refine th_getL (ci := 11) (C := RX10) (T := TX10) (N := 10) (v := .ref (ad 21)) hx hb hts hinX10 hown hK hP hI 2 (mF 2 rfl) rfl rfl 0 (Nat.le_of_ble_eq_true rfl) (hts _ (vA_in _ _ (in_8 _ (List.mem_of_getElem? (i := 17) rfl)))) (fun _ h9 => h9) (hI.fr 2 (mF 2 rfl) rfl (Nat.le_of_ble_eq_true rfl) 21 rfl) dX10_put_24 ?_
              refine va_alen (v := 200) hx hb hK hP (posL 21 (LC cf)) 0 (hI.ar 21 (mF 21 rfl) rfl) rfl rfl dX10_put_27 ?_
              refine lv_icmp_ge (tgt := 51) hx hb dX10_put_28 (by decide) (fun c47 => ?_) (fun c47 => ?_)
              · --28 taken
                have t48 : (200 : Int) ≤ y45.toInt := ti_le c47
                have i49 : 200 ≤ y45.toInt ∧ y45.toInt ≤ 200 := iv_le_r t48 (il_ 200) i46 (by decide)
                refine lv_iinc (v := 0) (lv' := [(2, .int 0), (3, .int y15), (0, .ref (ad 2)), (1, .int a0)]) hx hb dX10_put_51 hl (k := 1) rfl (by decide) (by decide) rfl (fun ls hl => ?_)
                refine lv_goto (tgt := 3) hx hb dX10_put_54 (by decide) ?_
                refine lv_iload_n hx hb dX10_put_3 rfl (lv_at hl 0 rfl) ?_
                refine lv_if_lt (tgt := 57) hx hb dX10_put_4 (by decide) (fun c50 => ?_) (fun c50 => ?_)
                · --4 taken
                  exact absurd c50 (by decide)
                · --4 not
                  refine lv_iload_n hx hb dX10_put_7 rfl (lv_at hl 3 rfl) ?_
                  refine lv_iload_n hx hb dX10_put_8 rfl (lv_at hl 0 rfl) ?_
                  refine lv_iushr hx hb dX10_put_9 rfl ?_
                  refine lv_topi (fun y51 ey51 => ?_)
                  refine lv_sipush (v := 255) hx hb dX10_put_10 (by decide) ?_
                  refine lv_iand hx hb dX10_put_13 ?_
                  refine lv_topi (fun y52 ey52 => ?_)
                  have iy52 : 0 ≤ y52.toInt ∧ y52.toInt ≤ 255 := ti_and (by decide) ey52
                  refine lv_istore_n (lv' := [(3, .int y52), (2, .int 0), (0, .ref (ad 2)), (1, .int a0)]) hx hb dX10_put_14 rfl hl (by decide) rfl (fun ls hl => ?_)
                  refine lv_iload_n hx hb dX10_put_15 rfl (lv_at hl 0 rfl) ?_
                  refine lv_if_eq (tgt := 51) hx hb dX10_put_16 (by decide) (fun c53 => ?_) (fun c53 => ?_)
                  · --16 taken
                    have t54 : y52.toInt = 0 := ti_eq c53
                    have i55 : 0 ≤ y52.toInt ∧ y52.toInt ≤ 0 := iv_eqi t54 iy52 (il_ 0) (by decide)
                    refine lv_iinc (v := -8) (lv' := [(2, .int (-8)), (3, .int y52), (0, .ref (ad 2)), (1, .int a0)]) hx hb dX10_put_51 hl (k := 1) rfl (by decide) (by decide) rfl (fun ls hl => ?_)
                    refine lv_goto (tgt := 3) hx hb dX10_put_54 (by decide) ?_
                    refine lv_iload_n hx hb dX10_put_3 rfl (lv_at hl 0 rfl) ?_
                    refine lv_if_lt (tgt := 57) hx hb dX10_put_4 (by decide) (fun c56 => ?_) (fun c56 => ?_)
                    · --4 taken
                      rw [hQ]
                      exact W.vret hx hb hr (fun t ht hW => ⟨⟨E, rfl, ⟨hI, hKp, trivial⟩, by show va_P (dC, dI) vwCl (WL (LC cf) ad E) t.heap; rw [ht]; exact hP⟩, hS.F ht⟩) hS.2.2 dX10_put_57
                    · --4 not
                      exact absurd c56 (by decide)
                  · --16 not
                    have t57 : ¬ y52.toInt = 0 := ti_ne c53
                    have i58 : 1 ≤ y52.toInt ∧ y52.toInt ≤ 255 := iv_ne_l t57 iy52 (il_ 0)
                    refine lv_aload_n hx hb dX10_put_19 rfl (lv_at hl 2 rfl) ?_
                    refine th_getL (ci := 11) (C := RX10) (T := TX10) (N := 10) (v := .int y45) hx hb hts hinX10 hown hK hP hI 2 (mF 2 rfl) rfl rfl 1 (Nat.le_of_ble_eq_true rfl) (hts _ (vA_in _ _ (in_8 _ (List.mem_of_getElem? (i := 20) rfl)))) (fun _ h9 => h9) fy45 dX10_put_20 ?_
                    refine lv_aload_n hx hb dX10_put_23 rfl (lv_at hl 2 rfl) ?_
                    refine th_getL (ci := 11) (C := RX10) (T := TX10) (N := 10) (v := .ref (ad 21)) hx hb hts hinX10 hown hK hP hI 2 (mF 2 rfl) rfl rfl 0 (Nat.le_of_ble_eq_true rfl) (hts _ (vA_in _ _ (in_8 _ (List.mem_of_getElem? (i := 17) rfl)))) (fun _ h9 => h9) (hI.fr 2 (mF 2 rfl) rfl (Nat.le_of_ble_eq_true rfl) 21 rfl) dX10_put_24 ?_
                    refine va_alen (v := 200) hx hb hK hP (posL 21 (LC cf)) 0 (hI.ar 21 (mF 21 rfl) rfl) rfl rfl dX10_put_27 ?_
                    refine lv_icmp_ge (tgt := 51) hx hb dX10_put_28 (by decide) (fun c59 => ?_) (fun c59 => ?_)
                    · --28 taken
                      have t60 : (200 : Int) ≤ y45.toInt := ti_le c59
                      refine lv_iinc (v := -8) (lv' := [(2, .int (-8)), (3, .int y52), (0, .ref (ad 2)), (1, .int a0)]) hx hb dX10_put_51 hl (k := 1) rfl (by decide) (by decide) rfl (fun ls hl => ?_)
                      refine lv_goto (tgt := 3) hx hb dX10_put_54 (by decide) ?_
                      refine lv_iload_n hx hb dX10_put_3 rfl (lv_at hl 0 rfl) ?_
                      refine lv_if_lt (tgt := 57) hx hb dX10_put_4 (by decide) (fun c61 => ?_) (fun c61 => ?_)
                      · --4 taken
                        rw [hQ]
                        exact W.vret hx hb hr (fun t ht hW => ⟨⟨E, rfl, ⟨hI, hKp, trivial⟩, by show va_P (dC, dI) vwCl (WL (LC cf) ad E) t.heap; rw [ht]; exact hP⟩, hS.F ht⟩) hS.2.2 dX10_put_57
                      · --4 not
                        exact absurd c61 (by decide)
                    · --28 not
                      have t62 : y45.toInt < 200 := ti_nle c59
                      have i63 : 200 ≤ y45.toInt ∧ y45.toInt ≤ 199 := iv_lt_l t62 i49 (il_ 200) (by decide)
                      exact iv_no i63 (by decide)
              · --28 not
                have t64 : y45.toInt < 200 := ti_nle c47
                have i65 : 0 ≤ y45.toInt ∧ y45.toInt ≤ 199 := iv_lt_l t64 i46 (il_ 200) (by decide)
                refine lv_aload_n hx hb dX10_put_31 rfl (lv_at hl 2 rfl) ?_
                refine th_getL (ci := 11) (C := RX10) (T := TX10) (N := 10) (v := .ref (ad 21)) hx hb hts hinX10 hown hK hP hI 2 (mF 2 rfl) rfl rfl 0 (Nat.le_of_ble_eq_true rfl) (hts _ (vA_in _ _ (in_8 _ (List.mem_of_getElem? (i := 17) rfl)))) (fun _ h9 => h9) (hI.fr 2 (mF 2 rfl) rfl (Nat.le_of_ble_eq_true rfl) 21 rfl) dX10_put_32 ?_
                refine lv_aload_n hx hb dX10_put_35 rfl (lv_at hl 2 rfl) ?_
                refine th_getL (ci := 11) (C := RX10) (T := TX10) (N := 10) (v := .int y45) hx hb hts hinX10 hown hK hP hI 2 (mF 2 rfl) rfl rfl 1 (Nat.le_of_ble_eq_true rfl) (hts _ (vA_in _ _ (in_8 _ (List.mem_of_getElem? (i := 20) rfl)))) (fun _ h9 => h9) fy45 dX10_put_36 ?_
                refine lv_iload_n hx hb dX10_put_39 rfl (lv_at hl 0 rfl) ?_
                have n66 : vp_in y45 200 := (iv_in (n := 200) i65 (by decide))
                refine th_iastL hx hb hK hP (WL_D hD) hS hI 21 (mF 21 rfl) rfl rfl n66 (okI rfl (iv_w i44 (by decide))) dX10_put_40 (fun H locs E67 pw68 hI hP hS => ?_)
                have hKp := hKp.pw pw68 rfl
                refine lv_aload_n hx hb dX10_put_41 rfl (lv_at hl 2 rfl) ?_
                refine lv_dup hx hb dX10_put_42 rfl ?_
                refine th_getL (ci := 11) (C := RX10) (T := TX10) (N := 10) (v := .int y45) hx hb hts hinX10 hown hK hP hI 2 (mF 2 rfl) rfl rfl 1 (Nat.le_of_ble_eq_true rfl) (hts _ (vA_in _ _ (in_8 _ (List.mem_of_getElem? (i := 20) rfl)))) (fun _ h9 => h9) ((pw68.2 2 1 (fun q9 => absurd q9.1 (Nat.ne_of_beq_eq_false rfl))).trans fy45) dX10_put_43 ?_
                refine lv_iconst (v := 1) hx hb dX10_put_46 (by decide) ?_
                refine lv_iadd hx hb dX10_put_47 ?_
                refine lv_topi (fun y69 ey69 => ?_)
                obtain ⟨ty69, iy69⟩ := ti_add (e := 1) (f := 200) i65 ln_1 ey69 (by decide)
                have ty69 : y69.toInt = y45.toInt + 1 := ty69
                have iy69 : 1 ≤ y69.toInt ∧ y69.toInt ≤ 200 := iy69
                refine th_putL (ci := 11) (C := RX10) (T := TX10) (N := 10) (v := .int y69) (ty := .int) hx hb hts hinX10 tyX10 tyX10_ok nmX10 hown hK hP (WL_D hD) hS hI 2 (mF 2 rfl) rfl rfl 1 (Nat.le_of_ble_eq_true rfl) (hts _ (vA_in _ _ (in_8 _ (List.mem_of_getElem? (i := 20) rfl)))) (fun _ h9 => h9) rfl (by decide +kernel) rfl rfl (okI rfl (iv_w iy69 (by decide))) dX10_put_48 (fun H locs E70 pw71 hI hP hS => ?_)
                have hKp := hKp.pw pw71 rfl
                refine lv_iinc (v := 0) (lv' := [(2, .int 0), (3, .int y15), (0, .ref (ad 2)), (1, .int a0)]) hx hb dX10_put_51 hl (k := 1) rfl (by decide) (by decide) rfl (fun ls hl => ?_)
                refine lv_goto (tgt := 3) hx hb dX10_put_54 (by decide) ?_
                refine lv_iload_n hx hb dX10_put_3 rfl (lv_at hl 0 rfl) ?_
                refine lv_if_lt (tgt := 57) hx hb dX10_put_4 (by decide) (fun c72 => ?_) (fun c72 => ?_)
                · --4 taken
                  exact absurd c72 (by decide)
                · --4 not
                  refine lv_iload_n hx hb dX10_put_7 rfl (lv_at hl 3 rfl) ?_
                  refine lv_iload_n hx hb dX10_put_8 rfl (lv_at hl 0 rfl) ?_
                  refine lv_iushr hx hb dX10_put_9 rfl ?_
                  refine lv_topi (fun y73 ey73 => ?_)
                  refine lv_sipush (v := 255) hx hb dX10_put_10 (by decide) ?_
                  refine lv_iand hx hb dX10_put_13 ?_
                  refine lv_topi (fun y74 ey74 => ?_)
                  have iy74 : 0 ≤ y74.toInt ∧ y74.toInt ≤ 255 := ti_and (by decide) ey74
                  refine lv_istore_n (lv' := [(3, .int y74), (2, .int 0), (0, .ref (ad 2)), (1, .int a0)]) hx hb dX10_put_14 rfl hl (by decide) rfl (fun ls hl => ?_)
                  refine lv_iload_n hx hb dX10_put_15 rfl (lv_at hl 0 rfl) ?_
                  refine lv_if_eq (tgt := 51) hx hb dX10_put_16 (by decide) (fun c75 => ?_) (fun c75 => ?_)
                  · --16 taken
                    have t76 : y74.toInt = 0 := ti_eq c75
                    have i77 : 0 ≤ y74.toInt ∧ y74.toInt ≤ 0 := iv_eqi t76 iy74 (il_ 0) (by decide)
                    refine lv_iinc (v := -8) (lv' := [(2, .int (-8)), (3, .int y74), (0, .ref (ad 2)), (1, .int a0)]) hx hb dX10_put_51 hl (k := 1) rfl (by decide) (by decide) rfl (fun ls hl => ?_)
                    refine lv_goto (tgt := 3) hx hb dX10_put_54 (by decide) ?_
                    refine lv_iload_n hx hb dX10_put_3 rfl (lv_at hl 0 rfl) ?_
                    refine lv_if_lt (tgt := 57) hx hb dX10_put_4 (by decide) (fun c78 => ?_) (fun c78 => ?_)
                    · --4 taken
                      rw [hQ]
                      exact W.vret hx hb hr (fun t ht hW => ⟨⟨E70, rfl, ⟨hI, hKp, trivial⟩, by show va_P (dC, dI) vwCl (WL (LC cf) ad E70) t.heap; rw [ht]; exact hP⟩, hS.F ht⟩) hS.2.2 dX10_put_57
                    · --4 not
                      exact absurd c78 (by decide)
                  · --16 not
                    have t79 : ¬ y74.toInt = 0 := ti_ne c75
                    have i80 : 1 ≤ y74.toInt ∧ y74.toInt ≤ 255 := iv_ne_l t79 iy74 (il_ 0)
                    refine lv_aload_n hx hb dX10_put_19 rfl (lv_at hl 2 rfl) ?_
                    refine th_getL (ci := 11) (C := RX10) (T := TX10) (N := 10) (v := .int y69) hx hb hts hinX10 hown hK hP hI 2 (mF 2 rfl) rfl rfl 1 (Nat.le_of_ble_eq_true rfl) (hts _ (vA_in _ _ (in_8 _ (List.mem_of_getElem? (i := 20) rfl)))) (fun _ h9 => h9) pw71.1 dX10_put_20 ?_
                    refine lv_aload_n hx hb dX10_put_23 rfl (lv_at hl 2 rfl) ?_
                    refine th_getL (ci := 11) (C := RX10) (T := TX10) (N := 10) (v := .ref (ad 21)) hx hb hts hinX10 hown hK hP hI 2 (mF 2 rfl) rfl rfl 0 (Nat.le_of_ble_eq_true rfl) (hts _ (vA_in _ _ (in_8 _ (List.mem_of_getElem? (i := 17) rfl)))) (fun _ h9 => h9) (hI.fr 2 (mF 2 rfl) rfl (Nat.le_of_ble_eq_true rfl) 21 rfl) dX10_put_24 ?_
                    refine va_alen (v := 200) hx hb hK hP (posL 21 (LC cf)) 0 (hI.ar 21 (mF 21 rfl) rfl) rfl rfl dX10_put_27 ?_
                    refine lv_icmp_ge (tgt := 51) hx hb dX10_put_28 (by decide) (fun c81 => ?_) (fun c81 => ?_)
                    · --28 taken
                      have t82 : (200 : Int) ≤ y69.toInt := ti_le c81
                      have i83 : 200 ≤ y69.toInt ∧ y69.toInt ≤ 200 := iv_le_r t82 (il_ 200) iy69 (by decide)
                      refine lv_iinc (v := -8) (lv' := [(2, .int (-8)), (3, .int y74), (0, .ref (ad 2)), (1, .int a0)]) hx hb dX10_put_51 hl (k := 1) rfl (by decide) (by decide) rfl (fun ls hl => ?_)
                      refine lv_goto (tgt := 3) hx hb dX10_put_54 (by decide) ?_
                      refine lv_iload_n hx hb dX10_put_3 rfl (lv_at hl 0 rfl) ?_
                      refine lv_if_lt (tgt := 57) hx hb dX10_put_4 (by decide) (fun c84 => ?_) (fun c84 => ?_)
                      · --4 taken
                        rw [hQ]
                        exact W.vret hx hb hr (fun t ht hW => ⟨⟨E70, rfl, ⟨hI, hKp, trivial⟩, by show va_P (dC, dI) vwCl (WL (LC cf) ad E70) t.heap; rw [ht]; exact hP⟩, hS.F ht⟩) hS.2.2 dX10_put_57
                      · --4 not
                        exact absurd c84 (by decide)
                    · --28 not
                      have t85 : y69.toInt < 200 := ti_nle c81
                      have i86 : 1 ≤ y69.toInt ∧ y69.toInt ≤ 199 := iv_lt_l t85 iy69 (il_ 200) (by decide)
                      refine lv_aload_n hx hb dX10_put_31 rfl (lv_at hl 2 rfl) ?_
                      refine th_getL (ci := 11) (C := RX10) (T := TX10) (N := 10) (v := .ref (ad 21)) hx hb hts hinX10 hown hK hP hI 2 (mF 2 rfl) rfl rfl 0 (Nat.le_of_ble_eq_true rfl) (hts _ (vA_in _ _ (in_8 _ (List.mem_of_getElem? (i := 17) rfl)))) (fun _ h9 => h9) (hI.fr 2 (mF 2 rfl) rfl (Nat.le_of_ble_eq_true rfl) 21 rfl) dX10_put_32 ?_
                      refine lv_aload_n hx hb dX10_put_35 rfl (lv_at hl 2 rfl) ?_
                      refine th_getL (ci := 11) (C := RX10) (T := TX10) (N := 10) (v := .int y69) hx hb hts hinX10 hown hK hP hI 2 (mF 2 rfl) rfl rfl 1 (Nat.le_of_ble_eq_true rfl) (hts _ (vA_in _ _ (in_8 _ (List.mem_of_getElem? (i := 20) rfl)))) (fun _ h9 => h9) pw71.1 dX10_put_36 ?_
                      refine lv_iload_n hx hb dX10_put_39 rfl (lv_at hl 0 rfl) ?_
                      have n87 : vp_in y69 200 := (iv_in (n := 200) i86 (by decide))
                      refine th_iastL hx hb hK hP (WL_D hD) hS hI 21 (mF 21 rfl) rfl rfl n87 (okI rfl (iv_w i80 (by decide))) dX10_put_40 (fun H locs E88 pw89 hI hP hS => ?_)
                      have hKp := hKp.pw pw89 rfl
                      refine lv_aload_n hx hb dX10_put_41 rfl (lv_at hl 2 rfl) ?_
                      refine lv_dup hx hb dX10_put_42 rfl ?_
                      refine th_getL (ci := 11) (C := RX10) (T := TX10) (N := 10) (v := .int y69) hx hb hts hinX10 hown hK hP hI 2 (mF 2 rfl) rfl rfl 1 (Nat.le_of_ble_eq_true rfl) (hts _ (vA_in _ _ (in_8 _ (List.mem_of_getElem? (i := 20) rfl)))) (fun _ h9 => h9) ((pw89.2 2 1 (fun q9 => absurd q9.1 (Nat.ne_of_beq_eq_false rfl))).trans pw71.1) dX10_put_43 ?_
                      refine lv_iconst (v := 1) hx hb dX10_put_46 (by decide) ?_
                      refine lv_iadd hx hb dX10_put_47 ?_
                      refine lv_topi (fun y90 ey90 => ?_)
                      obtain ⟨ty90, iy90⟩ := ti_add (e := 2) (f := 200) i86 ln_1 ey90 (by decide)
                      have ty90 : y90.toInt = y69.toInt + 1 := ty90
                      have iy90 : 2 ≤ y90.toInt ∧ y90.toInt ≤ 200 := iy90
                      refine th_putL (ci := 11) (C := RX10) (T := TX10) (N := 10) (v := .int y90) (ty := .int) hx hb hts hinX10 tyX10 tyX10_ok nmX10 hown hK hP (WL_D hD) hS hI 2 (mF 2 rfl) rfl rfl 1 (Nat.le_of_ble_eq_true rfl) (hts _ (vA_in _ _ (in_8 _ (List.mem_of_getElem? (i := 20) rfl)))) (fun _ h9 => h9) rfl (by decide +kernel) rfl rfl (okI rfl (iv_w iy90 (by decide))) dX10_put_48 (fun H locs E91 pw92 hI hP hS => ?_)
                      have hKp := hKp.pw pw92 rfl
                      refine lv_iinc (v := -8) (lv' := [(2, .int (-8)), (3, .int y74), (0, .ref (ad 2)), (1, .int a0)]) hx hb dX10_put_51 hl (k := 1) rfl (by decide) (by decide) rfl (fun ls hl => ?_)
                      refine lv_goto (tgt := 3) hx hb dX10_put_54 (by decide) ?_
                      refine lv_iload_n hx hb dX10_put_3 rfl (lv_at hl 0 rfl) ?_
                      refine lv_if_lt (tgt := 57) hx hb dX10_put_4 (by decide) (fun c93 => ?_) (fun c93 => ?_)
                      · --4 taken
                        rw [hQ]
                        exact W.vret hx hb hr (fun t ht hW => ⟨⟨E91, rfl, ⟨hI, hKp, trivial⟩, by show va_P (dC, dI) vwCl (WL (LC cf) ad E91) t.heap; rw [ht]; exact hP⟩, hS.F ht⟩) hS.2.2 dX10_put_57
                      · --4 not
                        exact absurd c93 (by decide)
        · --16 not
          have t94 : ¬ y9.toInt = 0 := ti_ne c10
          have i95 : 1 ≤ y9.toInt ∧ y9.toInt ≤ 255 := iv_ne_l t94 iy9 (il_ 0)
          refine lv_aload_n hx hb dX10_put_19 rfl (lv_at hl 2 rfl) ?_
          obtain ⟨y96, ey96⟩ : ∃ y, xi (E 2) 1 = y := ⟨_, rfl⟩
          have fy96 : xv (E 2) 1 = .int y96 := (hI.fi 2 (mF 2 rfl) rfl (Nat.le_of_ble_eq_true rfl) rfl).trans (congrArg Value.int ey96)
          have i97 : 0 ≤ y96.toInt ∧ y96.toInt ≤ 200 := by rw [← ey96]; exact hI.iv 2 (mF 2 rfl) rfl (Nat.le_of_ble_eq_true rfl) rfl
          refine th_getL (ci := 11) (C := RX10) (T := TX10) (N := 10) (v := .int y96) hx hb hts hinX10 hown hK hP hI 2 (mF 2 rfl) rfl rfl 1 (Nat.le_of_ble_eq_true rfl) (hts _ (vA_in _ _ (in_8 _ (List.mem_of_getElem? (i := 20) rfl)))) (fun _ h9 => h9) fy96 dX10_put_20 ?_
          refine lv_aload_n hx hb dX10_put_23 rfl (lv_at hl 2 rfl) ?_
          refine th_getL (ci := 11) (C := RX10) (T := TX10) (N := 10) (v := .ref (ad 21)) hx hb hts hinX10 hown hK hP hI 2 (mF 2 rfl) rfl rfl 0 (Nat.le_of_ble_eq_true rfl) (hts _ (vA_in _ _ (in_8 _ (List.mem_of_getElem? (i := 17) rfl)))) (fun _ h9 => h9) (hI.fr 2 (mF 2 rfl) rfl (Nat.le_of_ble_eq_true rfl) 21 rfl) dX10_put_24 ?_
          refine va_alen (v := 200) hx hb hK hP (posL 21 (LC cf)) 0 (hI.ar 21 (mF 21 rfl) rfl) rfl rfl dX10_put_27 ?_
          refine lv_icmp_ge (tgt := 51) hx hb dX10_put_28 (by decide) (fun c98 => ?_) (fun c98 => ?_)
          · --28 taken
            have t99 : (200 : Int) ≤ y96.toInt := ti_le c98
            have i100 : 200 ≤ y96.toInt ∧ y96.toInt ≤ 200 := iv_le_r t99 (il_ 200) i97 (by decide)
            refine lv_iinc (v := 8) (lv' := [(2, .int 8), (3, .int y9), (0, .ref (ad 2)), (1, .int a0)]) hx hb dX10_put_51 hl (k := 1) rfl (by decide) (by decide) rfl (fun ls hl => ?_)
            refine lv_goto (tgt := 3) hx hb dX10_put_54 (by decide) ?_
            refine lv_iload_n hx hb dX10_put_3 rfl (lv_at hl 0 rfl) ?_
            refine lv_if_lt (tgt := 57) hx hb dX10_put_4 (by decide) (fun c101 => ?_) (fun c101 => ?_)
            · --4 taken
              exact absurd c101 (by decide)
            · --4 not
              refine lv_iload_n hx hb dX10_put_7 rfl (lv_at hl 3 rfl) ?_
              refine lv_iload_n hx hb dX10_put_8 rfl (lv_at hl 0 rfl) ?_
              refine lv_iushr hx hb dX10_put_9 rfl ?_
              refine lv_topi (fun y102 ey102 => ?_)
              refine lv_sipush (v := 255) hx hb dX10_put_10 (by decide) ?_
              refine lv_iand hx hb dX10_put_13 ?_
              refine lv_topi (fun y103 ey103 => ?_)
              have iy103 : 0 ≤ y103.toInt ∧ y103.toInt ≤ 255 := ti_and (by decide) ey103
              refine lv_istore_n (lv' := [(3, .int y103), (2, .int 8), (0, .ref (ad 2)), (1, .int a0)]) hx hb dX10_put_14 rfl hl (by decide) rfl (fun ls hl => ?_)
              refine lv_iload_n hx hb dX10_put_15 rfl (lv_at hl 0 rfl) ?_
              refine lv_if_eq (tgt := 51) hx hb dX10_put_16 (by decide) (fun c104 => ?_) (fun c104 => ?_)
              · --16 taken
                have t105 : y103.toInt = 0 := ti_eq c104
                have i106 : 0 ≤ y103.toInt ∧ y103.toInt ≤ 0 := iv_eqi t105 iy103 (il_ 0) (by decide)
                refine lv_iinc (v := 0) (lv' := [(2, .int 0), (3, .int y103), (0, .ref (ad 2)), (1, .int a0)]) hx hb dX10_put_51 hl (k := 1) rfl (by decide) (by decide) rfl (fun ls hl => ?_)
                refine lv_goto (tgt := 3) hx hb dX10_put_54 (by decide) ?_
                refine lv_iload_n hx hb dX10_put_3 rfl (lv_at hl 0 rfl) ?_
                refine lv_if_lt (tgt := 57) hx hb dX10_put_4 (by decide) (fun c107 => ?_) (fun c107 => ?_)
                · --4 taken
                  exact absurd c107 (by decide)
                · --4 not
                  refine lv_iload_n hx hb dX10_put_7 rfl (lv_at hl 3 rfl) ?_
                  refine lv_iload_n hx hb dX10_put_8 rfl (lv_at hl 0 rfl) ?_
                  refine lv_iushr hx hb dX10_put_9 rfl ?_
                  refine lv_topi (fun y108 ey108 => ?_)
                  refine lv_sipush (v := 255) hx hb dX10_put_10 (by decide) ?_
                  refine lv_iand hx hb dX10_put_13 ?_
                  refine lv_topi (fun y109 ey109 => ?_)
                  have iy109 : 0 ≤ y109.toInt ∧ y109.toInt ≤ 255 := ti_and (by decide) ey109
                  refine lv_istore_n (lv' := [(3, .int y109), (2, .int 0), (0, .ref (ad 2)), (1, .int a0)]) hx hb dX10_put_14 rfl hl (by decide) rfl (fun ls hl => ?_)
                  refine lv_iload_n hx hb dX10_put_15 rfl (lv_at hl 0 rfl) ?_
                  refine lv_if_eq (tgt := 51) hx hb dX10_put_16 (by decide) (fun c110 => ?_) (fun c110 => ?_)
                  · --16 taken
                    have t111 : y109.toInt = 0 := ti_eq c110
                    have i112 : 0 ≤ y109.toInt ∧ y109.toInt ≤ 0 := iv_eqi t111 iy109 (il_ 0) (by decide)
                    refine lv_iinc (v := -8) (lv' := [(2, .int (-8)), (3, .int y109), (0, .ref (ad 2)), (1, .int a0)]) hx hb dX10_put_51 hl (k := 1) rfl (by decide) (by decide) rfl (fun ls hl => ?_)
                    refine lv_goto (tgt := 3) hx hb dX10_put_54 (by decide) ?_
                    refine lv_iload_n hx hb dX10_put_3 rfl (lv_at hl 0 rfl) ?_
                    refine lv_if_lt (tgt := 57) hx hb dX10_put_4 (by decide) (fun c113 => ?_) (fun c113 => ?_)
                    · --4 taken
                      rw [hQ]
                      exact W.vret hx hb hr (fun t ht hW => ⟨⟨E, rfl, ⟨hI, hKp, trivial⟩, by show va_P (dC, dI) vwCl (WL (LC cf) ad E) t.heap; rw [ht]; exact hP⟩, hS.F ht⟩) hS.2.2 dX10_put_57
                    · --4 not
                      exact absurd c113 (by decide)
                  · --16 not
                    have t114 : ¬ y109.toInt = 0 := ti_ne c110
                    have i115 : 1 ≤ y109.toInt ∧ y109.toInt ≤ 255 := iv_ne_l t114 iy109 (il_ 0)
                    refine lv_aload_n hx hb dX10_put_19 rfl (lv_at hl 2 rfl) ?_
                    refine th_getL (ci := 11) (C := RX10) (T := TX10) (N := 10) (v := .int y96) hx hb hts hinX10 hown hK hP hI 2 (mF 2 rfl) rfl rfl 1 (Nat.le_of_ble_eq_true rfl) (hts _ (vA_in _ _ (in_8 _ (List.mem_of_getElem? (i := 20) rfl)))) (fun _ h9 => h9) fy96 dX10_put_20 ?_
                    refine lv_aload_n hx hb dX10_put_23 rfl (lv_at hl 2 rfl) ?_
                    refine th_getL (ci := 11) (C := RX10) (T := TX10) (N := 10) (v := .ref (ad 21)) hx hb hts hinX10 hown hK hP hI 2 (mF 2 rfl) rfl rfl 0 (Nat.le_of_ble_eq_true rfl) (hts _ (vA_in _ _ (in_8 _ (List.mem_of_getElem? (i := 17) rfl)))) (fun _ h9 => h9) (hI.fr 2 (mF 2 rfl) rfl (Nat.le_of_ble_eq_true rfl) 21 rfl) dX10_put_24 ?_
                    refine va_alen (v := 200) hx hb hK hP (posL 21 (LC cf)) 0 (hI.ar 21 (mF 21 rfl) rfl) rfl rfl dX10_put_27 ?_
                    refine lv_icmp_ge (tgt := 51) hx hb dX10_put_28 (by decide) (fun c116 => ?_) (fun c116 => ?_)
                    · --28 taken
                      have t117 : (200 : Int) ≤ y96.toInt := ti_le c116
                      refine lv_iinc (v := -8) (lv' := [(2, .int (-8)), (3, .int y109), (0, .ref (ad 2)), (1, .int a0)]) hx hb dX10_put_51 hl (k := 1) rfl (by decide) (by decide) rfl (fun ls hl => ?_)
                      refine lv_goto (tgt := 3) hx hb dX10_put_54 (by decide) ?_
                      refine lv_iload_n hx hb dX10_put_3 rfl (lv_at hl 0 rfl) ?_
                      refine lv_if_lt (tgt := 57) hx hb dX10_put_4 (by decide) (fun c118 => ?_) (fun c118 => ?_)
                      · --4 taken
                        rw [hQ]
                        exact W.vret hx hb hr (fun t ht hW => ⟨⟨E, rfl, ⟨hI, hKp, trivial⟩, by show va_P (dC, dI) vwCl (WL (LC cf) ad E) t.heap; rw [ht]; exact hP⟩, hS.F ht⟩) hS.2.2 dX10_put_57
                      · --4 not
                        exact absurd c118 (by decide)
                    · --28 not
                      have t119 : y96.toInt < 200 := ti_nle c116
                      have i120 : 200 ≤ y96.toInt ∧ y96.toInt ≤ 199 := iv_lt_l t119 i100 (il_ 200) (by decide)
                      exact iv_no i120 (by decide)
              · --16 not
                have t121 : ¬ y103.toInt = 0 := ti_ne c104
                have i122 : 1 ≤ y103.toInt ∧ y103.toInt ≤ 255 := iv_ne_l t121 iy103 (il_ 0)
                refine lv_aload_n hx hb dX10_put_19 rfl (lv_at hl 2 rfl) ?_
                refine th_getL (ci := 11) (C := RX10) (T := TX10) (N := 10) (v := .int y96) hx hb hts hinX10 hown hK hP hI 2 (mF 2 rfl) rfl rfl 1 (Nat.le_of_ble_eq_true rfl) (hts _ (vA_in _ _ (in_8 _ (List.mem_of_getElem? (i := 20) rfl)))) (fun _ h9 => h9) fy96 dX10_put_20 ?_
                refine lv_aload_n hx hb dX10_put_23 rfl (lv_at hl 2 rfl) ?_
                refine th_getL (ci := 11) (C := RX10) (T := TX10) (N := 10) (v := .ref (ad 21)) hx hb hts hinX10 hown hK hP hI 2 (mF 2 rfl) rfl rfl 0 (Nat.le_of_ble_eq_true rfl) (hts _ (vA_in _ _ (in_8 _ (List.mem_of_getElem? (i := 17) rfl)))) (fun _ h9 => h9) (hI.fr 2 (mF 2 rfl) rfl (Nat.le_of_ble_eq_true rfl) 21 rfl) dX10_put_24 ?_
                refine va_alen (v := 200) hx hb hK hP (posL 21 (LC cf)) 0 (hI.ar 21 (mF 21 rfl) rfl) rfl rfl dX10_put_27 ?_
                refine lv_icmp_ge (tgt := 51) hx hb dX10_put_28 (by decide) (fun c123 => ?_) (fun c123 => ?_)
                · --28 taken
                  have t124 : (200 : Int) ≤ y96.toInt := ti_le c123
                  refine lv_iinc (v := 0) (lv' := [(2, .int 0), (3, .int y103), (0, .ref (ad 2)), (1, .int a0)]) hx hb dX10_put_51 hl (k := 1) rfl (by decide) (by decide) rfl (fun ls hl => ?_)
                  refine lv_goto (tgt := 3) hx hb dX10_put_54 (by decide) ?_
                  refine lv_iload_n hx hb dX10_put_3 rfl (lv_at hl 0 rfl) ?_
                  refine lv_if_lt (tgt := 57) hx hb dX10_put_4 (by decide) (fun c125 => ?_) (fun c125 => ?_)
                  · --4 taken
                    exact absurd c125 (by decide)
                  · --4 not
                    refine lv_iload_n hx hb dX10_put_7 rfl (lv_at hl 3 rfl) ?_
                    refine lv_iload_n hx hb dX10_put_8 rfl (lv_at hl 0 rfl) ?_
                    refine lv_iushr hx hb dX10_put_9 rfl ?_
                    refine lv_topi (fun y126 ey126 => ?_)
                    refine lv_sipush (v := 255) hx hb dX10_put_10 (by decide) ?_
                    refine lv_iand hx hb dX10_put_13 ?_
                    refine lv_topi (fun y127 ey127 => ?_)
                    have iy127 : 0 ≤ y127.toInt ∧ y127.toInt ≤ 255 := ti_and (by decide) ey127
                    refine lv_istore_n (lv' := [(3, .int y127), (2, .int 0), (0, .ref (ad 2)), (1, .int a0)]) hx hb dX10_put_14 rfl hl (by decide) rfl (fun ls hl => ?_)
                    refine lv_iload_n hx hb dX10_put_15 rfl (lv_at hl 0 rfl) ?_
                    refine lv_if_eq (tgt := 51) hx hb dX10_put_16 (by decide) (fun c128 => ?_) (fun c128 => ?_)
                    · --16 taken
                      have t129 : y127.toInt = 0 := ti_eq c128
                      have i130 : 0 ≤ y127.toInt ∧ y127.toInt ≤ 0 := iv_eqi t129 iy127 (il_ 0) (by decide)
                      refine lv_iinc (v := -8) (lv' := [(2, .int (-8)), (3, .int y127), (0, .ref (ad 2)), (1, .int a0)]) hx hb dX10_put_51 hl (k := 1) rfl (by decide) (by decide) rfl (fun ls hl => ?_)
                      refine lv_goto (tgt := 3) hx hb dX10_put_54 (by decide) ?_
                      refine lv_iload_n hx hb dX10_put_3 rfl (lv_at hl 0 rfl) ?_
                      refine lv_if_lt (tgt := 57) hx hb dX10_put_4 (by decide) (fun c131 => ?_) (fun c131 => ?_)
                      · --4 taken
                        rw [hQ]
                        exact W.vret hx hb hr (fun t ht hW => ⟨⟨E, rfl, ⟨hI, hKp, trivial⟩, by show va_P (dC, dI) vwCl (WL (LC cf) ad E) t.heap; rw [ht]; exact hP⟩, hS.F ht⟩) hS.2.2 dX10_put_57
                      · --4 not
                        exact absurd c131 (by decide)
                    · --16 not
                      have t132 : ¬ y127.toInt = 0 := ti_ne c128
                      have i133 : 1 ≤ y127.toInt ∧ y127.toInt ≤ 255 := iv_ne_l t132 iy127 (il_ 0)
                      refine lv_aload_n hx hb dX10_put_19 rfl (lv_at hl 2 rfl) ?_
                      refine th_getL (ci := 11) (C := RX10) (T := TX10) (N := 10) (v := .int y96) hx hb hts hinX10 hown hK hP hI 2 (mF 2 rfl) rfl rfl 1 (Nat.le_of_ble_eq_true rfl) (hts _ (vA_in _ _ (in_8 _ (List.mem_of_getElem? (i := 20) rfl)))) (fun _ h9 => h9) fy96 dX10_put_20 ?_
                      refine lv_aload_n hx hb dX10_put_23 rfl (lv_at hl 2 rfl) ?_
                      refine th_getL (ci := 11) (C := RX10) (T := TX10) (N := 10) (v := .ref (ad 21)) hx hb hts hinX10 hown hK hP hI 2 (mF 2 rfl) rfl rfl 0 (Nat.le_of_ble_eq_true rfl) (hts _ (vA_in _ _ (in_8 _ (List.mem_of_getElem? (i := 17) rfl)))) (fun _ h9 => h9) (hI.fr 2 (mF 2 rfl) rfl (Nat.le_of_ble_eq_true rfl) 21 rfl) dX10_put_24 ?_
                      refine va_alen (v := 200) hx hb hK hP (posL 21 (LC cf)) 0 (hI.ar 21 (mF 21 rfl) rfl) rfl rfl dX10_put_27 ?_
                      refine lv_icmp_ge (tgt := 51) hx hb dX10_put_28 (by decide) (fun c134 => ?_) (fun c134 => ?_)
                      · --28 taken
                        have t135 : (200 : Int) ≤ y96.toInt := ti_le c134
                        refine lv_iinc (v := -8) (lv' := [(2, .int (-8)), (3, .int y127), (0, .ref (ad 2)), (1, .int a0)]) hx hb dX10_put_51 hl (k := 1) rfl (by decide) (by decide) rfl (fun ls hl => ?_)
                        refine lv_goto (tgt := 3) hx hb dX10_put_54 (by decide) ?_
                        refine lv_iload_n hx hb dX10_put_3 rfl (lv_at hl 0 rfl) ?_
                        refine lv_if_lt (tgt := 57) hx hb dX10_put_4 (by decide) (fun c136 => ?_) (fun c136 => ?_)
                        · --4 taken
                          rw [hQ]
                          exact W.vret hx hb hr (fun t ht hW => ⟨⟨E, rfl, ⟨hI, hKp, trivial⟩, by show va_P (dC, dI) vwCl (WL (LC cf) ad E) t.heap; rw [ht]; exact hP⟩, hS.F ht⟩) hS.2.2 dX10_put_57
                        · --4 not
                          exact absurd c136 (by decide)
                      · --28 not
                        have t137 : y96.toInt < 200 := ti_nle c134
                        have i138 : 200 ≤ y96.toInt ∧ y96.toInt ≤ 199 := iv_lt_l t137 i100 (il_ 200) (by decide)
                        exact iv_no i138 (by decide)
                · --28 not
                  have t139 : y96.toInt < 200 := ti_nle c123
                  have i140 : 200 ≤ y96.toInt ∧ y96.toInt ≤ 199 := iv_lt_l t139 i100 (il_ 200) (by decide)
                  exact iv_no i140 (by decide)
          · --28 not
            have t141 : y96.toInt < 200 := ti_nle c98
            have i142 : 0 ≤ y96.toInt ∧ y96.toInt ≤ 199 := iv_lt_l t141 i97 (il_ 200) (by decide)
            refine lv_aload_n hx hb dX10_put_31 rfl (lv_at hl 2 rfl) ?_
            refine th_getL (ci := 11) (C := RX10) (T := TX10) (N := 10) (v := .ref (ad 21)) hx hb hts hinX10 hown hK hP hI 2 (mF 2 rfl) rfl rfl 0 (Nat.le_of_ble_eq_true rfl) (hts _ (vA_in _ _ (in_8 _ (List.mem_of_getElem? (i := 17) rfl)))) (fun _ h9 => h9) (hI.fr 2 (mF 2 rfl) rfl (Nat.le_of_ble_eq_true rfl) 21 rfl) dX10_put_32 ?_
            refine lv_aload_n hx hb dX10_put_35 rfl (lv_at hl 2 rfl) ?_
            refine th_getL (ci := 11) (C := RX10) (T := TX10) (N := 10) (v := .int y96) hx hb hts hinX10 hown hK hP hI 2 (mF 2 rfl) rfl rfl 1 (Nat.le_of_ble_eq_true rfl) (hts _ (vA_in _ _ (in_8 _ (List.mem_of_getElem? (i := 20) rfl)))) (fun _ h9 => h9) fy96 dX10_put_36 ?_
            refine lv_iload_n hx hb dX10_put_39 rfl (lv_at hl 0 rfl) ?_
            have n143 : vp_in y96 200 := (iv_in (n := 200) i142 (by decide))
            refine th_iastL hx hb hK hP (WL_D hD) hS hI 21 (mF 21 rfl) rfl rfl n143 (okI rfl (iv_w i95 (by decide))) dX10_put_40 (fun H locs E144 pw145 hI hP hS => ?_)
            have hKp := hKp.pw pw145 rfl
            refine lv_aload_n hx hb dX10_put_41 rfl (lv_at hl 2 rfl) ?_
            refine lv_dup hx hb dX10_put_42 rfl ?_
            refine th_getL (ci := 11) (C := RX10) (T := TX10) (N := 10) (v := .int y96) hx hb hts hinX10 hown hK hP hI 2 (mF 2 rfl) rfl rfl 1 (Nat.le_of_ble_eq_true rfl) (hts _ (vA_in _ _ (in_8 _ (List.mem_of_getElem? (i := 20) rfl)))) (fun _ h9 => h9) ((pw145.2 2 1 (fun q9 => absurd q9.1 (Nat.ne_of_beq_eq_false rfl))).trans fy96) dX10_put_43 ?_
            refine lv_iconst (v := 1) hx hb dX10_put_46 (by decide) ?_
            refine lv_iadd hx hb dX10_put_47 ?_
            refine lv_topi (fun y146 ey146 => ?_)
            obtain ⟨ty146, iy146⟩ := ti_add (e := 1) (f := 200) i142 ln_1 ey146 (by decide)
            have ty146 : y146.toInt = y96.toInt + 1 := ty146
            have iy146 : 1 ≤ y146.toInt ∧ y146.toInt ≤ 200 := iy146
            refine th_putL (ci := 11) (C := RX10) (T := TX10) (N := 10) (v := .int y146) (ty := .int) hx hb hts hinX10 tyX10 tyX10_ok nmX10 hown hK hP (WL_D hD) hS hI 2 (mF 2 rfl) rfl rfl 1 (Nat.le_of_ble_eq_true rfl) (hts _ (vA_in _ _ (in_8 _ (List.mem_of_getElem? (i := 20) rfl)))) (fun _ h9 => h9) rfl (by decide +kernel) rfl rfl (okI rfl (iv_w iy146 (by decide))) dX10_put_48 (fun H locs E147 pw148 hI hP hS => ?_)
            have hKp := hKp.pw pw148 rfl
            refine lv_iinc (v := 8) (lv' := [(2, .int 8), (3, .int y9), (0, .ref (ad 2)), (1, .int a0)]) hx hb dX10_put_51 hl (k := 1) rfl (by decide) (by decide) rfl (fun ls hl => ?_)
            refine lv_goto (tgt := 3) hx hb dX10_put_54 (by decide) ?_
            refine lv_iload_n hx hb dX10_put_3 rfl (lv_at hl 0 rfl) ?_
            refine lv_if_lt (tgt := 57) hx hb dX10_put_4 (by decide) (fun c149 => ?_) (fun c149 => ?_)
            · --4 taken
              exact absurd c149 (by decide)
            · --4 not
              refine lv_iload_n hx hb dX10_put_7 rfl (lv_at hl 3 rfl) ?_
              refine lv_iload_n hx hb dX10_put_8 rfl (lv_at hl 0 rfl) ?_
              refine lv_iushr hx hb dX10_put_9 rfl ?_
              refine lv_topi (fun y150 ey150 => ?_)
              refine lv_sipush (v := 255) hx hb dX10_put_10 (by decide) ?_
              refine lv_iand hx hb dX10_put_13 ?_
              refine lv_topi (fun y151 ey151 => ?_)
              have iy151 : 0 ≤ y151.toInt ∧ y151.toInt ≤ 255 := ti_and (by decide) ey151
              refine lv_istore_n (lv' := [(3, .int y151), (2, .int 8), (0, .ref (ad 2)), (1, .int a0)]) hx hb dX10_put_14 rfl hl (by decide) rfl (fun ls hl => ?_)
              refine lv_iload_n hx hb dX10_put_15 rfl (lv_at hl 0 rfl) ?_
              refine lv_if_eq (tgt := 51) hx hb dX10_put_16 (by decide) (fun c152 => ?_) (fun c152 => ?_)
              · --16 taken
                have t153 : y151.toInt = 0 := ti_eq c152
                have i154 : 0 ≤ y151.toInt ∧ y151.toInt ≤ 0 := iv_eqi t153 iy151 (il_ 0) (by decide)
                refine lv_iinc (v := 0) (lv' := [(2, .int 0), (3, .int y151), (0, .ref (ad 2)), (1, .int a0)]) hx hb dX10_put_51 hl (k := 1) rfl (by decide) (by decide) rfl (fun ls hl => ?_)
                refine lv_goto (tgt := 3) hx hb dX10_put_54 (by decide) ?_
                refine lv_iload_n hx hb dX10_put_3 rfl (lv_at hl 0 rfl) ?_
                refine lv_if_lt (tgt := 57) hx hb dX10_put_4 (by decide) (fun c155 => ?_) (fun c155 => ?_)
                · --4 taken
                  exact absurd c155 (by decide)
                · --4 not
                  refine lv_iload_n hx hb dX10_put_7 rfl (lv_at hl 3 rfl) ?_
                  refine lv_iload_n hx hb dX10_put_8 rfl (lv_at hl 0 rfl) ?_
                  refine lv_iushr hx hb dX10_put_9 rfl ?_
                  refine lv_topi (fun y156 ey156 => ?_)
                  refine lv_sipush (v := 255) hx hb dX10_put_10 (by decide) ?_
                  refine lv_iand hx hb dX10_put_13 ?_
                  refine lv_topi (fun y157 ey157 => ?_)
                  have iy157 : 0 ≤ y157.toInt ∧ y157.toInt ≤ 255 := ti_and (by decide) ey157
                  refine lv_istore_n (lv' := [(3, .int y157), (2, .int 0), (0, .ref (ad 2)), (1, .int a0)]) hx hb dX10_put_14 rfl hl (by decide) rfl (fun ls hl => ?_)
                  refine lv_iload_n hx hb dX10_put_15 rfl (lv_at hl 0 rfl) ?_
                  refine lv_if_eq (tgt := 51) hx hb dX10_put_16 (by decide) (fun c158 => ?_) (fun c158 => ?_)
                  · --16 taken
                    have t159 : y157.toInt = 0 := ti_eq c158
                    have i160 : 0 ≤ y157.toInt ∧ y157.toInt ≤ 0 := iv_eqi t159 iy157 (il_ 0) (by decide)
                    refine lv_iinc (v := -8) (lv' := [(2, .int (-8)), (3, .int y157), (0, .ref (ad 2)), (1, .int a0)]) hx hb dX10_put_51 hl (k := 1) rfl (by decide) (by decide) rfl (fun ls hl => ?_)
                    refine lv_goto (tgt := 3) hx hb dX10_put_54 (by decide) ?_
                    refine lv_iload_n hx hb dX10_put_3 rfl (lv_at hl 0 rfl) ?_
                    refine lv_if_lt (tgt := 57) hx hb dX10_put_4 (by decide) (fun c161 => ?_) (fun c161 => ?_)
                    · --4 taken
                      rw [hQ]
                      exact W.vret hx hb hr (fun t ht hW => ⟨⟨E147, rfl, ⟨hI, hKp, trivial⟩, by show va_P (dC, dI) vwCl (WL (LC cf) ad E147) t.heap; rw [ht]; exact hP⟩, hS.F ht⟩) hS.2.2 dX10_put_57
                    · --4 not
                      exact absurd c161 (by decide)
                  · --16 not
                    have t162 : ¬ y157.toInt = 0 := ti_ne c158
                    have i163 : 1 ≤ y157.toInt ∧ y157.toInt ≤ 255 := iv_ne_l t162 iy157 (il_ 0)
                    refine lv_aload_n hx hb dX10_put_19 rfl (lv_at hl 2 rfl) ?_
                    refine th_getL (ci := 11) (C := RX10) (T := TX10) (N := 10) (v := .int y146) hx hb hts hinX10 hown hK hP hI 2 (mF 2 rfl) rfl rfl 1 (Nat.le_of_ble_eq_true rfl) (hts _ (vA_in _ _ (in_8 _ (List.mem_of_getElem? (i := 20) rfl)))) (fun _ h9 => h9) pw148.1 dX10_put_20 ?_
                    refine lv_aload_n hx hb dX10_put_23 rfl (lv_at hl 2 rfl) ?_
                    refine th_getL (ci := 11) (C := RX10) (T := TX10) (N := 10) (v := .ref (ad 21)) hx hb hts hinX10 hown hK hP hI 2 (mF 2 rfl) rfl rfl 0 (Nat.le_of_ble_eq_true rfl) (hts _ (vA_in _ _ (in_8 _ (List.mem_of_getElem? (i := 17) rfl)))) (fun _ h9 => h9) (hI.fr 2 (mF 2 rfl) rfl (Nat.le_of_ble_eq_true rfl) 21 rfl) dX10_put_24 ?_
                    refine va_alen (v := 200) hx hb hK hP (posL 21 (LC cf)) 0 (hI.ar 21 (mF 21 rfl) rfl) rfl rfl dX10_put_27 ?_
                    refine lv_icmp_ge (tgt := 51) hx hb dX10_put_28 (by decide) (fun c164 => ?_) (fun c164 => ?_)
                    · --28 taken
                      have t165 : (200 : Int) ≤ y146.toInt := ti_le c164
                      have i166 : 200 ≤ y146.toInt ∧ y146.toInt ≤ 200 := iv_le_r t165 (il_ 200) iy146 (by decide)
                      refine lv_iinc (v := -8) (lv' := [(2, .int (-8)), (3, .int y157), (0, .ref (ad 2)), (1, .int a0)]) hx hb dX10_put_51 hl (k := 1) rfl (by decide) (by decide) rfl (fun ls hl => ?_)
                      refine lv_goto (tgt := 3) hx hb dX10_put_54 (by decide) ?_
                      refine lv_iload_n hx hb dX10_put_3 rfl (lv_at hl 0 rfl) ?_
                      refine lv_if_lt (tgt := 57) hx hb dX10_put_4 (by decide) (fun c167 => ?_) (fun c167 => ?_)
                      · --4 taken
                        rw [hQ]
                        exact W.vret hx hb hr (fun t ht hW => ⟨⟨E147, rfl, ⟨hI, hKp, trivial⟩, by show va_P (dC, dI) vwCl (WL (LC cf) ad E147) t.heap; rw [ht]; exact hP⟩, hS.F ht⟩) hS.2.2 dX10_put_57
                      · --4 not
                        exact absurd c167 (by decide)
                    · --28 not
                      have t168 : y146.toInt < 200 := ti_nle c164
                      have i169 : 1 ≤ y146.toInt ∧ y146.toInt ≤ 199 := iv_lt_l t168 iy146 (il_ 200) (by decide)
                      refine lv_aload_n hx hb dX10_put_31 rfl (lv_at hl 2 rfl) ?_
                      refine th_getL (ci := 11) (C := RX10) (T := TX10) (N := 10) (v := .ref (ad 21)) hx hb hts hinX10 hown hK hP hI 2 (mF 2 rfl) rfl rfl 0 (Nat.le_of_ble_eq_true rfl) (hts _ (vA_in _ _ (in_8 _ (List.mem_of_getElem? (i := 17) rfl)))) (fun _ h9 => h9) (hI.fr 2 (mF 2 rfl) rfl (Nat.le_of_ble_eq_true rfl) 21 rfl) dX10_put_32 ?_
                      refine lv_aload_n hx hb dX10_put_35 rfl (lv_at hl 2 rfl) ?_
                      refine th_getL (ci := 11) (C := RX10) (T := TX10) (N := 10) (v := .int y146) hx hb hts hinX10 hown hK hP hI 2 (mF 2 rfl) rfl rfl 1 (Nat.le_of_ble_eq_true rfl) (hts _ (vA_in _ _ (in_8 _ (List.mem_of_getElem? (i := 20) rfl)))) (fun _ h9 => h9) pw148.1 dX10_put_36 ?_
                      refine lv_iload_n hx hb dX10_put_39 rfl (lv_at hl 0 rfl) ?_
                      have n170 : vp_in y146 200 := (iv_in (n := 200) i169 (by decide))
                      refine th_iastL hx hb hK hP (WL_D hD) hS hI 21 (mF 21 rfl) rfl rfl n170 (okI rfl (iv_w i163 (by decide))) dX10_put_40 (fun H locs E171 pw172 hI hP hS => ?_)
                      have hKp := hKp.pw pw172 rfl
                      refine lv_aload_n hx hb dX10_put_41 rfl (lv_at hl 2 rfl) ?_
                      refine lv_dup hx hb dX10_put_42 rfl ?_
                      refine th_getL (ci := 11) (C := RX10) (T := TX10) (N := 10) (v := .int y146) hx hb hts hinX10 hown hK hP hI 2 (mF 2 rfl) rfl rfl 1 (Nat.le_of_ble_eq_true rfl) (hts _ (vA_in _ _ (in_8 _ (List.mem_of_getElem? (i := 20) rfl)))) (fun _ h9 => h9) ((pw172.2 2 1 (fun q9 => absurd q9.1 (Nat.ne_of_beq_eq_false rfl))).trans pw148.1) dX10_put_43 ?_
                      refine lv_iconst (v := 1) hx hb dX10_put_46 (by decide) ?_
                      refine lv_iadd hx hb dX10_put_47 ?_
                      refine lv_topi (fun y173 ey173 => ?_)
                      obtain ⟨ty173, iy173⟩ := ti_add (e := 2) (f := 200) i169 ln_1 ey173 (by decide)
                      have ty173 : y173.toInt = y146.toInt + 1 := ty173
                      have iy173 : 2 ≤ y173.toInt ∧ y173.toInt ≤ 200 := iy173
                      refine th_putL (ci := 11) (C := RX10) (T := TX10) (N := 10) (v := .int y173) (ty := .int) hx hb hts hinX10 tyX10 tyX10_ok nmX10 hown hK hP (WL_D hD) hS hI 2 (mF 2 rfl) rfl rfl 1 (Nat.le_of_ble_eq_true rfl) (hts _ (vA_in _ _ (in_8 _ (List.mem_of_getElem? (i := 20) rfl)))) (fun _ h9 => h9) rfl (by decide +kernel) rfl rfl (okI rfl (iv_w iy173 (by decide))) dX10_put_48 (fun H locs E174 pw175 hI hP hS => ?_)
                      have hKp := hKp.pw pw175 rfl
                      refine lv_iinc (v := -8) (lv' := [(2, .int (-8)), (3, .int y157), (0, .ref (ad 2)), (1, .int a0)]) hx hb dX10_put_51 hl (k := 1) rfl (by decide) (by decide) rfl (fun ls hl => ?_)
                      refine lv_goto (tgt := 3) hx hb dX10_put_54 (by decide) ?_
                      refine lv_iload_n hx hb dX10_put_3 rfl (lv_at hl 0 rfl) ?_
                      refine lv_if_lt (tgt := 57) hx hb dX10_put_4 (by decide) (fun c176 => ?_) (fun c176 => ?_)
                      · --4 taken
                        rw [hQ]
                        exact W.vret hx hb hr (fun t ht hW => ⟨⟨E174, rfl, ⟨hI, hKp, trivial⟩, by show va_P (dC, dI) vwCl (WL (LC cf) ad E174) t.heap; rw [ht]; exact hP⟩, hS.F ht⟩) hS.2.2 dX10_put_57
                      · --4 not
                        exact absurd c176 (by decide)
              · --16 not
                have t177 : ¬ y151.toInt = 0 := ti_ne c152
                have i178 : 1 ≤ y151.toInt ∧ y151.toInt ≤ 255 := iv_ne_l t177 iy151 (il_ 0)
                refine lv_aload_n hx hb dX10_put_19 rfl (lv_at hl 2 rfl) ?_
                refine th_getL (ci := 11) (C := RX10) (T := TX10) (N := 10) (v := .int y146) hx hb hts hinX10 hown hK hP hI 2 (mF 2 rfl) rfl rfl 1 (Nat.le_of_ble_eq_true rfl) (hts _ (vA_in _ _ (in_8 _ (List.mem_of_getElem? (i := 20) rfl)))) (fun _ h9 => h9) pw148.1 dX10_put_20 ?_
                refine lv_aload_n hx hb dX10_put_23 rfl (lv_at hl 2 rfl) ?_
                refine th_getL (ci := 11) (C := RX10) (T := TX10) (N := 10) (v := .ref (ad 21)) hx hb hts hinX10 hown hK hP hI 2 (mF 2 rfl) rfl rfl 0 (Nat.le_of_ble_eq_true rfl) (hts _ (vA_in _ _ (in_8 _ (List.mem_of_getElem? (i := 17) rfl)))) (fun _ h9 => h9) (hI.fr 2 (mF 2 rfl) rfl (Nat.le_of_ble_eq_true rfl) 21 rfl) dX10_put_24 ?_
                refine va_alen (v := 200) hx hb hK hP (posL 21 (LC cf)) 0 (hI.ar 21 (mF 21 rfl) rfl) rfl rfl dX10_put_27 ?_
                refine lv_icmp_ge (tgt := 51) hx hb dX10_put_28 (by decide) (fun c179 => ?_) (fun c179 => ?_)
                · --28 taken
                  have t180 : (200 : Int) ≤ y146.toInt := ti_le c179
                  have i181 : 200 ≤ y146.toInt ∧ y146.toInt ≤ 200 := iv_le_r t180 (il_ 200) iy146 (by decide)
                  refine lv_iinc (v := 0) (lv' := [(2, .int 0), (3, .int y151), (0, .ref (ad 2)), (1, .int a0)]) hx hb dX10_put_51 hl (k := 1) rfl (by decide) (by decide) rfl (fun ls hl => ?_)
                  refine lv_goto (tgt := 3) hx hb dX10_put_54 (by decide) ?_
                  refine lv_iload_n hx hb dX10_put_3 rfl (lv_at hl 0 rfl) ?_
                  refine lv_if_lt (tgt := 57) hx hb dX10_put_4 (by decide) (fun c182 => ?_) (fun c182 => ?_)
                  · --4 taken
                    exact absurd c182 (by decide)
                  · --4 not
                    refine lv_iload_n hx hb dX10_put_7 rfl (lv_at hl 3 rfl) ?_
                    refine lv_iload_n hx hb dX10_put_8 rfl (lv_at hl 0 rfl) ?_
                    refine lv_iushr hx hb dX10_put_9 rfl ?_
                    refine lv_topi (fun y183 ey183 => ?_)
                    refine lv_sipush (v := 255) hx hb dX10_put_10 (by decide) ?_
                    refine lv_iand hx hb dX10_put_13 ?_
                    refine lv_topi (fun y184 ey184 => ?_)
                    have iy184 : 0 ≤ y184.toInt ∧ y184.toInt ≤ 255 := ti_and (by decide) ey184
                    refine lv_istore_n (lv' := [(3, .int y184), (2, .int 0), (0, .ref (ad 2)), (1, .int a0)]) hx hb dX10_put_14 rfl hl (by decide) rfl (fun ls hl => ?_)
                    refine lv_iload_n hx hb dX10_put_15 rfl (lv_at hl 0 rfl) ?_
                    refine lv_if_eq (tgt := 51) hx hb dX10_put_16 (by decide) (fun c185 => ?_) (fun c185 => ?_)
                    · --16 taken
                      have t186 : y184.toInt = 0 := ti_eq c185
                      have i187 : 0 ≤ y184.toInt ∧ y184.toInt ≤ 0 := iv_eqi t186 iy184 (il_ 0) (by decide)
                      refine lv_iinc (v := -8) (lv' := [(2, .int (-8)), (3, .int y184), (0, .ref (ad 2)), (1, .int a0)]) hx hb dX10_put_51 hl (k := 1) rfl (by decide) (by decide) rfl (fun ls hl => ?_)
                      refine lv_goto (tgt := 3) hx hb dX10_put_54 (by decide) ?_
                      refine lv_iload_n hx hb dX10_put_3 rfl (lv_at hl 0 rfl) ?_
                      refine lv_if_lt (tgt := 57) hx hb dX10_put_4 (by decide) (fun c188 => ?_) (fun c188 => ?_)
                      · --4 taken
                        rw [hQ]
                        exact W.vret hx hb hr (fun t ht hW => ⟨⟨E147, rfl, ⟨hI, hKp, trivial⟩, by show va_P (dC, dI) vwCl (WL (LC cf) ad E147) t.heap; rw [ht]; exact hP⟩, hS.F ht⟩) hS.2.2 dX10_put_57
                      · --4 not
                        exact absurd c188 (by decide)
                    · --16 not
                      have t189 : ¬ y184.toInt = 0 := ti_ne c185
                      have i190 : 1 ≤ y184.toInt ∧ y184.toInt ≤ 255 := iv_ne_l t189 iy184 (il_ 0)
                      refine lv_aload_n hx hb dX10_put_19 rfl (lv_at hl 2 rfl) ?_
                      refine th_getL (ci := 11) (C := RX10) (T := TX10) (N := 10) (v := .int y146) hx hb hts hinX10 hown hK hP hI 2 (mF 2 rfl) rfl rfl 1 (Nat.le_of_ble_eq_true rfl) (hts _ (vA_in _ _ (in_8 _ (List.mem_of_getElem? (i := 20) rfl)))) (fun _ h9 => h9) pw148.1 dX10_put_20 ?_
                      refine lv_aload_n hx hb dX10_put_23 rfl (lv_at hl 2 rfl) ?_
                      refine th_getL (ci := 11) (C := RX10) (T := TX10) (N := 10) (v := .ref (ad 21)) hx hb hts hinX10 hown hK hP hI 2 (mF 2 rfl) rfl rfl 0 (Nat.le_of_ble_eq_true rfl) (hts _ (vA_in _ _ (in_8 _ (List.mem_of_getElem? (i := 17) rfl)))) (fun _ h9 => h9) (hI.fr 2 (mF 2 rfl) rfl (Nat.le_of_ble_eq_true rfl) 21 rfl) dX10_put_24 ?_
                      refine va_alen (v := 200) hx hb hK hP (posL 21 (LC cf)) 0 (hI.ar 21 (mF 21 rfl) rfl) rfl rfl dX10_put_27 ?_
                      refine lv_icmp_ge (tgt := 51) hx hb dX10_put_28 (by decide) (fun c191 => ?_) (fun c191 => ?_)
                      · --28 taken
                        have t192 : (200 : Int) ≤ y146.toInt := ti_le c191
                        refine lv_iinc (v := -8) (lv' := [(2, .int (-8)), (3, .int y184), (0, .ref (ad 2)), (1, .int a0)]) hx hb dX10_put_51 hl (k := 1) rfl (by decide) (by decide) rfl (fun ls hl => ?_)
                        refine lv_goto (tgt := 3) hx hb dX10_put_54 (by decide) ?_
                        refine lv_iload_n hx hb dX10_put_3 rfl (lv_at hl 0 rfl) ?_
                        refine lv_if_lt (tgt := 57) hx hb dX10_put_4 (by decide) (fun c193 => ?_) (fun c193 => ?_)
                        · --4 taken
                          rw [hQ]
                          exact W.vret hx hb hr (fun t ht hW => ⟨⟨E147, rfl, ⟨hI, hKp, trivial⟩, by show va_P (dC, dI) vwCl (WL (LC cf) ad E147) t.heap; rw [ht]; exact hP⟩, hS.F ht⟩) hS.2.2 dX10_put_57
                        · --4 not
                          exact absurd c193 (by decide)
                      · --28 not
                        have t194 : y146.toInt < 200 := ti_nle c191
                        have i195 : 200 ≤ y146.toInt ∧ y146.toInt ≤ 199 := iv_lt_l t194 i181 (il_ 200) (by decide)
                        exact iv_no i195 (by decide)
                · --28 not
                  have t196 : y146.toInt < 200 := ti_nle c179
                  have i197 : 1 ≤ y146.toInt ∧ y146.toInt ≤ 199 := iv_lt_l t196 iy146 (il_ 200) (by decide)
                  refine lv_aload_n hx hb dX10_put_31 rfl (lv_at hl 2 rfl) ?_
                  refine th_getL (ci := 11) (C := RX10) (T := TX10) (N := 10) (v := .ref (ad 21)) hx hb hts hinX10 hown hK hP hI 2 (mF 2 rfl) rfl rfl 0 (Nat.le_of_ble_eq_true rfl) (hts _ (vA_in _ _ (in_8 _ (List.mem_of_getElem? (i := 17) rfl)))) (fun _ h9 => h9) (hI.fr 2 (mF 2 rfl) rfl (Nat.le_of_ble_eq_true rfl) 21 rfl) dX10_put_32 ?_
                  refine lv_aload_n hx hb dX10_put_35 rfl (lv_at hl 2 rfl) ?_
                  refine th_getL (ci := 11) (C := RX10) (T := TX10) (N := 10) (v := .int y146) hx hb hts hinX10 hown hK hP hI 2 (mF 2 rfl) rfl rfl 1 (Nat.le_of_ble_eq_true rfl) (hts _ (vA_in _ _ (in_8 _ (List.mem_of_getElem? (i := 20) rfl)))) (fun _ h9 => h9) pw148.1 dX10_put_36 ?_
                  refine lv_iload_n hx hb dX10_put_39 rfl (lv_at hl 0 rfl) ?_
                  have n198 : vp_in y146 200 := (iv_in (n := 200) i197 (by decide))
                  refine th_iastL hx hb hK hP (WL_D hD) hS hI 21 (mF 21 rfl) rfl rfl n198 (okI rfl (iv_w i178 (by decide))) dX10_put_40 (fun H locs E199 pw200 hI hP hS => ?_)
                  have hKp := hKp.pw pw200 rfl
                  refine lv_aload_n hx hb dX10_put_41 rfl (lv_at hl 2 rfl) ?_
                  refine lv_dup hx hb dX10_put_42 rfl ?_
                  refine th_getL (ci := 11) (C := RX10) (T := TX10) (N := 10) (v := .int y146) hx hb hts hinX10 hown hK hP hI 2 (mF 2 rfl) rfl rfl 1 (Nat.le_of_ble_eq_true rfl) (hts _ (vA_in _ _ (in_8 _ (List.mem_of_getElem? (i := 20) rfl)))) (fun _ h9 => h9) ((pw200.2 2 1 (fun q9 => absurd q9.1 (Nat.ne_of_beq_eq_false rfl))).trans pw148.1) dX10_put_43 ?_
                  refine lv_iconst (v := 1) hx hb dX10_put_46 (by decide) ?_
                  refine lv_iadd hx hb dX10_put_47 ?_
                  refine lv_topi (fun y201 ey201 => ?_)
                  obtain ⟨ty201, iy201⟩ := ti_add (e := 2) (f := 200) i197 ln_1 ey201 (by decide)
                  have ty201 : y201.toInt = y146.toInt + 1 := ty201
                  have iy201 : 2 ≤ y201.toInt ∧ y201.toInt ≤ 200 := iy201
                  refine th_putL (ci := 11) (C := RX10) (T := TX10) (N := 10) (v := .int y201) (ty := .int) hx hb hts hinX10 tyX10 tyX10_ok nmX10 hown hK hP (WL_D hD) hS hI 2 (mF 2 rfl) rfl rfl 1 (Nat.le_of_ble_eq_true rfl) (hts _ (vA_in _ _ (in_8 _ (List.mem_of_getElem? (i := 20) rfl)))) (fun _ h9 => h9) rfl (by decide +kernel) rfl rfl (okI rfl (iv_w iy201 (by decide))) dX10_put_48 (fun H locs E202 pw203 hI hP hS => ?_)
                  have hKp := hKp.pw pw203 rfl
                  refine lv_iinc (v := 0) (lv' := [(2, .int 0), (3, .int y151), (0, .ref (ad 2)), (1, .int a0)]) hx hb dX10_put_51 hl (k := 1) rfl (by decide) (by decide) rfl (fun ls hl => ?_)
                  refine lv_goto (tgt := 3) hx hb dX10_put_54 (by decide) ?_
                  refine lv_iload_n hx hb dX10_put_3 rfl (lv_at hl 0 rfl) ?_
                  refine lv_if_lt (tgt := 57) hx hb dX10_put_4 (by decide) (fun c204 => ?_) (fun c204 => ?_)
                  · --4 taken
                    exact absurd c204 (by decide)
                  · --4 not
                    refine lv_iload_n hx hb dX10_put_7 rfl (lv_at hl 3 rfl) ?_
                    refine lv_iload_n hx hb dX10_put_8 rfl (lv_at hl 0 rfl) ?_
                    refine lv_iushr hx hb dX10_put_9 rfl ?_
                    refine lv_topi (fun y205 ey205 => ?_)
                    refine lv_sipush (v := 255) hx hb dX10_put_10 (by decide) ?_
                    refine lv_iand hx hb dX10_put_13 ?_
                    refine lv_topi (fun y206 ey206 => ?_)
                    have iy206 : 0 ≤ y206.toInt ∧ y206.toInt ≤ 255 := ti_and (by decide) ey206
                    refine lv_istore_n (lv' := [(3, .int y206), (2, .int 0), (0, .ref (ad 2)), (1, .int a0)]) hx hb dX10_put_14 rfl hl (by decide) rfl (fun ls hl => ?_)
                    refine lv_iload_n hx hb dX10_put_15 rfl (lv_at hl 0 rfl) ?_
                    refine lv_if_eq (tgt := 51) hx hb dX10_put_16 (by decide) (fun c207 => ?_) (fun c207 => ?_)
                    · --16 taken
                      have t208 : y206.toInt = 0 := ti_eq c207
                      have i209 : 0 ≤ y206.toInt ∧ y206.toInt ≤ 0 := iv_eqi t208 iy206 (il_ 0) (by decide)
                      refine lv_iinc (v := -8) (lv' := [(2, .int (-8)), (3, .int y206), (0, .ref (ad 2)), (1, .int a0)]) hx hb dX10_put_51 hl (k := 1) rfl (by decide) (by decide) rfl (fun ls hl => ?_)
                      refine lv_goto (tgt := 3) hx hb dX10_put_54 (by decide) ?_
                      refine lv_iload_n hx hb dX10_put_3 rfl (lv_at hl 0 rfl) ?_
                      refine lv_if_lt (tgt := 57) hx hb dX10_put_4 (by decide) (fun c210 => ?_) (fun c210 => ?_)
                      · --4 taken
                        rw [hQ]
                        exact W.vret hx hb hr (fun t ht hW => ⟨⟨E202, rfl, ⟨hI, hKp, trivial⟩, by show va_P (dC, dI) vwCl (WL (LC cf) ad E202) t.heap; rw [ht]; exact hP⟩, hS.F ht⟩) hS.2.2 dX10_put_57
                      · --4 not
                        exact absurd c210 (by decide)
                    · --16 not
                      have t211 : ¬ y206.toInt = 0 := ti_ne c207
                      have i212 : 1 ≤ y206.toInt ∧ y206.toInt ≤ 255 := iv_ne_l t211 iy206 (il_ 0)
                      refine lv_aload_n hx hb dX10_put_19 rfl (lv_at hl 2 rfl) ?_
                      refine th_getL (ci := 11) (C := RX10) (T := TX10) (N := 10) (v := .int y201) hx hb hts hinX10 hown hK hP hI 2 (mF 2 rfl) rfl rfl 1 (Nat.le_of_ble_eq_true rfl) (hts _ (vA_in _ _ (in_8 _ (List.mem_of_getElem? (i := 20) rfl)))) (fun _ h9 => h9) pw203.1 dX10_put_20 ?_
                      refine lv_aload_n hx hb dX10_put_23 rfl (lv_at hl 2 rfl) ?_
                      refine th_getL (ci := 11) (C := RX10) (T := TX10) (N := 10) (v := .ref (ad 21)) hx hb hts hinX10 hown hK hP hI 2 (mF 2 rfl) rfl rfl 0 (Nat.le_of_ble_eq_true rfl) (hts _ (vA_in _ _ (in_8 _ (List.mem_of_getElem? (i := 17) rfl)))) (fun _ h9 => h9) (hI.fr 2 (mF 2 rfl) rfl (Nat.le_of_ble_eq_true rfl) 21 rfl) dX10_put_24 ?_
                      refine va_alen (v := 200) hx hb hK hP (posL 21 (LC cf)) 0 (hI.ar 21 (mF 21 rfl) rfl) rfl rfl dX10_put_27 ?_
                      refine lv_icmp_ge (tgt := 51) hx hb dX10_put_28 (by decide) (fun c213 => ?_) (fun c213 => ?_)
                      · --28 taken
                        have t214 : (200 : Int) ≤ y201.toInt := ti_le c213
                        have i215 : 200 ≤ y201.toInt ∧ y201.toInt ≤ 200 := iv_le_r t214 (il_ 200) iy201 (by decide)
                        refine lv_iinc (v := -8) (lv' := [(2, .int (-8)), (3, .int y206), (0, .ref (ad 2)), (1, .int a0)]) hx hb dX10_put_51 hl (k := 1) rfl (by decide) (by decide) rfl (fun ls hl => ?_)
                        refine lv_goto (tgt := 3) hx hb dX10_put_54 (by decide) ?_
                        refine lv_iload_n hx hb dX10_put_3 rfl (lv_at hl 0 rfl) ?_
                        refine lv_if_lt (tgt := 57) hx hb dX10_put_4 (by decide) (fun c216 => ?_) (fun c216 => ?_)
                        · --4 taken
                          rw [hQ]
                          exact W.vret hx hb hr (fun t ht hW => ⟨⟨E202, rfl, ⟨hI, hKp, trivial⟩, by show va_P (dC, dI) vwCl (WL (LC cf) ad E202) t.heap; rw [ht]; exact hP⟩, hS.F ht⟩) hS.2.2 dX10_put_57
                        · --4 not
                          exact absurd c216 (by decide)
                      · --28 not
                        have t217 : y201.toInt < 200 := ti_nle c213
                        have i218 : 2 ≤ y201.toInt ∧ y201.toInt ≤ 199 := iv_lt_l t217 iy201 (il_ 200) (by decide)
                        refine lv_aload_n hx hb dX10_put_31 rfl (lv_at hl 2 rfl) ?_
                        refine th_getL (ci := 11) (C := RX10) (T := TX10) (N := 10) (v := .ref (ad 21)) hx hb hts hinX10 hown hK hP hI 2 (mF 2 rfl) rfl rfl 0 (Nat.le_of_ble_eq_true rfl) (hts _ (vA_in _ _ (in_8 _ (List.mem_of_getElem? (i := 17) rfl)))) (fun _ h9 => h9) (hI.fr 2 (mF 2 rfl) rfl (Nat.le_of_ble_eq_true rfl) 21 rfl) dX10_put_32 ?_
                        refine lv_aload_n hx hb dX10_put_35 rfl (lv_at hl 2 rfl) ?_
                        refine th_getL (ci := 11) (C := RX10) (T := TX10) (N := 10) (v := .int y201) hx hb hts hinX10 hown hK hP hI 2 (mF 2 rfl) rfl rfl 1 (Nat.le_of_ble_eq_true rfl) (hts _ (vA_in _ _ (in_8 _ (List.mem_of_getElem? (i := 20) rfl)))) (fun _ h9 => h9) pw203.1 dX10_put_36 ?_
                        refine lv_iload_n hx hb dX10_put_39 rfl (lv_at hl 0 rfl) ?_
                        have n219 : vp_in y201 200 := (iv_in (n := 200) i218 (by decide))
                        refine th_iastL hx hb hK hP (WL_D hD) hS hI 21 (mF 21 rfl) rfl rfl n219 (okI rfl (iv_w i212 (by decide))) dX10_put_40 (fun H locs E220 pw221 hI hP hS => ?_)
                        have hKp := hKp.pw pw221 rfl
                        refine lv_aload_n hx hb dX10_put_41 rfl (lv_at hl 2 rfl) ?_
                        refine lv_dup hx hb dX10_put_42 rfl ?_
                        refine th_getL (ci := 11) (C := RX10) (T := TX10) (N := 10) (v := .int y201) hx hb hts hinX10 hown hK hP hI 2 (mF 2 rfl) rfl rfl 1 (Nat.le_of_ble_eq_true rfl) (hts _ (vA_in _ _ (in_8 _ (List.mem_of_getElem? (i := 20) rfl)))) (fun _ h9 => h9) ((pw221.2 2 1 (fun q9 => absurd q9.1 (Nat.ne_of_beq_eq_false rfl))).trans pw203.1) dX10_put_43 ?_
                        refine lv_iconst (v := 1) hx hb dX10_put_46 (by decide) ?_
                        refine lv_iadd hx hb dX10_put_47 ?_
                        refine lv_topi (fun y222 ey222 => ?_)
                        obtain ⟨ty222, iy222⟩ := ti_add (e := 3) (f := 200) i218 ln_1 ey222 (by decide)
                        have ty222 : y222.toInt = y201.toInt + 1 := ty222
                        have iy222 : 3 ≤ y222.toInt ∧ y222.toInt ≤ 200 := iy222
                        refine th_putL (ci := 11) (C := RX10) (T := TX10) (N := 10) (v := .int y222) (ty := .int) hx hb hts hinX10 tyX10 tyX10_ok nmX10 hown hK hP (WL_D hD) hS hI 2 (mF 2 rfl) rfl rfl 1 (Nat.le_of_ble_eq_true rfl) (hts _ (vA_in _ _ (in_8 _ (List.mem_of_getElem? (i := 20) rfl)))) (fun _ h9 => h9) rfl (by decide +kernel) rfl rfl (okI rfl (iv_w iy222 (by decide))) dX10_put_48 (fun H locs E223 pw224 hI hP hS => ?_)
                        have hKp := hKp.pw pw224 rfl
                        refine lv_iinc (v := -8) (lv' := [(2, .int (-8)), (3, .int y206), (0, .ref (ad 2)), (1, .int a0)]) hx hb dX10_put_51 hl (k := 1) rfl (by decide) (by decide) rfl (fun ls hl => ?_)
                        refine lv_goto (tgt := 3) hx hb dX10_put_54 (by decide) ?_
                        refine lv_iload_n hx hb dX10_put_3 rfl (lv_at hl 0 rfl) ?_
                        refine lv_if_lt (tgt := 57) hx hb dX10_put_4 (by decide) (fun c225 => ?_) (fun c225 => ?_)
                        · --4 taken
                          rw [hQ]
                          exact W.vret hx hb hr (fun t ht hW => ⟨⟨E223, rfl, ⟨hI, hKp, trivial⟩, by show va_P (dC, dI) vwCl (WL (LC cf) ad E223) t.heap; rw [ht]; exact hP⟩, hS.F ht⟩) hS.2.2 dX10_put_57
                        · --4 not
                          exact absurd c225 (by decide)
    · --16 not
      have t226 : ¬ y3.toInt = 0 := ti_ne c4
      have i227 : 1 ≤ y3.toInt ∧ y3.toInt ≤ 255 := iv_ne_l t226 iy3 (il_ 0)
      refine lv_aload_n hx hb dX10_put_19 rfl (lv_at hl 2 rfl) ?_
      obtain ⟨y228, ey228⟩ : ∃ y, xi (E 2) 1 = y := ⟨_, rfl⟩
      have fy228 : xv (E 2) 1 = .int y228 := (hI.fi 2 (mF 2 rfl) rfl (Nat.le_of_ble_eq_true rfl) rfl).trans (congrArg Value.int ey228)
      have i229 : 0 ≤ y228.toInt ∧ y228.toInt ≤ 200 := by rw [← ey228]; exact hI.iv 2 (mF 2 rfl) rfl (Nat.le_of_ble_eq_true rfl) rfl
      refine th_getL (ci := 11) (C := RX10) (T := TX10) (N := 10) (v := .int y228) hx hb hts hinX10 hown hK hP hI 2 (mF 2 rfl) rfl rfl 1 (Nat.le_of_ble_eq_true rfl) (hts _ (vA_in _ _ (in_8 _ (List.mem_of_getElem? (i := 20) rfl)))) (fun _ h9 => h9) fy228 dX10_put_20 ?_
      refine lv_aload_n hx hb dX10_put_23 rfl (lv_at hl 2 rfl) ?_
      refine th_getL (ci := 11) (C := RX10) (T := TX10) (N := 10) (v := .ref (ad 21)) hx hb hts hinX10 hown hK hP hI 2 (mF 2 rfl) rfl rfl 0 (Nat.le_of_ble_eq_true rfl) (hts _ (vA_in _ _ (in_8 _ (List.mem_of_getElem? (i := 17) rfl)))) (fun _ h9 => h9) (hI.fr 2 (mF 2 rfl) rfl (Nat.le_of_ble_eq_true rfl) 21 rfl) dX10_put_24 ?_
      refine va_alen (v := 200) hx hb hK hP (posL 21 (LC cf)) 0 (hI.ar 21 (mF 21 rfl) rfl) rfl rfl dX10_put_27 ?_
      refine lv_icmp_ge (tgt := 51) hx hb dX10_put_28 (by decide) (fun c230 => ?_) (fun c230 => ?_)
      · --28 taken
        have t231 : (200 : Int) ≤ y228.toInt := ti_le c230
        have i232 : 200 ≤ y228.toInt ∧ y228.toInt ≤ 200 := iv_le_r t231 (il_ 200) i229 (by decide)
        refine lv_iinc (v := 16) (lv' := [(2, .int 16), (3, .int y3), (0, .ref (ad 2)), (1, .int a0)]) hx hb dX10_put_51 hl (k := 1) rfl (by decide) (by decide) rfl (fun ls hl => ?_)
        refine lv_goto (tgt := 3) hx hb dX10_put_54 (by decide) ?_
        refine lv_iload_n hx hb dX10_put_3 rfl (lv_at hl 0 rfl) ?_
        refine lv_if_lt (tgt := 57) hx hb dX10_put_4 (by decide) (fun c233 => ?_) (fun c233 => ?_)
        · --4 taken
          exact absurd c233 (by decide)
        · --4 not
          refine lv_iload_n hx hb dX10_put_7 rfl (lv_at hl 3 rfl) ?_
          refine lv_iload_n hx hb dX10_put_8 rfl (lv_at hl 0 rfl) ?_
          refine lv_iushr hx hb dX10_put_9 rfl ?_
          refine lv_topi (fun y234 ey234 => ?_)
          refine lv_sipush (v := 255) hx hb dX10_put_10 (by decide) ?_
          refine lv_iand hx hb dX10_put_13 ?_
          refine lv_topi (fun y235 ey235 => ?_)
          have iy235 : 0 ≤ y235.toInt ∧ y235.toInt ≤ 255 := ti_and (by decide) ey235
          refine lv_istore_n (lv' := [(3, .int y235), (2, .int 16), (0, .ref (ad 2)), (1, .int a0)]) hx hb dX10_put_14 rfl hl (by decide) rfl (fun ls hl => ?_)
          refine lv_iload_n hx hb dX10_put_15 rfl (lv_at hl 0 rfl) ?_
          refine lv_if_eq (tgt := 51) hx hb dX10_put_16 (by decide) (fun c236 => ?_) (fun c236 => ?_)
          · --16 taken
            have t237 : y235.toInt = 0 := ti_eq c236
            have i238 : 0 ≤ y235.toInt ∧ y235.toInt ≤ 0 := iv_eqi t237 iy235 (il_ 0) (by decide)
            refine lv_iinc (v := 8) (lv' := [(2, .int 8), (3, .int y235), (0, .ref (ad 2)), (1, .int a0)]) hx hb dX10_put_51 hl (k := 1) rfl (by decide) (by decide) rfl (fun ls hl => ?_)
            refine lv_goto (tgt := 3) hx hb dX10_put_54 (by decide) ?_
            refine lv_iload_n hx hb dX10_put_3 rfl (lv_at hl 0 rfl) ?_
            refine lv_if_lt (tgt := 57) hx hb dX10_put_4 (by decide) (fun c239 => ?_) (fun c239 => ?_)
            · --4 taken
              exact absurd c239 (by decide)
            · --4 not
              refine lv_iload_n hx hb dX10_put_7 rfl (lv_at hl 3 rfl) ?_
              refine lv_iload_n hx hb dX10_put_8 rfl (lv_at hl 0 rfl) ?_
              refine lv_iushr hx hb dX10_put_9 rfl ?_
              refine lv_topi (fun y240 ey240 => ?_)
              refine lv_sipush (v := 255) hx hb dX10_put_10 (by decide) ?_
              refine lv_iand hx hb dX10_put_13 ?_
              refine lv_topi (fun y241 ey241 => ?_)
              have iy241 : 0 ≤ y241.toInt ∧ y241.toInt ≤ 255 := ti_and (by decide) ey241
              refine lv_istore_n (lv' := [(3, .int y241), (2, .int 8), (0, .ref (ad 2)), (1, .int a0)]) hx hb dX10_put_14 rfl hl (by decide) rfl (fun ls hl => ?_)
              refine lv_iload_n hx hb dX10_put_15 rfl (lv_at hl 0 rfl) ?_
              refine lv_if_eq (tgt := 51) hx hb dX10_put_16 (by decide) (fun c242 => ?_) (fun c242 => ?_)
              · --16 taken
                have t243 : y241.toInt = 0 := ti_eq c242
                have i244 : 0 ≤ y241.toInt ∧ y241.toInt ≤ 0 := iv_eqi t243 iy241 (il_ 0) (by decide)
                refine lv_iinc (v := 0) (lv' := [(2, .int 0), (3, .int y241), (0, .ref (ad 2)), (1, .int a0)]) hx hb dX10_put_51 hl (k := 1) rfl (by decide) (by decide) rfl (fun ls hl => ?_)
                refine lv_goto (tgt := 3) hx hb dX10_put_54 (by decide) ?_
                refine lv_iload_n hx hb dX10_put_3 rfl (lv_at hl 0 rfl) ?_
                refine lv_if_lt (tgt := 57) hx hb dX10_put_4 (by decide) (fun c245 => ?_) (fun c245 => ?_)
                · --4 taken
                  exact absurd c245 (by decide)
                · --4 not
                  refine lv_iload_n hx hb dX10_put_7 rfl (lv_at hl 3 rfl) ?_
                  refine lv_iload_n hx hb dX10_put_8 rfl (lv_at hl 0 rfl) ?_
                  refine lv_iushr hx hb dX10_put_9 rfl ?_
                  refine lv_topi (fun y246 ey246 => ?_)
                  refine lv_sipush (v := 255) hx hb dX10_put_10 (by decide) ?_
                  refine lv_iand hx hb dX10_put_13 ?_
                  refine lv_topi (fun y247 ey247 => ?_)
                  have iy247 : 0 ≤ y247.toInt ∧ y247.toInt ≤ 255 := ti_and (by decide) ey247
                  refine lv_istore_n (lv' := [(3, .int y247), (2, .int 0), (0, .ref (ad 2)), (1, .int a0)]) hx hb dX10_put_14 rfl hl (by decide) rfl (fun ls hl => ?_)
                  refine lv_iload_n hx hb dX10_put_15 rfl (lv_at hl 0 rfl) ?_
                  refine lv_if_eq (tgt := 51) hx hb dX10_put_16 (by decide) (fun c248 => ?_) (fun c248 => ?_)
                  · --16 taken
                    have t249 : y247.toInt = 0 := ti_eq c248
                    have i250 : 0 ≤ y247.toInt ∧ y247.toInt ≤ 0 := iv_eqi t249 iy247 (il_ 0) (by decide)
                    refine lv_iinc (v := -8) (lv' := [(2, .int (-8)), (3, .int y247), (0, .ref (ad 2)), (1, .int a0)]) hx hb dX10_put_51 hl (k := 1) rfl (by decide) (by decide) rfl (fun ls hl => ?_)
                    refine lv_goto (tgt := 3) hx hb dX10_put_54 (by decide) ?_
                    refine lv_iload_n hx hb dX10_put_3 rfl (lv_at hl 0 rfl) ?_
                    refine lv_if_lt (tgt := 57) hx hb dX10_put_4 (by decide) (fun c251 => ?_) (fun c251 => ?_)
                    · --4 taken
                      rw [hQ]
                      exact W.vret hx hb hr (fun t ht hW => ⟨⟨E, rfl, ⟨hI, hKp, trivial⟩, by show va_P (dC, dI) vwCl (WL (LC cf) ad E) t.heap; rw [ht]; exact hP⟩, hS.F ht⟩) hS.2.2 dX10_put_57
                    · --4 not
                      exact absurd c251 (by decide)
                  · --16 not
                    have t252 : ¬ y247.toInt = 0 := ti_ne c248
                    have i253 : 1 ≤ y247.toInt ∧ y247.toInt ≤ 255 := iv_ne_l t252 iy247 (il_ 0)
                    refine lv_aload_n hx hb dX10_put_19 rfl (lv_at hl 2 rfl) ?_
                    refine th_getL (ci := 11) (C := RX10) (T := TX10) (N := 10) (v := .int y228) hx hb hts hinX10 hown hK hP hI 2 (mF 2 rfl) rfl rfl 1 (Nat.le_of_ble_eq_true rfl) (hts _ (vA_in _ _ (in_8 _ (List.mem_of_getElem? (i := 20) rfl)))) (fun _ h9 => h9) fy228 dX10_put_20 ?_
                    refine lv_aload_n hx hb dX10_put_23 rfl (lv_at hl 2 rfl) ?_
                    refine th_getL (ci := 11) (C := RX10) (T := TX10) (N := 10) (v := .ref (ad 21)) hx hb hts hinX10 hown hK hP hI 2 (mF 2 rfl) rfl rfl 0 (Nat.le_of_ble_eq_true rfl) (hts _ (vA_in _ _ (in_8 _ (List.mem_of_getElem? (i := 17) rfl)))) (fun _ h9 => h9) (hI.fr 2 (mF 2 rfl) rfl (Nat.le_of_ble_eq_true rfl) 21 rfl) dX10_put_24 ?_
                    refine va_alen (v := 200) hx hb hK hP (posL 21 (LC cf)) 0 (hI.ar 21 (mF 21 rfl) rfl) rfl rfl dX10_put_27 ?_
                    refine lv_icmp_ge (tgt := 51) hx hb dX10_put_28 (by decide) (fun c254 => ?_) (fun c254 => ?_)
                    · --28 taken
                      have t255 : (200 : Int) ≤ y228.toInt := ti_le c254
                      refine lv_iinc (v := -8) (lv' := [(2, .int (-8)), (3, .int y247), (0, .ref (ad 2)), (1, .int a0)]) hx hb dX10_put_51 hl (k := 1) rfl (by decide) (by decide) rfl (fun ls hl => ?_)
                      refine lv_goto (tgt := 3) hx hb dX10_put_54 (by decide) ?_
                      refine lv_iload_n hx hb dX10_put_3 rfl (lv_at hl 0 rfl) ?_
                      refine lv_if_lt (tgt := 57) hx hb dX10_put_4 (by decide) (fun c256 => ?_) (fun c256 => ?_)
                      · --4 taken
                        rw [hQ]
                        exact W.vret hx hb hr (fun t ht hW => ⟨⟨E, rfl, ⟨hI, hKp, trivial⟩, by show va_P (dC, dI) vwCl (WL (LC cf) ad E) t.heap; rw [ht]; exact hP⟩, hS.F ht⟩) hS.2.2 dX10_put_57
                      · --4 not
                        exact absurd c256 (by decide)
                    · --28 not
                      have t257 : y228.toInt < 200 := ti_nle c254
                      have i258 : 200 ≤ y228.toInt ∧ y228.toInt ≤ 199 := iv_lt_l t257 i232 (il_ 200) (by decide)
                      exact iv_no i258 (by decide)
              · --16 not
                have t259 : ¬ y241.toInt = 0 := ti_ne c242
                have i260 : 1 ≤ y241.toInt ∧ y241.toInt ≤ 255 := iv_ne_l t259 iy241 (il_ 0)
                refine lv_aload_n hx hb dX10_put_19 rfl (lv_at hl 2 rfl) ?_
                refine th_getL (ci := 11) (C := RX10) (T := TX10) (N := 10) (v := .int y228) hx hb hts hinX10 hown hK hP hI 2 (mF 2 rfl) rfl rfl 1 (Nat.le_of_ble_eq_true rfl) (hts _ (vA_in _ _ (in_8 _ (List.mem_of_getElem? (i := 20) rfl)))) (fun _ h9 => h9) fy228 dX10_put_20 ?_
                refine lv_aload_n hx hb dX10_put_23 rfl (lv_at hl 2 rfl) ?_
                refine th_getL (ci := 11) (C := RX10) (T := TX10) (N := 10) (v := .ref (ad 21)) hx hb hts hinX10 hown hK hP hI 2 (mF 2 rfl) rfl rfl 0 (Nat.le_of_ble_eq_true rfl) (hts _ (vA_in _ _ (in_8 _ (List.mem_of_getElem? (i := 17) rfl)))) (fun _ h9 => h9) (hI.fr 2 (mF 2 rfl) rfl (Nat.le_of_ble_eq_true rfl) 21 rfl) dX10_put_24 ?_
                refine va_alen (v := 200) hx hb hK hP (posL 21 (LC cf)) 0 (hI.ar 21 (mF 21 rfl) rfl) rfl rfl dX10_put_27 ?_
                refine lv_icmp_ge (tgt := 51) hx hb dX10_put_28 (by decide) (fun c261 => ?_) (fun c261 => ?_)
                · --28 taken
                  have t262 : (200 : Int) ≤ y228.toInt := ti_le c261
                  refine lv_iinc (v := 0) (lv' := [(2, .int 0), (3, .int y241), (0, .ref (ad 2)), (1, .int a0)]) hx hb dX10_put_51 hl (k := 1) rfl (by decide) (by decide) rfl (fun ls hl => ?_)
                  refine lv_goto (tgt := 3) hx hb dX10_put_54 (by decide) ?_
                  refine lv_iload_n hx hb dX10_put_3 rfl (lv_at hl 0 rfl) ?_
                  refine lv_if_lt (tgt := 57) hx hb dX10_put_4 (by decide) (fun c263 => ?_) (fun c263 => ?_)
                  · --4 taken
                    exact absurd c263 (by decide)
                  · --4 not
                    refine lv_iload_n hx hb dX10_put_7 rfl (lv_at hl 3 rfl) ?_
                    refine lv_iload_n hx hb dX10_put_8 rfl (lv_at hl 0 rfl) ?_
                    refine lv_iushr hx hb dX10_put_9 rfl ?_
                    refine lv_topi (fun y264 ey264 => ?_)
                    refine lv_sipush (v := 255) hx hb dX10_put_10 (by decide) ?_
                    refine lv_iand hx hb dX10_put_13 ?_
                    refine lv_topi (fun y265 ey265 => ?_)
                    have iy265 : 0 ≤ y265.toInt ∧ y265.toInt ≤ 255 := ti_and (by decide) ey265
                    refine lv_istore_n (lv' := [(3, .int y265), (2, .int 0), (0, .ref (ad 2)), (1, .int a0)]) hx hb dX10_put_14 rfl hl (by decide) rfl (fun ls hl => ?_)
                    refine lv_iload_n hx hb dX10_put_15 rfl (lv_at hl 0 rfl) ?_
                    refine lv_if_eq (tgt := 51) hx hb dX10_put_16 (by decide) (fun c266 => ?_) (fun c266 => ?_)
                    · --16 taken
                      have t267 : y265.toInt = 0 := ti_eq c266
                      have i268 : 0 ≤ y265.toInt ∧ y265.toInt ≤ 0 := iv_eqi t267 iy265 (il_ 0) (by decide)
                      refine lv_iinc (v := -8) (lv' := [(2, .int (-8)), (3, .int y265), (0, .ref (ad 2)), (1, .int a0)]) hx hb dX10_put_51 hl (k := 1) rfl (by decide) (by decide) rfl (fun ls hl => ?_)
                      refine lv_goto (tgt := 3) hx hb dX10_put_54 (by decide) ?_
                      refine lv_iload_n hx hb dX10_put_3 rfl (lv_at hl 0 rfl) ?_
                      refine lv_if_lt (tgt := 57) hx hb dX10_put_4 (by decide) (fun c269 => ?_) (fun c269 => ?_)
                      · --4 taken
                        rw [hQ]
                        exact W.vret hx hb hr (fun t ht hW => ⟨⟨E, rfl, ⟨hI, hKp, trivial⟩, by show va_P (dC, dI) vwCl (WL (LC cf) ad E) t.heap; rw [ht]; exact hP⟩, hS.F ht⟩) hS.2.2 dX10_put_57
                      · --4 not
                        exact absurd c269 (by decide)
                    · --16 not
                      have t270 : ¬ y265.toInt = 0 := ti_ne c266
                      have i271 : 1 ≤ y265.toInt ∧ y265.toInt ≤ 255 := iv_ne_l t270 iy265 (il_ 0)
                      refine lv_aload_n hx hb dX10_put_19 rfl (lv_at hl 2 rfl) ?_
                      refine th_getL (ci := 11) (C := RX10) (T := TX10) (N := 10) (v := .int y228) hx hb hts hinX10 hown hK hP hI 2 (mF 2 rfl) rfl rfl 1 (Nat.le_of_ble_eq_true rfl) (hts _ (vA_in _ _ (in_8 _ (List.mem_of_getElem? (i := 20) rfl)))) (fun _ h9 => h9) fy228 dX10_put_20 ?_
                      refine lv_aload_n hx hb dX10_put_23 rfl (lv_at hl 2 rfl) ?_
                      refine th_getL (ci := 11) (C := RX10) (T := TX10) (N := 10) (v := .ref (ad 21)) hx hb hts hinX10 hown hK hP hI 2 (mF 2 rfl) rfl rfl 0 (Nat.le_of_ble_eq_true rfl) (hts _ (vA_in _ _ (in_8 _ (List.mem_of_getElem? (i := 17) rfl)))) (fun _ h9 => h9) (hI.fr 2 (mF 2 rfl) rfl (Nat.le_of_ble_eq_true rfl) 21 rfl) dX10_put_24 ?_
                      refine va_alen (v := 200) hx hb hK hP (posL 21 (LC cf)) 0 (hI.ar 21 (mF 21 rfl) rfl) rfl rfl dX10_put_27 ?_
                      refine lv_icmp_ge (tgt := 51) hx hb dX10_put_28 (by decide) (fun c272 => ?_) (fun c272 => ?_)
                      · --28 taken
                        have t273 : (200 : Int) ≤ y228.toInt := ti_le c272
                        refine lv_iinc (v := -8) (lv' := [(2, .int (-8)), (3, .int y265), (0, .ref (ad 2)), (1, .int a0)]) hx hb dX10_put_51 hl (k := 1) rfl (by decide) (by decide) rfl (fun ls hl => ?_)
                        refine lv_goto (tgt := 3) hx hb dX10_put_54 (by decide) ?_
                        refine lv_iload_n hx hb dX10_put_3 rfl (lv_at hl 0 rfl) ?_
                        refine lv_if_lt (tgt := 57) hx hb dX10_put_4 (by decide) (fun c274 => ?_) (fun c274 => ?_)
                        · --4 taken
                          rw [hQ]
                          exact W.vret hx hb hr (fun t ht hW => ⟨⟨E, rfl, ⟨hI, hKp, trivial⟩, by show va_P (dC, dI) vwCl (WL (LC cf) ad E) t.heap; rw [ht]; exact hP⟩, hS.F ht⟩) hS.2.2 dX10_put_57
                        · --4 not
                          exact absurd c274 (by decide)
                      · --28 not
                        have t275 : y228.toInt < 200 := ti_nle c272
                        have i276 : 200 ≤ y228.toInt ∧ y228.toInt ≤ 199 := iv_lt_l t275 i232 (il_ 200) (by decide)
                        exact iv_no i276 (by decide)
                · --28 not
                  have t277 : y228.toInt < 200 := ti_nle c261
                  have i278 : 200 ≤ y228.toInt ∧ y228.toInt ≤ 199 := iv_lt_l t277 i232 (il_ 200) (by decide)
                  exact iv_no i278 (by decide)
          · --16 not
            have t279 : ¬ y235.toInt = 0 := ti_ne c236
            have i280 : 1 ≤ y235.toInt ∧ y235.toInt ≤ 255 := iv_ne_l t279 iy235 (il_ 0)
            refine lv_aload_n hx hb dX10_put_19 rfl (lv_at hl 2 rfl) ?_
            refine th_getL (ci := 11) (C := RX10) (T := TX10) (N := 10) (v := .int y228) hx hb hts hinX10 hown hK hP hI 2 (mF 2 rfl) rfl rfl 1 (Nat.le_of_ble_eq_true rfl) (hts _ (vA_in _ _ (in_8 _ (List.mem_of_getElem? (i := 20) rfl)))) (fun _ h9 => h9) fy228 dX10_put_20 ?_
            refine lv_aload_n hx hb dX10_put_23 rfl (lv_at hl 2 rfl) ?_
            refine th_getL (ci := 11) (C := RX10) (T := TX10) (N := 10) (v := .ref (ad 21)) hx hb hts hinX10 hown hK hP hI 2 (mF 2 rfl) rfl rfl 0 (Nat.le_of_ble_eq_true rfl) (hts _ (vA_in _ _ (in_8 _ (List.mem_of_getElem? (i := 17) rfl)))) (fun _ h9 => h9) (hI.fr 2 (mF 2 rfl) rfl (Nat.le_of_ble_eq_true rfl) 21 rfl) dX10_put_24 ?_
            refine va_alen (v := 200) hx hb hK hP (posL 21 (LC cf)) 0 (hI.ar 21 (mF 21 rfl) rfl) rfl rfl dX10_put_27 ?_
            refine lv_icmp_ge (tgt := 51) hx hb dX10_put_28 (by decide) (fun c281 => ?_) (fun c281 => ?_)
            · --28 taken
              have t282 : (200 : Int) ≤ y228.toInt := ti_le c281
              refine lv_iinc (v := 8) (lv' := [(2, .int 8), (3, .int y235), (0, .ref (ad 2)), (1, .int a0)]) hx hb dX10_put_51 hl (k := 1) rfl (by decide) (by decide) rfl (fun ls hl => ?_)
              refine lv_goto (tgt := 3) hx hb dX10_put_54 (by decide) ?_
              refine lv_iload_n hx hb dX10_put_3 rfl (lv_at hl 0 rfl) ?_
              refine lv_if_lt (tgt := 57) hx hb dX10_put_4 (by decide) (fun c283 => ?_) (fun c283 => ?_)
              · --4 taken
                exact absurd c283 (by decide)
              · --4 not
                refine lv_iload_n hx hb dX10_put_7 rfl (lv_at hl 3 rfl) ?_
                refine lv_iload_n hx hb dX10_put_8 rfl (lv_at hl 0 rfl) ?_
                refine lv_iushr hx hb dX10_put_9 rfl ?_
                refine lv_topi (fun y284 ey284 => ?_)
                refine lv_sipush (v := 255) hx hb dX10_put_10 (by decide) ?_
                refine lv_iand hx hb dX10_put_13 ?_
                refine lv_topi (fun y285 ey285 => ?_)
                have iy285 : 0 ≤ y285.toInt ∧ y285.toInt ≤ 255 := ti_and (by decide) ey285
                refine lv_istore_n (lv' := [(3, .int y285), (2, .int 8), (0, .ref (ad 2)), (1, .int a0)]) hx hb dX10_put_14 rfl hl (by decide) rfl (fun ls hl => ?_)
                refine lv_iload_n hx hb dX10_put_15 rfl (lv_at hl 0 rfl) ?_
                refine lv_if_eq (tgt := 51) hx hb dX10_put_16 (by decide) (fun c286 => ?_) (fun c286 => ?_)
                · --16 taken
                  have t287 : y285.toInt = 0 := ti_eq c286
                  have i288 : 0 ≤ y285.toInt ∧ y285.toInt ≤ 0 := iv_eqi t287 iy285 (il_ 0) (by decide)
                  refine lv_iinc (v := 0) (lv' := [(2, .int 0), (3, .int y285), (0, .ref (ad 2)), (1, .int a0)]) hx hb dX10_put_51 hl (k := 1) rfl (by decide) (by decide) rfl (fun ls hl => ?_)
                  refine lv_goto (tgt := 3) hx hb dX10_put_54 (by decide) ?_
                  refine lv_iload_n hx hb dX10_put_3 rfl (lv_at hl 0 rfl) ?_
                  refine lv_if_lt (tgt := 57) hx hb dX10_put_4 (by decide) (fun c289 => ?_) (fun c289 => ?_)
                  · --4 taken
                    exact absurd c289 (by decide)
                  · --4 not
                    refine lv_iload_n hx hb dX10_put_7 rfl (lv_at hl 3 rfl) ?_
                    refine lv_iload_n hx hb dX10_put_8 rfl (lv_at hl 0 rfl) ?_
                    refine lv_iushr hx hb dX10_put_9 rfl ?_
                    refine lv_topi (fun y290 ey290 => ?_)
                    refine lv_sipush (v := 255) hx hb dX10_put_10 (by decide) ?_
                    refine lv_iand hx hb dX10_put_13 ?_
                    refine lv_topi (fun y291 ey291 => ?_)
                    have iy291 : 0 ≤ y291.toInt ∧ y291.toInt ≤ 255 := ti_and (by decide) ey291
                    refine lv_istore_n (lv' := [(3, .int y291), (2, .int 0), (0, .ref (ad 2)), (1, .int a0)]) hx hb dX10_put_14 rfl hl (by decide) rfl (fun ls hl => ?_)
                    refine lv_iload_n hx hb dX10_put_15 rfl (lv_at hl 0 rfl) ?_
                    refine lv_if_eq (tgt := 51) hx hb dX10_put_16 (by decide) (fun c292 => ?_) (fun c292 => ?_)
                    · --16 taken
                      have t293 : y291.toInt = 0 := ti_eq c292
                      have i294 : 0 ≤ y291.toInt ∧ y291.toInt ≤ 0 := iv_eqi t293 iy291 (il_ 0) (by decide)
                      refine lv_iinc (v := -8) (lv' := [(2, .int (-8)), (3, .int y291), (0, .ref (ad 2)), (1, .int a0)]) hx hb dX10_put_51 hl (k := 1) rfl (by decide) (by decide) rfl (fun ls hl => ?_)
                      refine lv_goto (tgt := 3) hx hb dX10_put_54 (by decide) ?_
                      refine lv_iload_n hx hb dX10_put_3 rfl (lv_at hl 0 rfl) ?_
                      refine lv_if_lt (tgt := 57) hx hb dX10_put_4 (by decide) (fun c295 => ?_) (fun c295 => ?_)
                      · --4 taken
                        rw [hQ]
                        exact W.vret hx hb hr (fun t ht hW => ⟨⟨E, rfl, ⟨hI, hKp, trivial⟩, by show va_P (dC, dI) vwCl (WL (LC cf) ad E) t.heap; rw [ht]; exact hP⟩, hS.F ht⟩) hS.2.2 dX10_put_57
                      · --4 not
                        exact absurd c295 (by decide)
                    · --16 not
                      have t296 : ¬ y291.toInt = 0 := ti_ne c292
                      have i297 : 1 ≤ y291.toInt ∧ y291.toInt ≤ 255 := iv_ne_l t296 iy291 (il_ 0)
                      refine lv_aload_n hx hb dX10_put_19 rfl (lv_at hl 2 rfl) ?_
                      refine th_getL (ci := 11) (C := RX10) (T := TX10) (N := 10) (v := .int y228) hx hb hts hinX10 hown hK hP hI 2 (mF 2 rfl) rfl rfl 1 (Nat.le_of_ble_eq_true rfl) (hts _ (vA_in _ _ (in_8 _ (List.mem_of_getElem? (i := 20) rfl)))) (fun _ h9 => h9) fy228 dX10_put_20 ?_
                      refine lv_aload_n hx hb dX10_put_23 rfl (lv_at hl 2 rfl) ?_
                      refine th_getL (ci := 11) (C := RX10) (T := TX10) (N := 10) (v := .ref (ad 21)) hx hb hts hinX10 hown hK hP hI 2 (mF 2 rfl) rfl rfl 0 (Nat.le_of_ble_eq_true rfl) (hts _ (vA_in _ _ (in_8 _ (List.mem_of_getElem? (i := 17) rfl)))) (fun _ h9 => h9) (hI.fr 2 (mF 2 rfl) rfl (Nat.le_of_ble_eq_true rfl) 21 rfl) dX10_put_24 ?_
                      refine va_alen (v := 200) hx hb hK hP (posL 21 (LC cf)) 0 (hI.ar 21 (mF 21 rfl) rfl) rfl rfl dX10_put_27 ?_
                      refine lv_icmp_ge (tgt := 51) hx hb dX10_put_28 (by decide) (fun c298 => ?_) (fun c298 => ?_)
                      · --28 taken
                        have t299 : (200 : Int) ≤ y228.toInt := ti_le c298
                        refine lv_iinc (v := -8) (lv' := [(2, .int (-8)), (3, .int y291), (0, .ref (ad 2)), (1, .int a0)]) hx hb dX10_put_51 hl (k := 1) rfl (by decide) (by decide) rfl (fun ls hl => ?_)
                        refine lv_goto (tgt := 3) hx hb dX10_put_54 (by decide) ?_
                        refine lv_iload_n hx hb dX10_put_3 rfl (lv_at hl 0 rfl) ?_
                        refine lv_if_lt (tgt := 57) hx hb dX10_put_4 (by decide) (fun c300 => ?_) (fun c300 => ?_)
                        · --4 taken
                          rw [hQ]
                          exact W.vret hx hb hr (fun t ht hW => ⟨⟨E, rfl, ⟨hI, hKp, trivial⟩, by show va_P (dC, dI) vwCl (WL (LC cf) ad E) t.heap; rw [ht]; exact hP⟩, hS.F ht⟩) hS.2.2 dX10_put_57
                        · --4 not
                          exact absurd c300 (by decide)
                      · --28 not
                        have t301 : y228.toInt < 200 := ti_nle c298
                        have i302 : 200 ≤ y228.toInt ∧ y228.toInt ≤ 199 := iv_lt_l t301 i232 (il_ 200) (by decide)
                        exact iv_no i302 (by decide)
                · --16 not
                  have t303 : ¬ y285.toInt = 0 := ti_ne c286
                  have i304 : 1 ≤ y285.toInt ∧ y285.toInt ≤ 255 := iv_ne_l t303 iy285 (il_ 0)
                  refine lv_aload_n hx hb dX10_put_19 rfl (lv_at hl 2 rfl) ?_
                  refine th_getL (ci := 11) (C := RX10) (T := TX10) (N := 10) (v := .int y228) hx hb hts hinX10 hown hK hP hI 2 (mF 2 rfl) rfl rfl 1 (Nat.le_of_ble_eq_true rfl) (hts _ (vA_in _ _ (in_8 _ (List.mem_of_getElem? (i := 20) rfl)))) (fun _ h9 => h9) fy228 dX10_put_20 ?_
                  refine lv_aload_n hx hb dX10_put_23 rfl (lv_at hl 2 rfl) ?_
                  refine th_getL (ci := 11) (C := RX10) (T := TX10) (N := 10) (v := .ref (ad 21)) hx hb hts hinX10 hown hK hP hI 2 (mF 2 rfl) rfl rfl 0 (Nat.le_of_ble_eq_true rfl) (hts _ (vA_in _ _ (in_8 _ (List.mem_of_getElem? (i := 17) rfl)))) (fun _ h9 => h9) (hI.fr 2 (mF 2 rfl) rfl (Nat.le_of_ble_eq_true rfl) 21 rfl) dX10_put_24 ?_
                  refine va_alen (v := 200) hx hb hK hP (posL 21 (LC cf)) 0 (hI.ar 21 (mF 21 rfl) rfl) rfl rfl dX10_put_27 ?_
                  refine lv_icmp_ge (tgt := 51) hx hb dX10_put_28 (by decide) (fun c305 => ?_) (fun c305 => ?_)
                  · --28 taken
                    have t306 : (200 : Int) ≤ y228.toInt := ti_le c305
                    refine lv_iinc (v := 0) (lv' := [(2, .int 0), (3, .int y285), (0, .ref (ad 2)), (1, .int a0)]) hx hb dX10_put_51 hl (k := 1) rfl (by decide) (by decide) rfl (fun ls hl => ?_)
                    refine lv_goto (tgt := 3) hx hb dX10_put_54 (by decide) ?_
                    refine lv_iload_n hx hb dX10_put_3 rfl (lv_at hl 0 rfl) ?_
                    refine lv_if_lt (tgt := 57) hx hb dX10_put_4 (by decide) (fun c307 => ?_) (fun c307 => ?_)
                    · --4 taken
                      exact absurd c307 (by decide)
                    · --4 not
                      refine lv_iload_n hx hb dX10_put_7 rfl (lv_at hl 3 rfl) ?_
                      refine lv_iload_n hx hb dX10_put_8 rfl (lv_at hl 0 rfl) ?_
                      refine lv_iushr hx hb dX10_put_9 rfl ?_
                      refine lv_topi (fun y308 ey308 => ?_)
                      refine lv_sipush (v := 255) hx hb dX10_put_10 (by decide) ?_
                      refine lv_iand hx hb dX10_put_13 ?_
                      refine lv_topi (fun y309 ey309 => ?_)
                      have iy309 : 0 ≤ y309.toInt ∧ y309.toInt ≤ 255 := ti_and (by decide) ey309
                      refine lv_istore_n (lv' := [(3, .int y309), (2, .int 0), (0, .ref (ad 2)), (1, .int a0)]) hx hb dX10_put_14 rfl hl (by decide) rfl (fun ls hl => ?_)
                      refine lv_iload_n hx hb dX10_put_15 rfl (lv_at hl 0 rfl) ?_
                      refine lv_if_eq (tgt := 51) hx hb dX10_put_16 (by decide) (fun c310 => ?_) (fun c310 => ?_)
                      · --16 taken
                        have t311 : y309.toInt = 0 := ti_eq c310
                        have i312 : 0 ≤ y309.toInt ∧ y309.toInt ≤ 0 := iv_eqi t311 iy309 (il_ 0) (by decide)
                        refine lv_iinc (v := -8) (lv' := [(2, .int (-8)), (3, .int y309), (0, .ref (ad 2)), (1, .int a0)]) hx hb dX10_put_51 hl (k := 1) rfl (by decide) (by decide) rfl (fun ls hl => ?_)
                        refine lv_goto (tgt := 3) hx hb dX10_put_54 (by decide) ?_
                        refine lv_iload_n hx hb dX10_put_3 rfl (lv_at hl 0 rfl) ?_
                        refine lv_if_lt (tgt := 57) hx hb dX10_put_4 (by decide) (fun c313 => ?_) (fun c313 => ?_)
                        · --4 taken
                          rw [hQ]
                          exact W.vret hx hb hr (fun t ht hW => ⟨⟨E, rfl, ⟨hI, hKp, trivial⟩, by show va_P (dC, dI) vwCl (WL (LC cf) ad E) t.heap; rw [ht]; exact hP⟩, hS.F ht⟩) hS.2.2 dX10_put_57
                        · --4 not
                          exact absurd c313 (by decide)
                      · --16 not
                        have t314 : ¬ y309.toInt = 0 := ti_ne c310
                        have i315 : 1 ≤ y309.toInt ∧ y309.toInt ≤ 255 := iv_ne_l t314 iy309 (il_ 0)
                        refine lv_aload_n hx hb dX10_put_19 rfl (lv_at hl 2 rfl) ?_
                        refine th_getL (ci := 11) (C := RX10) (T := TX10) (N := 10) (v := .int y228) hx hb hts hinX10 hown hK hP hI 2 (mF 2 rfl) rfl rfl 1 (Nat.le_of_ble_eq_true rfl) (hts _ (vA_in _ _ (in_8 _ (List.mem_of_getElem? (i := 20) rfl)))) (fun _ h9 => h9) fy228 dX10_put_20 ?_
                        refine lv_aload_n hx hb dX10_put_23 rfl (lv_at hl 2 rfl) ?_
                        refine th_getL (ci := 11) (C := RX10) (T := TX10) (N := 10) (v := .ref (ad 21)) hx hb hts hinX10 hown hK hP hI 2 (mF 2 rfl) rfl rfl 0 (Nat.le_of_ble_eq_true rfl) (hts _ (vA_in _ _ (in_8 _ (List.mem_of_getElem? (i := 17) rfl)))) (fun _ h9 => h9) (hI.fr 2 (mF 2 rfl) rfl (Nat.le_of_ble_eq_true rfl) 21 rfl) dX10_put_24 ?_
                        refine va_alen (v := 200) hx hb hK hP (posL 21 (LC cf)) 0 (hI.ar 21 (mF 21 rfl) rfl) rfl rfl dX10_put_27 ?_
                        refine lv_icmp_ge (tgt := 51) hx hb dX10_put_28 (by decide) (fun c316 => ?_) (fun c316 => ?_)
                        · --28 taken
                          have t317 : (200 : Int) ≤ y228.toInt := ti_le c316
                          refine lv_iinc (v := -8) (lv' := [(2, .int (-8)), (3, .int y309), (0, .ref (ad 2)), (1, .int a0)]) hx hb dX10_put_51 hl (k := 1) rfl (by decide) (by decide) rfl (fun ls hl => ?_)
                          refine lv_goto (tgt := 3) hx hb dX10_put_54 (by decide) ?_
                          refine lv_iload_n hx hb dX10_put_3 rfl (lv_at hl 0 rfl) ?_
                          refine lv_if_lt (tgt := 57) hx hb dX10_put_4 (by decide) (fun c318 => ?_) (fun c318 => ?_)
                          · --4 taken
                            rw [hQ]
                            exact W.vret hx hb hr (fun t ht hW => ⟨⟨E, rfl, ⟨hI, hKp, trivial⟩, by show va_P (dC, dI) vwCl (WL (LC cf) ad E) t.heap; rw [ht]; exact hP⟩, hS.F ht⟩) hS.2.2 dX10_put_57
                          · --4 not
                            exact absurd c318 (by decide)
                        · --28 not
                          have t319 : y228.toInt < 200 := ti_nle c316
                          have i320 : 200 ≤ y228.toInt ∧ y228.toInt ≤ 199 := iv_lt_l t319 i232 (il_ 200) (by decide)
                          exact iv_no i320 (by decide)
                  · --28 not
                    have t321 : y228.toInt < 200 := ti_nle c305
                    have i322 : 200 ≤ y228.toInt ∧ y228.toInt ≤ 199 := iv_lt_l t321 i232 (il_ 200) (by decide)
                    exact iv_no i322 (by decide)
            · --28 not
              have t323 : y228.toInt < 200 := ti_nle c281
              have i324 : 200 ≤ y228.toInt ∧ y228.toInt ≤ 199 := iv_lt_l t323 i232 (il_ 200) (by decide)
              exact iv_no i324 (by decide)
      · --28 not
        have t325 : y228.toInt < 200 := ti_nle c230
        have i326 : 0 ≤ y228.toInt ∧ y228.toInt ≤ 199 := iv_lt_l t325 i229 (il_ 200) (by decide)
        refine lv_aload_n hx hb dX10_put_31 rfl (lv_at hl 2 rfl) ?_
        refine th_getL (ci := 11) (C := RX10) (T := TX10) (N := 10) (v := .ref (ad 21)) hx hb hts hinX10 hown hK hP hI 2 (mF 2 rfl) rfl rfl 0 (Nat.le_of_ble_eq_true rfl) (hts _ (vA_in _ _ (in_8 _ (List.mem_of_getElem? (i := 17) rfl)))) (fun _ h9 => h9) (hI.fr 2 (mF 2 rfl) rfl (Nat.le_of_ble_eq_true rfl) 21 rfl) dX10_put_32 ?_
        refine lv_aload_n hx hb dX10_put_35 rfl (lv_at hl 2 rfl) ?_
        refine th_getL (ci := 11) (C := RX10) (T := TX10) (N := 10) (v := .int y228) hx hb hts hinX10 hown hK hP hI 2 (mF 2 rfl) rfl rfl 1 (Nat.le_of_ble_eq_true rfl) (hts _ (vA_in _ _ (in_8 _ (List.mem_of_getElem? (i := 20) rfl)))) (fun _ h9 => h9) fy228 dX10_put_36 ?_
        refine lv_iload_n hx hb dX10_put_39 rfl (lv_at hl 0 rfl) ?_
        have n327 : vp_in y228 200 := (iv_in (n := 200) i326 (by decide))
        refine th_iastL hx hb hK hP (WL_D hD) hS hI 21 (mF 21 rfl) rfl rfl n327 (okI rfl (iv_w i227 (by decide))) dX10_put_40 (fun H locs E328 pw329 hI hP hS => ?_)
        have hKp := hKp.pw pw329 rfl
        refine lv_aload_n hx hb dX10_put_41 rfl (lv_at hl 2 rfl) ?_
        refine lv_dup hx hb dX10_put_42 rfl ?_
        refine th_getL (ci := 11) (C := RX10) (T := TX10) (N := 10) (v := .int y228) hx hb hts hinX10 hown hK hP hI 2 (mF 2 rfl) rfl rfl 1 (Nat.le_of_ble_eq_true rfl) (hts _ (vA_in _ _ (in_8 _ (List.mem_of_getElem? (i := 20) rfl)))) (fun _ h9 => h9) ((pw329.2 2 1 (fun q9 => absurd q9.1 (Nat.ne_of_beq_eq_false rfl))).trans fy228) dX10_put_43 ?_
        refine lv_iconst (v := 1) hx hb dX10_put_46 (by decide) ?_
        refine lv_iadd hx hb dX10_put_47 ?_
        refine lv_topi (fun y330 ey330 => ?_)
        obtain ⟨ty330, iy330⟩ := ti_add (e := 1) (f := 200) i326 ln_1 ey330 (by decide)
        have ty330 : y330.toInt = y228.toInt + 1 := ty330
        have iy330 : 1 ≤ y330.toInt ∧ y330.toInt ≤ 200 := iy330
        refine th_putL (ci := 11) (C := RX10) (T := TX10) (N := 10) (v := .int y330) (ty := .int) hx hb hts hinX10 tyX10 tyX10_ok nmX10 hown hK hP (WL_D hD) hS hI 2 (mF 2 rfl) rfl rfl 1 (Nat.le_of_ble_eq_true rfl) (hts _ (vA_in _ _ (in_8 _ (List.mem_of_getElem? (i := 20) rfl)))) (fun _ h9 => h9) rfl (by decide +kernel) rfl rfl (okI rfl (iv_w iy330 (by decide))) dX10_put_48 (fun H locs E331 pw332 hI hP hS => ?_)
        have hKp := hKp.pw pw332 rfl
        refine lv_iinc (v := 16) (lv' := [(2, .int 16), (3, .int y3), (0, .ref (ad 2)), (1, .int a0)]) hx hb dX10_put_51 hl (k := 1) rfl (by decide) (by decide) rfl (fun ls hl => ?_)
        refine lv_goto (tgt := 3) hx hb dX10_put_54 (by decide) ?_
        refine lv_iload_n hx hb dX10_put_3 rfl (lv_at hl 0 rfl) ?_
        refine lv_if_lt (tgt := 57) hx hb dX10_put_4 (by decide) (fun c333 => ?_) (fun c333 => ?_)
        · --4 taken
          exact absurd c333 (by decide)
        · --4 not
          refine lv_iload_n hx hb dX10_put_7 rfl (lv_at hl 3 rfl) ?_
          refine lv_iload_n hx hb dX10_put_8 rfl (lv_at hl 0 rfl) ?_
          refine lv_iushr hx hb dX10_put_9 rfl ?_
          refine lv_topi (fun y334 ey334 => ?_)
          refine lv_sipush (v := 255) hx hb dX10_put_10 (by decide) ?_
          refine lv_iand hx hb dX10_put_13 ?_
          refine lv_topi (fun y335 ey335 => ?_)
          have iy335 : 0 ≤ y335.toInt ∧ y335.toInt ≤ 255 := ti_and (by decide) ey335
          refine lv_istore_n (lv' := [(3, .int y335), (2, .int 16), (0, .ref (ad 2)), (1, .int a0)]) hx hb dX10_put_14 rfl hl (by decide) rfl (fun ls hl => ?_)
          refine lv_iload_n hx hb dX10_put_15 rfl (lv_at hl 0 rfl) ?_
          refine lv_if_eq (tgt := 51) hx hb dX10_put_16 (by decide) (fun c336 => ?_) (fun c336 => ?_)
          · --16 taken
            have t337 : y335.toInt = 0 := ti_eq c336
            have i338 : 0 ≤ y335.toInt ∧ y335.toInt ≤ 0 := iv_eqi t337 iy335 (il_ 0) (by decide)
            refine lv_iinc (v := 8) (lv' := [(2, .int 8), (3, .int y335), (0, .ref (ad 2)), (1, .int a0)]) hx hb dX10_put_51 hl (k := 1) rfl (by decide) (by decide) rfl (fun ls hl => ?_)
            refine lv_goto (tgt := 3) hx hb dX10_put_54 (by decide) ?_
            refine lv_iload_n hx hb dX10_put_3 rfl (lv_at hl 0 rfl) ?_
            refine lv_if_lt (tgt := 57) hx hb dX10_put_4 (by decide) (fun c339 => ?_) (fun c339 => ?_)
            · --4 taken
              exact absurd c339 (by decide)
            · --4 not
              refine lv_iload_n hx hb dX10_put_7 rfl (lv_at hl 3 rfl) ?_
              refine lv_iload_n hx hb dX10_put_8 rfl (lv_at hl 0 rfl) ?_
              refine lv_iushr hx hb dX10_put_9 rfl ?_
              refine lv_topi (fun y340 ey340 => ?_)
              refine lv_sipush (v := 255) hx hb dX10_put_10 (by decide) ?_
              refine lv_iand hx hb dX10_put_13 ?_
              refine lv_topi (fun y341 ey341 => ?_)
              have iy341 : 0 ≤ y341.toInt ∧ y341.toInt ≤ 255 := ti_and (by decide) ey341
              refine lv_istore_n (lv' := [(3, .int y341), (2, .int 8), (0, .ref (ad 2)), (1, .int a0)]) hx hb dX10_put_14 rfl hl (by decide) rfl (fun ls hl => ?_)
              refine lv_iload_n hx hb dX10_put_15 rfl (lv_at hl 0 rfl) ?_
              refine lv_if_eq (tgt := 51) hx hb dX10_put_16 (by decide) (fun c342 => ?_) (fun c342 => ?_)
              · --16 taken
                have t343 : y341.toInt = 0 := ti_eq c342
                have i344 : 0 ≤ y341.toInt ∧ y341.toInt ≤ 0 := iv_eqi t343 iy341 (il_ 0) (by decide)
                refine lv_iinc (v := 0) (lv' := [(2, .int 0), (3, .int y341), (0, .ref (ad 2)), (1, .int a0)]) hx hb dX10_put_51 hl (k := 1) rfl (by decide) (by decide) rfl (fun ls hl => ?_)
                refine lv_goto (tgt := 3) hx hb dX10_put_54 (by decide) ?_
                refine lv_iload_n hx hb dX10_put_3 rfl (lv_at hl 0 rfl) ?_
                refine lv_if_lt (tgt := 57) hx hb dX10_put_4 (by decide) (fun c345 => ?_) (fun c345 => ?_)
                · --4 taken
                  exact absurd c345 (by decide)
                · --4 not
                  refine lv_iload_n hx hb dX10_put_7 rfl (lv_at hl 3 rfl) ?_
                  refine lv_iload_n hx hb dX10_put_8 rfl (lv_at hl 0 rfl) ?_
                  refine lv_iushr hx hb dX10_put_9 rfl ?_
                  refine lv_topi (fun y346 ey346 => ?_)
                  refine lv_sipush (v := 255) hx hb dX10_put_10 (by decide) ?_
                  refine lv_iand hx hb dX10_put_13 ?_
                  refine lv_topi (fun y347 ey347 => ?_)
                  have iy347 : 0 ≤ y347.toInt ∧ y347.toInt ≤ 255 := ti_and (by decide) ey347
                  refine lv_istore_n (lv' := [(3, .int y347), (2, .int 0), (0, .ref (ad 2)), (1, .int a0)]) hx hb dX10_put_14 rfl hl (by decide) rfl (fun ls hl => ?_)
                  refine lv_iload_n hx hb dX10_put_15 rfl (lv_at hl 0 rfl) ?_
                  refine lv_if_eq (tgt := 51) hx hb dX10_put_16 (by decide) (fun c348 => ?_) (fun c348 => ?_)
                  · --16 taken
                    have t349 : y347.toInt = 0 := ti_eq c348
                    have i350 : 0 ≤ y347.toInt ∧ y347.toInt ≤ 0 := iv_eqi t349 iy347 (il_ 0) (by decide)
                    refine lv_iinc (v := -8) (lv' := [(2, .int (-8)), (3, .int y347), (0, .ref (ad 2)), (1, .int a0)]) hx hb dX10_put_51 hl (k := 1) rfl (by decide) (by decide) rfl (fun ls hl => ?_)
                    refine lv_goto (tgt := 3) hx hb dX10_put_54 (by decide) ?_
                    refine lv_iload_n hx hb dX10_put_3 rfl (lv_at hl 0 rfl) ?_
                    refine lv_if_lt (tgt := 57) hx hb dX10_put_4 (by decide) (fun c351 => ?_) (fun c351 => ?_)
                    · --4 taken
                      rw [hQ]
                      exact W.vret hx hb hr (fun t ht hW => ⟨⟨E331, rfl, ⟨hI, hKp, trivial⟩, by show va_P (dC, dI) vwCl (WL (LC cf) ad E331) t.heap; rw [ht]; exact hP⟩, hS.F ht⟩) hS.2.2 dX10_put_57
                    · --4 not
                      exact absurd c351 (by decide)
                  · --16 not
                    have t352 : ¬ y347.toInt = 0 := ti_ne c348
                    have i353 : 1 ≤ y347.toInt ∧ y347.toInt ≤ 255 := iv_ne_l t352 iy347 (il_ 0)
                    refine lv_aload_n hx hb dX10_put_19 rfl (lv_at hl 2 rfl) ?_
                    refine th_getL (ci := 11) (C := RX10) (T := TX10) (N := 10) (v := .int y330) hx hb hts hinX10 hown hK hP hI 2 (mF 2 rfl) rfl rfl 1 (Nat.le_of_ble_eq_true rfl) (hts _ (vA_in _ _ (in_8 _ (List.mem_of_getElem? (i := 20) rfl)))) (fun _ h9 => h9) pw332.1 dX10_put_20 ?_
                    refine lv_aload_n hx hb dX10_put_23 rfl (lv_at hl 2 rfl) ?_
                    refine th_getL (ci := 11) (C := RX10) (T := TX10) (N := 10) (v := .ref (ad 21)) hx hb hts hinX10 hown hK hP hI 2 (mF 2 rfl) rfl rfl 0 (Nat.le_of_ble_eq_true rfl) (hts _ (vA_in _ _ (in_8 _ (List.mem_of_getElem? (i := 17) rfl)))) (fun _ h9 => h9) (hI.fr 2 (mF 2 rfl) rfl (Nat.le_of_ble_eq_true rfl) 21 rfl) dX10_put_24 ?_
                    refine va_alen (v := 200) hx hb hK hP (posL 21 (LC cf)) 0 (hI.ar 21 (mF 21 rfl) rfl) rfl rfl dX10_put_27 ?_
                    refine lv_icmp_ge (tgt := 51) hx hb dX10_put_28 (by decide) (fun c354 => ?_) (fun c354 => ?_)
                    · --28 taken
                      have t355 : (200 : Int) ≤ y330.toInt := ti_le c354
                      have i356 : 200 ≤ y330.toInt ∧ y330.toInt ≤ 200 := iv_le_r t355 (il_ 200) iy330 (by decide)
                      refine lv_iinc (v := -8) (lv' := [(2, .int (-8)), (3, .int y347), (0, .ref (ad 2)), (1, .int a0)]) hx hb dX10_put_51 hl (k := 1) rfl (by decide) (by decide) rfl (fun ls hl => ?_)
                      refine lv_goto (tgt := 3) hx hb dX10_put_54 (by decide) ?_
                      refine lv_iload_n hx hb dX10_put_3 rfl (lv_at hl 0 rfl) ?_
                      refine lv_if_lt (tgt := 57) hx hb dX10_put_4 (by decide) (fun c357 => ?_) (fun c357 => ?_)
                      · --4 taken
                        rw [hQ]
                        exact W.vret hx hb hr (fun t ht hW => ⟨⟨E331, rfl, ⟨hI, hKp, trivial⟩, by show va_P (dC, dI) vwCl (WL (LC cf) ad E331) t.heap; rw [ht]; exact hP⟩, hS.F ht⟩) hS.2.2 dX10_put_57
                      · --4 not
                        exact absurd c357 (by decide)
                    · --28 not
                      have t358 : y330.toInt < 200 := ti_nle c354
                      have i359 : 1 ≤ y330.toInt ∧ y330.toInt ≤ 199 := iv_lt_l t358 iy330 (il_ 200) (by decide)
                      refine lv_aload_n hx hb dX10_put_31 rfl (lv_at hl 2 rfl) ?_
                      refine th_getL (ci := 11) (C := RX10) (T := TX10) (N := 10) (v := .ref (ad 21)) hx hb hts hinX10 hown hK hP hI 2 (mF 2 rfl) rfl rfl 0 (Nat.le_of_ble_eq_true rfl) (hts _ (vA_in _ _ (in_8 _ (List.mem_of_getElem? (i := 17) rfl)))) (fun _ h9 => h9) (hI.fr 2 (mF 2 rfl) rfl (Nat.le_of_ble_eq_true rfl) 21 rfl) dX10_put_32 ?_
                      refine lv_aload_n hx hb dX10_put_35 rfl (lv_at hl 2 rfl) ?_
                      refine th_getL (ci := 11) (C := RX10) (T := TX10) (N := 10) (v := .int y330) hx hb hts hinX10 hown hK hP hI 2 (mF 2 rfl) rfl rfl 1 (Nat.le_of_ble_eq_true rfl) (hts _ (vA_in _ _ (in_8 _ (List.mem_of_getElem? (i := 20) rfl)))) (fun _ h9 => h9) pw332.1 dX10_put_36 ?_
                      refine lv_iload_n hx hb dX10_put_39 rfl (lv_at hl 0 rfl) ?_
                      have n360 : vp_in y330 200 := (iv_in (n := 200) i359 (by decide))
                      refine th_iastL hx hb hK hP (WL_D hD) hS hI 21 (mF 21 rfl) rfl rfl n360 (okI rfl (iv_w i353 (by decide))) dX10_put_40 (fun H locs E361 pw362 hI hP hS => ?_)
                      have hKp := hKp.pw pw362 rfl
                      refine lv_aload_n hx hb dX10_put_41 rfl (lv_at hl 2 rfl) ?_
                      refine lv_dup hx hb dX10_put_42 rfl ?_
                      refine th_getL (ci := 11) (C := RX10) (T := TX10) (N := 10) (v := .int y330) hx hb hts hinX10 hown hK hP hI 2 (mF 2 rfl) rfl rfl 1 (Nat.le_of_ble_eq_true rfl) (hts _ (vA_in _ _ (in_8 _ (List.mem_of_getElem? (i := 20) rfl)))) (fun _ h9 => h9) ((pw362.2 2 1 (fun q9 => absurd q9.1 (Nat.ne_of_beq_eq_false rfl))).trans pw332.1) dX10_put_43 ?_
                      refine lv_iconst (v := 1) hx hb dX10_put_46 (by decide) ?_
                      refine lv_iadd hx hb dX10_put_47 ?_
                      refine lv_topi (fun y363 ey363 => ?_)
                      obtain ⟨ty363, iy363⟩ := ti_add (e := 2) (f := 200) i359 ln_1 ey363 (by decide)
                      have ty363 : y363.toInt = y330.toInt + 1 := ty363
                      have iy363 : 2 ≤ y363.toInt ∧ y363.toInt ≤ 200 := iy363
                      refine th_putL (ci := 11) (C := RX10) (T := TX10) (N := 10) (v := .int y363) (ty := .int) hx hb hts hinX10 tyX10 tyX10_ok nmX10 hown hK hP (WL_D hD) hS hI 2 (mF 2 rfl) rfl rfl 1 (Nat.le_of_ble_eq_true rfl) (hts _ (vA_in _ _ (in_8 _ (List.mem_of_getElem? (i := 20) rfl)))) (fun _ h9 => h9) rfl (by decide +kernel) rfl rfl (okI rfl (iv_w iy363 (by decide))) dX10_put_48 (fun H locs E364 pw365 hI hP hS => ?_)
                      have hKp := hKp.pw pw365 rfl
                      refine lv_iinc (v := -8) (lv' := [(2, .int (-8)), (3, .int y347), (0, .ref (ad 2)), (1, .int a0)]) hx hb dX10_put_51 hl (k := 1) rfl (by decide) (by decide) rfl (fun ls hl => ?_)
                      refine lv_goto (tgt := 3) hx hb dX10_put_54 (by decide) ?_
                      refine lv_iload_n hx hb dX10_put_3 rfl (lv_at hl 0 rfl) ?_
                      refine lv_if_lt (tgt := 57) hx hb dX10_put_4 (by decide) (fun c366 => ?_) (fun c366 => ?_)
                      · --4 taken
                        rw [hQ]
                        exact W.vret hx hb hr (fun t ht hW => ⟨⟨E364, rfl, ⟨hI, hKp, trivial⟩, by show va_P (dC, dI) vwCl (WL (LC cf) ad E364) t.heap; rw [ht]; exact hP⟩, hS.F ht⟩) hS.2.2 dX10_put_57
                      · --4 not
                        exact absurd c366 (by decide)
              · --16 not
                have t367 : ¬ y341.toInt = 0 := ti_ne c342
                have i368 : 1 ≤ y341.toInt ∧ y341.toInt ≤ 255 := iv_ne_l t367 iy341 (il_ 0)
                refine lv_aload_n hx hb dX10_put_19 rfl (lv_at hl 2 rfl) ?_
                refine th_getL (ci := 11) (C := RX10) (T := TX10) (N := 10) (v := .int y330) hx hb hts hinX10 hown hK hP hI 2 (mF 2 rfl) rfl rfl 1 (Nat.le_of_ble_eq_true rfl) (hts _ (vA_in _ _ (in_8 _ (List.mem_of_getElem? (i := 20) rfl)))) (fun _ h9 => h9) pw332.1 dX10_put_20 ?_
                refine lv_aload_n hx hb dX10_put_23 rfl (lv_at hl 2 rfl) ?_
                refine th_getL (ci := 11) (C := RX10) (T := TX10) (N := 10) (v := .ref (ad 21)) hx hb hts hinX10 hown hK hP hI 2 (mF 2 rfl) rfl rfl 0 (Nat.le_of_ble_eq_true rfl) (hts _ (vA_in _ _ (in_8 _ (List.mem_of_getElem? (i := 17) rfl)))) (fun _ h9 => h9) (hI.fr 2 (mF 2 rfl) rfl (Nat.le_of_ble_eq_true rfl) 21 rfl) dX10_put_24 ?_
                refine va_alen (v := 200) hx hb hK hP (posL 21 (LC cf)) 0 (hI.ar 21 (mF 21 rfl) rfl) rfl rfl dX10_put_27 ?_
                refine lv_icmp_ge (tgt := 51) hx hb dX10_put_28 (by decide) (fun c369 => ?_) (fun c369 => ?_)
                · --28 taken
                  have t370 : (200 : Int) ≤ y330.toInt := ti_le c369
                  have i371 : 200 ≤ y330.toInt ∧ y330.toInt ≤ 200 := iv_le_r t370 (il_ 200) iy330 (by decide)
                  refine lv_iinc (v := 0) (lv' := [(2, .int 0), (3, .int y341), (0, .ref (ad 2)), (1, .int a0)]) hx hb dX10_put_51 hl (k := 1) rfl (by decide) (by decide) rfl (fun ls hl => ?_)
                  refine lv_goto (tgt := 3) hx hb dX10_put_54 (by decide) ?_
                  refine lv_iload_n hx hb dX10_put_3 rfl (lv_at hl 0 rfl) ?_
                  refine lv_if_lt (tgt := 57) hx hb dX10_put_4 (by decide) (fun c372 => ?_) (fun c372 => ?_)
                  · --4 taken
                    exact absurd c372 (by decide)
                  · --4 not
                    refine lv_iload_n hx hb dX10_put_7 rfl (lv_at hl 3 rfl) ?_
                    refine lv_iload_n hx hb dX10_put_8 rfl (lv_at hl 0 rfl) ?_
                    refine lv_iushr hx hb dX10_put_9 rfl ?_
                    refine lv_topi (fun y373 ey373 => ?_)
                    refine lv_sipush (v := 255) hx hb dX10_put_10 (by decide) ?_
                    refine lv_iand hx hb dX10_put_13 ?_
                    refine lv_topi (fun y374 ey374 => ?_)
                    have iy374 : 0 ≤ y374.toInt ∧ y374.toInt ≤ 255 := ti_and (by decide) ey374
                    refine lv_istore_n (lv' := [(3, .int y374), (2, .int 0), (0, .ref (ad 2)), (1, .int a0)]) hx hb dX10_put_14 rfl hl (by decide) rfl (fun ls hl => ?_)
                    refine lv_iload_n hx hb dX10_put_15 rfl (lv_at hl 0 rfl) ?_
                    refine lv_if_eq (tgt := 51) hx hb dX10_put_16 (by decide) (fun c375 => ?_) (fun c375 => ?_)
                    · --16 taken
                      have t376 : y374.toInt = 0 := ti_eq c375
                      have i377 : 0 ≤ y374.toInt ∧ y374.toInt ≤ 0 := iv_eqi t376 iy374 (il_ 0) (by decide)
                      refine lv_iinc (v := -8) (lv' := [(2, .int (-8)), (3, .int y374), (0, .ref (ad 2)), (1, .int a0)]) hx hb dX10_put_51 hl (k := 1) rfl (by decide) (by decide) rfl (fun ls hl => ?_)
                      refine lv_goto (tgt := 3) hx hb dX10_put_54 (by decide) ?_
                      refine lv_iload_n hx hb dX10_put_3 rfl (lv_at hl 0 rfl) ?_
                      refine lv_if_lt (tgt := 57) hx hb dX10_put_4 (by decide) (fun c378 => ?_) (fun c378 => ?_)
                      · --4 taken
                        rw [hQ]
                        exact W.vret hx hb hr (fun t ht hW => ⟨⟨E331, rfl, ⟨hI, hKp, trivial⟩, by show va_P (dC, dI) vwCl (WL (LC cf) ad E331) t.heap; rw [ht]; exact hP⟩, hS.F ht⟩) hS.2.2 dX10_put_57
                      · --4 not
                        exact absurd c378 (by decide)
                    · --16 not
                      have t379 : ¬ y374.toInt = 0 := ti_ne c375
                      have i380 : 1 ≤ y374.toInt ∧ y374.toInt ≤ 255 := iv_ne_l t379 iy374 (il_ 0)
                      refine lv_aload_n hx hb dX10_put_19 rfl (lv_at hl 2 rfl) ?_
                      refine th_getL (ci := 11) (C := RX10) (T := TX10) (N := 10) (v := .int y330) hx hb hts hinX10 hown hK hP hI 2 (mF 2 rfl) rfl rfl 1 (Nat.le_of_ble_eq_true rfl) (hts _ (vA_in _ _ (in_8 _ (List.mem_of_getElem? (i := 20) rfl)))) (fun _ h9 => h9) pw332.1 dX10_put_20 ?_
                      refine lv_aload_n hx hb dX10_put_23 rfl (lv_at hl 2 rfl) ?_
                      refine th_getL (ci := 11) (C := RX10) (T := TX10) (N := 10) (v := .ref (ad 21)) hx hb hts hinX10 hown hK hP hI 2 (mF 2 rfl) rfl rfl 0 (Nat.le_of_ble_eq_true rfl) (hts _ (vA_in _ _ (in_8 _ (List.mem_of_getElem? (i := 17) rfl)))) (fun _ h9 => h9) (hI.fr 2 (mF 2 rfl) rfl (Nat.le_of_ble_eq_true rfl) 21 rfl) dX10_put_24 ?_
                      refine va_alen (v := 200) hx hb hK hP (posL 21 (LC cf)) 0 (hI.ar 21 (mF 21 rfl) rfl) rfl rfl dX10_put_27 ?_
                      refine lv_icmp_ge (tgt := 51) hx hb dX10_put_28 (by decide) (fun c381 => ?_) (fun c381 => ?_)
                      · --28 taken
                        have t382 : (200 : Int) ≤ y330.toInt := ti_le c381
                        refine lv_iinc (v := -8) (lv' := [(2, .int (-8)), (3, .int y374), (0, .ref (ad 2)), (1, .int a0)]) hx hb dX10_put_51 hl (k := 1) rfl (by decide) (by decide) rfl (fun ls hl => ?_)
                        refine lv_goto (tgt := 3) hx hb dX10_put_54 (by decide) ?_
                        refine lv_iload_n hx hb dX10_put_3 rfl (lv_at hl 0 rfl) ?_
                        refine lv_if_lt (tgt := 57) hx hb dX10_put_4 (by decide) (fun c383 => ?_) (fun c383 => ?_)
                        · --4 taken
                          rw [hQ]
                          exact W.vret hx hb hr (fun t ht hW => ⟨⟨E331, rfl, ⟨hI, hKp, trivial⟩, by show va_P (dC, dI) vwCl (WL (LC cf) ad E331) t.heap; rw [ht]; exact hP⟩, hS.F ht⟩) hS.2.2 dX10_put_57
                        · --4 not
                          exact absurd c383 (by decide)
                      · --28 not
                        have t384 : y330.toInt < 200 := ti_nle c381
                        have i385 : 200 ≤ y330.toInt ∧ y330.toInt ≤ 199 := iv_lt_l t384 i371 (il_ 200) (by decide)
                        exact iv_no i385 (by decide)
                · --28 not
                  have t386 : y330.toInt < 200 := ti_nle c369
                  have i387 : 1 ≤ y330.toInt ∧ y330.toInt ≤ 199 := iv_lt_l t386 iy330 (il_ 200) (by decide)
                  refine lv_aload_n hx hb dX10_put_31 rfl (lv_at hl 2 rfl) ?_
                  refine th_getL (ci := 11) (C := RX10) (T := TX10) (N := 10) (v := .ref (ad 21)) hx hb hts hinX10 hown hK hP hI 2 (mF 2 rfl) rfl rfl 0 (Nat.le_of_ble_eq_true rfl) (hts _ (vA_in _ _ (in_8 _ (List.mem_of_getElem? (i := 17) rfl)))) (fun _ h9 => h9) (hI.fr 2 (mF 2 rfl) rfl (Nat.le_of_ble_eq_true rfl) 21 rfl) dX10_put_32 ?_
                  refine lv_aload_n hx hb dX10_put_35 rfl (lv_at hl 2 rfl) ?_
                  refine th_getL (ci := 11) (C := RX10) (T := TX10) (N := 10) (v := .int y330) hx hb hts hinX10 hown hK hP hI 2 (mF 2 rfl) rfl rfl 1 (Nat.le_of_ble_eq_true rfl) (hts _ (vA_in _ _ (in_8 _ (List.mem_of_getElem? (i := 20) rfl)))) (fun _ h9 => h9) pw332.1 dX10_put_36 ?_
                  refine lv_iload_n hx hb dX10_put_39 rfl (lv_at hl 0 rfl) ?_
                  have n388 : vp_in y330 200 := (iv_in (n := 200) i387 (by decide))
                  refine th_iastL hx hb hK hP (WL_D hD) hS hI 21 (mF 21 rfl) rfl rfl n388 (okI rfl (iv_w i368 (by decide))) dX10_put_40 (fun H locs E389 pw390 hI hP hS => ?_)
                  have hKp := hKp.pw pw390 rfl
                  refine lv_aload_n hx hb dX10_put_41 rfl (lv_at hl 2 rfl) ?_
                  refine lv_dup hx hb dX10_put_42 rfl ?_
                  refine th_getL (ci := 11) (C := RX10) (T := TX10) (N := 10) (v := .int y330) hx hb hts hinX10 hown hK hP hI 2 (mF 2 rfl) rfl rfl 1 (Nat.le_of_ble_eq_true rfl) (hts _ (vA_in _ _ (in_8 _ (List.mem_of_getElem? (i := 20) rfl)))) (fun _ h9 => h9) ((pw390.2 2 1 (fun q9 => absurd q9.1 (Nat.ne_of_beq_eq_false rfl))).trans pw332.1) dX10_put_43 ?_
                  refine lv_iconst (v := 1) hx hb dX10_put_46 (by decide) ?_
                  refine lv_iadd hx hb dX10_put_47 ?_
                  refine lv_topi (fun y391 ey391 => ?_)
                  obtain ⟨ty391, iy391⟩ := ti_add (e := 2) (f := 200) i387 ln_1 ey391 (by decide)
                  have ty391 : y391.toInt = y330.toInt + 1 := ty391
                  have iy391 : 2 ≤ y391.toInt ∧ y391.toInt ≤ 200 := iy391
                  refine th_putL (ci := 11) (C := RX10) (T := TX10) (N := 10) (v := .int y391) (ty := .int) hx hb hts hinX10 tyX10 tyX10_ok nmX10 hown hK hP (WL_D hD) hS hI 2 (mF 2 rfl) rfl rfl 1 (Nat.le_of_ble_eq_true rfl) (hts _ (vA_in _ _ (in_8 _ (List.mem_of_getElem? (i := 20) rfl)))) (fun _ h9 => h9) rfl (by decide +kernel) rfl rfl (okI rfl (iv_w iy391 (by decide))) dX10_put_48 (fun H locs E392 pw393 hI hP hS => ?_)
                  have hKp := hKp.pw pw393 rfl
                  refine lv_iinc (v := 0) (lv' := [(2, .int 0), (3, .int y341), (0, .ref (ad 2)), (1, .int a0)]) hx hb dX10_put_51 hl (k := 1) rfl (by decide) (by decide) rfl (fun ls hl => ?_)
                  refine lv_goto (tgt := 3) hx hb dX10_put_54 (by decide) ?_
                  refine lv_iload_n hx hb dX10_put_3 rfl (lv_at hl 0 rfl) ?_
                  refine lv_if_lt (tgt := 57) hx hb dX10_put_4 (by decide) (fun c394 => ?_) (fun c394 => ?_)
                  · --4 taken
                    exact absurd c394 (by decide)
                  · --4 not
                    refine lv_iload_n hx hb dX10_put_7 rfl (lv_at hl 3 rfl) ?_
                    refine lv_iload_n hx hb dX10_put_8 rfl (lv_at hl 0 rfl) ?_
                    refine lv_iushr hx hb dX10_put_9 rfl ?_
                    refine lv_topi (fun y395 ey395 => ?_)
                    refine lv_sipush (v := 255) hx hb dX10_put_10 (by decide) ?_
                    refine lv_iand hx hb dX10_put_13 ?_
                    refine lv_topi (fun y396 ey396 => ?_)
                    have iy396 : 0 ≤ y396.toInt ∧ y396.toInt ≤ 255 := ti_and (by decide) ey396
                    refine lv_istore_n (lv' := [(3, .int y396), (2, .int 0), (0, .ref (ad 2)), (1, .int a0)]) hx hb dX10_put_14 rfl hl (by decide) rfl (fun ls hl => ?_)
                    refine lv_iload_n hx hb dX10_put_15 rfl (lv_at hl 0 rfl) ?_
                    refine lv_if_eq (tgt := 51) hx hb dX10_put_16 (by decide) (fun c397 => ?_) (fun c397 => ?_)
                    · --16 taken
                      have t398 : y396.toInt = 0 := ti_eq c397
                      have i399 : 0 ≤ y396.toInt ∧ y396.toInt ≤ 0 := iv_eqi t398 iy396 (il_ 0) (by decide)
                      refine lv_iinc (v := -8) (lv' := [(2, .int (-8)), (3, .int y396), (0, .ref (ad 2)), (1, .int a0)]) hx hb dX10_put_51 hl (k := 1) rfl (by decide) (by decide) rfl (fun ls hl => ?_)
                      refine lv_goto (tgt := 3) hx hb dX10_put_54 (by decide) ?_
                      refine lv_iload_n hx hb dX10_put_3 rfl (lv_at hl 0 rfl) ?_
                      refine lv_if_lt (tgt := 57) hx hb dX10_put_4 (by decide) (fun c400 => ?_) (fun c400 => ?_)
                      · --4 taken
                        rw [hQ]
                        exact W.vret hx hb hr (fun t ht hW => ⟨⟨E392, rfl, ⟨hI, hKp, trivial⟩, by show va_P (dC, dI) vwCl (WL (LC cf) ad E392) t.heap; rw [ht]; exact hP⟩, hS.F ht⟩) hS.2.2 dX10_put_57
                      · --4 not
                        exact absurd c400 (by decide)
                    · --16 not
                      have t401 : ¬ y396.toInt = 0 := ti_ne c397
                      have i402 : 1 ≤ y396.toInt ∧ y396.toInt ≤ 255 := iv_ne_l t401 iy396 (il_ 0)
                      refine lv_aload_n hx hb dX10_put_19 rfl (lv_at hl 2 rfl) ?_
                      refine th_getL (ci := 11) (C := RX10) (T := TX10) (N := 10) (v := .int y391) hx hb hts hinX10 hown hK hP hI 2 (mF 2 rfl) rfl rfl 1 (Nat.le_of_ble_eq_true rfl) (hts _ (vA_in _ _ (in_8 _ (List.mem_of_getElem? (i := 20) rfl)))) (fun _ h9 => h9) pw393.1 dX10_put_20 ?_
                      refine lv_aload_n hx hb dX10_put_23 rfl (lv_at hl 2 rfl) ?_
                      refine th_getL (ci := 11) (C := RX10) (T := TX10) (N := 10) (v := .ref (ad 21)) hx hb hts hinX10 hown hK hP hI 2 (mF 2 rfl) rfl rfl 0 (Nat.le_of_ble_eq_true rfl) (hts _ (vA_in _ _ (in_8 _ (List.mem_of_getElem? (i := 17) rfl)))) (fun _ h9 => h9) (hI.fr 2 (mF 2 rfl) rfl (Nat.le_of_ble_eq_true rfl) 21 rfl) dX10_put_24 ?_
                      refine va_alen (v := 200) hx hb hK hP (posL 21 (LC cf)) 0 (hI.ar 21 (mF 21 rfl) rfl) rfl rfl dX10_put_27 ?_
                      refine lv_icmp_ge (tgt := 51) hx hb dX10_put_28 (by decide) (fun c403 => ?_) (fun c403 => ?_)
                      · --28 taken
                        have t404 : (200 : Int) ≤ y391.toInt := ti_le c403
                        have i405 : 200 ≤ y391.toInt ∧ y391.toInt ≤ 200 := iv_le_r t404 (il_ 200) iy391 (by decide)
                        refine lv_iinc (v := -8) (lv' := [(2, .int (-8)), (3, .int y396), (0, .ref (ad 2)), (1, .int a0)]) hx hb dX10_put_51 hl (k := 1) rfl (by decide) (by decide) rfl (fun ls hl => ?_)
                        refine lv_goto (tgt := 3) hx hb dX10_put_54 (by decide) ?_
                        refine lv_iload_n hx hb dX10_put_3 rfl (lv_at hl 0 rfl) ?_
                        refine lv_if_lt (tgt := 57) hx hb dX10_put_4 (by decide) (fun c406 => ?_) (fun c406 => ?_)
                        · --4 taken
                          rw [hQ]
                          exact W.vret hx hb hr (fun t ht hW => ⟨⟨E392, rfl, ⟨hI, hKp, trivial⟩, by show va_P (dC, dI) vwCl (WL (LC cf) ad E392) t.heap; rw [ht]; exact hP⟩, hS.F ht⟩) hS.2.2 dX10_put_57
                        · --4 not
                          exact absurd c406 (by decide)
                      · --28 not
                        have t407 : y391.toInt < 200 := ti_nle c403
                        have i408 : 2 ≤ y391.toInt ∧ y391.toInt ≤ 199 := iv_lt_l t407 iy391 (il_ 200) (by decide)
                        refine lv_aload_n hx hb dX10_put_31 rfl (lv_at hl 2 rfl) ?_
                        refine th_getL (ci := 11) (C := RX10) (T := TX10) (N := 10) (v := .ref (ad 21)) hx hb hts hinX10 hown hK hP hI 2 (mF 2 rfl) rfl rfl 0 (Nat.le_of_ble_eq_true rfl) (hts _ (vA_in _ _ (in_8 _ (List.mem_of_getElem? (i := 17) rfl)))) (fun _ h9 => h9) (hI.fr 2 (mF 2 rfl) rfl (Nat.le_of_ble_eq_true rfl) 21 rfl) dX10_put_32 ?_
                        refine lv_aload_n hx hb dX10_put_35 rfl (lv_at hl 2 rfl) ?_
                        refine th_getL (ci := 11) (C := RX10) (T := TX10) (N := 10) (v := .int y391) hx hb hts hinX10 hown hK hP hI 2 (mF 2 rfl) rfl rfl 1 (Nat.le_of_ble_eq_true rfl) (hts _ (vA_in _ _ (in_8 _ (List.mem_of_getElem? (i := 20) rfl)))) (fun _ h9 => h9) pw393.1 dX10_put_36 ?_
                        refine lv_iload_n hx hb dX10_put_39 rfl (lv_at hl 0 rfl) ?_
                        have n409 : vp_in y391 200 := (iv_in (n := 200) i408 (by decide))
                        refine th_iastL hx hb hK hP (WL_D hD) hS hI 21 (mF 21 rfl) rfl rfl n409 (okI rfl (iv_w i402 (by decide))) dX10_put_40 (fun H locs E410 pw411 hI hP hS => ?_)
                        have hKp := hKp.pw pw411 rfl
                        refine lv_aload_n hx hb dX10_put_41 rfl (lv_at hl 2 rfl) ?_
                        refine lv_dup hx hb dX10_put_42 rfl ?_
                        refine th_getL (ci := 11) (C := RX10) (T := TX10) (N := 10) (v := .int y391) hx hb hts hinX10 hown hK hP hI 2 (mF 2 rfl) rfl rfl 1 (Nat.le_of_ble_eq_true rfl) (hts _ (vA_in _ _ (in_8 _ (List.mem_of_getElem? (i := 20) rfl)))) (fun _ h9 => h9) ((pw411.2 2 1 (fun q9 => absurd q9.1 (Nat.ne_of_beq_eq_false rfl))).trans pw393.1) dX10_put_43 ?_
                        refine lv_iconst (v := 1) hx hb dX10_put_46 (by decide) ?_
                        refine lv_iadd hx hb dX10_put_47 ?_
                        refine lv_topi (fun y412 ey412 => ?_)
                        obtain ⟨ty412, iy412⟩ := ti_add (e := 3) (f := 200) i408 ln_1 ey412 (by decide)
                        have ty412 : y412.toInt = y391.toInt + 1 := ty412
                        have iy412 : 3 ≤ y412.toInt ∧ y412.toInt ≤ 200 := iy412
                        refine th_putL (ci := 11) (C := RX10) (T := TX10) (N := 10) (v := .int y412) (ty := .int) hx hb hts hinX10 tyX10 tyX10_ok nmX10 hown hK hP (WL_D hD) hS hI 2 (mF 2 rfl) rfl rfl 1 (Nat.le_of_ble_eq_true rfl) (hts _ (vA_in _ _ (in_8 _ (List.mem_of_getElem? (i := 20) rfl)))) (fun _ h9 => h9) rfl (by decide +kernel) rfl rfl (okI rfl (iv_w iy412 (by decide))) dX10_put_48 (fun H locs E413 pw414 hI hP hS => ?_)
                        have hKp := hKp.pw pw414 rfl
                        refine lv_iinc (v := -8) (lv' := [(2, .int (-8)), (3, .int y396), (0, .ref (ad 2)), (1, .int a0)]) hx hb dX10_put_51 hl (k := 1) rfl (by decide) (by decide) rfl (fun ls hl => ?_)
                        refine lv_goto (tgt := 3) hx hb dX10_put_54 (by decide) ?_
                        refine lv_iload_n hx hb dX10_put_3 rfl (lv_at hl 0 rfl) ?_
                        refine lv_if_lt (tgt := 57) hx hb dX10_put_4 (by decide) (fun c415 => ?_) (fun c415 => ?_)
                        · --4 taken
                          rw [hQ]
                          exact W.vret hx hb hr (fun t ht hW => ⟨⟨E413, rfl, ⟨hI, hKp, trivial⟩, by show va_P (dC, dI) vwCl (WL (LC cf) ad E413) t.heap; rw [ht]; exact hP⟩, hS.F ht⟩) hS.2.2 dX10_put_57
                        · --4 not
                          exact absurd c415 (by decide)
          · --16 not
            have t416 : ¬ y335.toInt = 0 := ti_ne c336
            have i417 : 1 ≤ y335.toInt ∧ y335.toInt ≤ 255 := iv_ne_l t416 iy335 (il_ 0)
            refine lv_aload_n hx hb dX10_put_19 rfl (lv_at hl 2 rfl) ?_
            refine th_getL (ci := 11) (C := RX10) (T := TX10) (N := 10) (v := .int y330) hx hb hts hinX10 hown hK hP hI 2 (mF 2 rfl) rfl rfl 1 (Nat.le_of_ble_eq_true rfl) (hts _ (vA_in _ _ (in_8 _ (List.mem_of_getElem? (i := 20) rfl)))) (fun _ h9 => h9) pw332.1 dX10_put_20 ?_
            refine lv_aload_n hx hb dX10_put_23 rfl (lv_at hl 2 rfl) ?_
            refine th_getL (ci := 11) (C := RX10) (T := TX10) (N := 10) (v := .ref (ad 21)) hx hb hts hinX10 hown hK hP hI 2 (mF 2 rfl) rfl rfl 0 (Nat.le_of_ble_eq_true rfl) (hts _ (vA_in _ _ (in_8 _ (List.mem_of_getElem? (i := 17) rfl)))) (fun _ h9 => h9) (hI.fr 2 (mF 2 rfl) rfl (Nat.le_of_ble_eq_true rfl) 21 rfl) dX10_put_24 ?_
            refine va_alen (v := 200) hx hb hK hP (posL 21 (LC cf)) 0 (hI.ar 21 (mF 21 rfl) rfl) rfl rfl dX10_put_27 ?_
            refine lv_icmp_ge (tgt := 51) hx hb dX10_put_28 (by decide) (fun c418 => ?_) (fun c418 => ?_)
            · --28 taken
              have t419 : (200 : Int) ≤ y330.toInt := ti_le c418
              have i420 : 200 ≤ y330.toInt ∧ y330.toInt ≤ 200 := iv_le_r t419 (il_ 200) iy330 (by decide)
              refine lv_iinc (v := 8) (lv' := [(2, .int 8), (3, .int y335), (0, .ref (ad 2)), (1, .int a0)]) hx hb dX10_put_51 hl (k := 1) rfl (by decide) (by decide) rfl (fun ls hl => ?_)
              refine lv_goto (tgt := 3) hx hb dX10_put_54 (by decide) ?_
              refine lv_iload_n hx hb dX10_put_3 rfl (lv_at hl 0 rfl) ?_
              refine lv_if_lt (tgt := 57) hx hb dX10_put_4 (by decide) (fun c421 => ?_) (fun c421 => ?_)
              · --4 taken
                exact absurd c421 (by decide)
              · --4 not
                refine lv_iload_n hx hb dX10_put_7 rfl (lv_at hl 3 rfl) ?_
                refine lv_iload_n hx hb dX10_put_8 rfl (lv_at hl 0 rfl) ?_
                refine lv_iushr hx hb dX10_put_9 rfl ?_
                refine lv_topi (fun y422 ey422 => ?_)
                refine lv_sipush (v := 255) hx hb dX10_put_10 (by decide) ?_
                refine lv_iand hx hb dX10_put_13 ?_
                refine lv_topi (fun y423 ey423 => ?_)
                have iy423 : 0 ≤ y423.toInt ∧ y423.toInt ≤ 255 := ti_and (by decide) ey423
                refine lv_istore_n (lv' := [(3, .int y423), (2, .int 8), (0, .ref (ad 2)), (1, .int a0)]) hx hb dX10_put_14 rfl hl (by decide) rfl (fun ls hl => ?_)
                refine lv_iload_n hx hb dX10_put_15 rfl (lv_at hl 0 rfl) ?_
                refine lv_if_eq (tgt := 51) hx hb dX10_put_16 (by decide) (fun c424 => ?_) (fun c424 => ?_)
                · --16 taken
                  have t425 : y423.toInt = 0 := ti_eq c424
                  have i426 : 0 ≤ y423.toInt ∧ y423.toInt ≤ 0 := iv_eqi t425 iy423 (il_ 0) (by decide)
                  refine lv_iinc (v := 0) (lv' := [(2, .int 0), (3, .int y423), (0, .ref (ad 2)), (1, .int a0)]) hx hb dX10_put_51 hl (k := 1) rfl (by decide) (by decide) rfl (fun ls hl => ?_)
                  refine lv_goto (tgt := 3) hx hb dX10_put_54 (by decide) ?_
                  refine lv_iload_n hx hb dX10_put_3 rfl (lv_at hl 0 rfl) ?_
                  refine lv_if_lt (tgt := 57) hx hb dX10_put_4 (by decide) (fun c427 => ?_) (fun c427 => ?_)
                  · --4 taken
                    exact absurd c427 (by decide)
                  · --4 not
                    refine lv_iload_n hx hb dX10_put_7 rfl (lv_at hl 3 rfl) ?_
                    refine lv_iload_n hx hb dX10_put_8 rfl (lv_at hl 0 rfl) ?_
                    refine lv_iushr hx hb dX10_put_9 rfl ?_
                    refine lv_topi (fun y428 ey428 => ?_)
                    refine lv_sipush (v := 255) hx hb dX10_put_10 (by decide) ?_
                    refine lv_iand hx hb dX10_put_13 ?_
                    refine lv_topi (fun y429 ey429 => ?_)
                    have iy429 : 0 ≤ y429.toInt ∧ y429.toInt ≤ 255 := ti_and (by decide) ey429
                    refine lv_istore_n (lv' := [(3, .int y429), (2, .int 0), (0, .ref (ad 2)), (1, .int a0)]) hx hb dX10_put_14 rfl hl (by decide) rfl (fun ls hl => ?_)
                    refine lv_iload_n hx hb dX10_put_15 rfl (lv_at hl 0 rfl) ?_
                    refine lv_if_eq (tgt := 51) hx hb dX10_put_16 (by decide) (fun c430 => ?_) (fun c430 => ?_)
                    · --16 taken
                      have t431 : y429.toInt = 0 := ti_eq c430
                      have i432 : 0 ≤ y429.toInt ∧ y429.toInt ≤ 0 := iv_eqi t431 iy429 (il_ 0) (by decide)
                      refine lv_iinc (v := -8) (lv' := [(2, .int (-8)), (3, .int y429), (0, .ref (ad 2)), (1, .int a0)]) hx hb dX10_put_51 hl (k := 1) rfl (by decide) (by decide) rfl (fun ls hl => ?_)
                      refine lv_goto (tgt := 3) hx hb dX10_put_54 (by decide) ?_
                      refine lv_iload_n hx hb dX10_put_3 rfl (lv_at hl 0 rfl) ?_
                      refine lv_if_lt (tgt := 57) hx hb dX10_put_4 (by decide) (fun c433 => ?_) (fun c433 => ?_)
                      · --4 taken
                        rw [hQ]
                        exact W.vret hx hb hr (fun t ht hW => ⟨⟨E331, rfl, ⟨hI, hKp, trivial⟩, by show va_P (dC, dI) vwCl (WL (LC cf) ad E331) t.heap; rw [ht]; exact hP⟩, hS.F ht⟩) hS.2.2 dX10_put_57
                      · --4 not
                        exact absurd c433 (by decide)
                    · --16 not
                      have t434 : ¬ y429.toInt = 0 := ti_ne c430
                      have i435 : 1 ≤ y429.toInt ∧ y429.toInt ≤ 255 := iv_ne_l t434 iy429 (il_ 0)
                      refine lv_aload_n hx hb dX10_put_19 rfl (lv_at hl 2 rfl) ?_
                      refine th_getL (ci := 11) (C := RX10) (T := TX10) (N := 10) (v := .int y330) hx hb hts hinX10 hown hK hP hI 2 (mF 2 rfl) rfl rfl 1 (Nat.le_of_ble_eq_true rfl) (hts _ (vA_in _ _ (in_8 _ (List.mem_of_getElem? (i := 20) rfl)))) (fun _ h9 => h9) pw332.1 dX10_put_20 ?_
                      refine lv_aload_n hx hb dX10_put_23 rfl (lv_at hl 2 rfl) ?_
                      refine th_getL (ci := 11) (C := RX10) (T := TX10) (N := 10) (v := .ref (ad 21)) hx hb hts hinX10 hown hK hP hI 2 (mF 2 rfl) rfl rfl 0 (Nat.le_of_ble_eq_true rfl) (hts _ (vA_in _ _ (in_8 _ (List.mem_of_getElem? (i := 17) rfl)))) (fun _ h9 => h9) (hI.fr 2 (mF 2 rfl) rfl (Nat.le_of_ble_eq_true rfl) 21 rfl) dX10_put_24 ?_
                      refine va_alen (v := 200) hx hb hK hP (posL 21 (LC cf)) 0 (hI.ar 21 (mF 21 rfl) rfl) rfl rfl dX10_put_27 ?_
                      refine lv_icmp_ge (tgt := 51) hx hb dX10_put_28 (by decide) (fun c436 => ?_) (fun c436 => ?_)
                      · --28 taken
                        have t437 : (200 : Int) ≤ y330.toInt := ti_le c436
                        refine lv_iinc (v := -8) (lv' := [(2, .int (-8)), (3, .int y429), (0, .ref (ad 2)), (1, .int a0)]) hx hb dX10_put_51 hl (k := 1) rfl (by decide) (by decide) rfl (fun ls hl => ?_)
                        refine lv_goto (tgt := 3) hx hb dX10_put_54 (by decide) ?_
                        refine lv_iload_n hx hb dX10_put_3 rfl (lv_at hl 0 rfl) ?_
                        refine lv_if_lt (tgt := 57) hx hb dX10_put_4 (by decide) (fun c438 => ?_) (fun c438 => ?_)
                        · --4 taken
                          rw [hQ]
                          exact W.vret hx hb hr (fun t ht hW => ⟨⟨E331, rfl, ⟨hI, hKp, trivial⟩, by show va_P (dC, dI) vwCl (WL (LC cf) ad E331) t.heap; rw [ht]; exact hP⟩, hS.F ht⟩) hS.2.2 dX10_put_57
                        · --4 not
                          exact absurd c438 (by decide)
                      · --28 not
                        have t439 : y330.toInt < 200 := ti_nle c436
                        have i440 : 200 ≤ y330.toInt ∧ y330.toInt ≤ 199 := iv_lt_l t439 i420 (il_ 200) (by decide)
                        exact iv_no i440 (by decide)
                · --16 not
                  have t441 : ¬ y423.toInt = 0 := ti_ne c424
                  have i442 : 1 ≤ y423.toInt ∧ y423.toInt ≤ 255 := iv_ne_l t441 iy423 (il_ 0)
                  refine lv_aload_n hx hb dX10_put_19 rfl (lv_at hl 2 rfl) ?_
                  refine th_getL (ci := 11) (C := RX10) (T := TX10) (N := 10) (v := .int y330) hx hb hts hinX10 hown hK hP hI 2 (mF 2 rfl) rfl rfl 1 (Nat.le_of_ble_eq_true rfl) (hts _ (vA_in _ _ (in_8 _ (List.mem_of_getElem? (i := 20) rfl)))) (fun _ h9 => h9) pw332.1 dX10_put_20 ?_
                  refine lv_aload_n hx hb dX10_put_23 rfl (lv_at hl 2 rfl) ?_
                  refine th_getL (ci := 11) (C := RX10) (T := TX10) (N := 10) (v := .ref (ad 21)) hx hb hts hinX10 hown hK hP hI 2 (mF 2 rfl) rfl rfl 0 (Nat.le_of_ble_eq_true rfl) (hts _ (vA_in _ _ (in_8 _ (List.mem_of_getElem? (i := 17) rfl)))) (fun _ h9 => h9) (hI.fr 2 (mF 2 rfl) rfl (Nat.le_of_ble_eq_true rfl) 21 rfl) dX10_put_24 ?_
                  refine va_alen (v := 200) hx hb hK hP (posL 21 (LC cf)) 0 (hI.ar 21 (mF 21 rfl) rfl) rfl rfl dX10_put_27 ?_
                  refine lv_icmp_ge (tgt := 51) hx hb dX10_put_28 (by decide) (fun c443 => ?_) (fun c443 => ?_)
                  · --28 taken
                    have t444 : (200 : Int) ≤ y330.toInt := ti_le c443
                    refine lv_iinc (v := 0) (lv' := [(2, .int 0), (3, .int y423), (0, .ref (ad 2)), (1, .int a0)]) hx hb dX10_put_51 hl (k := 1) rfl (by decide) (by decide) rfl (fun ls hl => ?_)
                    refine lv_goto (tgt := 3) hx hb dX10_put_54 (by decide) ?_
                    refine lv_iload_n hx hb dX10_put_3 rfl (lv_at hl 0 rfl) ?_
                    refine lv_if_lt (tgt := 57) hx hb dX10_put_4 (by decide) (fun c445 => ?_) (fun c445 => ?_)
                    · --4 taken
                      exact absurd c445 (by decide)
                    · --4 not
                      refine lv_iload_n hx hb dX10_put_7 rfl (lv_at hl 3 rfl) ?_
                      refine lv_iload_n hx hb dX10_put_8 rfl (lv_at hl 0 rfl) ?_
                      refine lv_iushr hx hb dX10_put_9 rfl ?_
                      refine lv_topi (fun y446 ey446 => ?_)
                      refine lv_sipush (v := 255) hx hb dX10_put_10 (by decide) ?_
                      refine lv_iand hx hb dX10_put_13 ?_
                      refine lv_topi (fun y447 ey447 => ?_)
                      have iy447 : 0 ≤ y447.toInt ∧ y447.toInt ≤ 255 := ti_and (by decide) ey447
                      refine lv_istore_n (lv' := [(3, .int y447), (2, .int 0), (0, .ref (ad 2)), (1, .int a0)]) hx hb dX10_put_14 rfl hl (by decide) rfl (fun ls hl => ?_)
                      refine lv_iload_n hx hb dX10_put_15 rfl (lv_at hl 0 rfl) ?_
                      refine lv_if_eq (tgt := 51) hx hb dX10_put_16 (by decide) (fun c448 => ?_) (fun c448 => ?_)
                      · --16 taken
                        have t449 : y447.toInt = 0 := ti_eq c448
                        have i450 : 0 ≤ y447.toInt ∧ y447.toInt ≤ 0 := iv_eqi t449 iy447 (il_ 0) (by decide)
                        refine lv_iinc (v := -8) (lv' := [(2, .int (-8)), (3, .int y447), (0, .ref (ad 2)), (1, .int a0)]) hx hb dX10_put_51 hl (k := 1) rfl (by decide) (by decide) rfl (fun ls hl => ?_)
                        refine lv_goto (tgt := 3) hx hb dX10_put_54 (by decide) ?_
                        refine lv_iload_n hx hb dX10_put_3 rfl (lv_at hl 0 rfl) ?_
                        refine lv_if_lt (tgt := 57) hx hb dX10_put_4 (by decide) (fun c451 => ?_) (fun c451 => ?_)
                        · --4 taken
                          rw [hQ]
                          exact W.vret hx hb hr (fun t ht hW => ⟨⟨E331, rfl, ⟨hI, hKp, trivial⟩, by show va_P (dC, dI) vwCl (WL (LC cf) ad E331) t.heap; rw [ht]; exact hP⟩, hS.F ht⟩) hS.2.2 dX10_put_57
                        · --4 not
                          exact absurd c451 (by decide)
                      · --16 not
                        have t452 : ¬ y447.toInt = 0 := ti_ne c448
                        have i453 : 1 ≤ y447.toInt ∧ y447.toInt ≤ 255 := iv_ne_l t452 iy447 (il_ 0)
                        refine lv_aload_n hx hb dX10_put_19 rfl (lv_at hl 2 rfl) ?_
                        refine th_getL (ci := 11) (C := RX10) (T := TX10) (N := 10) (v := .int y330) hx hb hts hinX10 hown hK hP hI 2 (mF 2 rfl) rfl rfl 1 (Nat.le_of_ble_eq_true rfl) (hts _ (vA_in _ _ (in_8 _ (List.mem_of_getElem? (i := 20) rfl)))) (fun _ h9 => h9) pw332.1 dX10_put_20 ?_
                        refine lv_aload_n hx hb dX10_put_23 rfl (lv_at hl 2 rfl) ?_
                        refine th_getL (ci := 11) (C := RX10) (T := TX10) (N := 10) (v := .ref (ad 21)) hx hb hts hinX10 hown hK hP hI 2 (mF 2 rfl) rfl rfl 0 (Nat.le_of_ble_eq_true rfl) (hts _ (vA_in _ _ (in_8 _ (List.mem_of_getElem? (i := 17) rfl)))) (fun _ h9 => h9) (hI.fr 2 (mF 2 rfl) rfl (Nat.le_of_ble_eq_true rfl) 21 rfl) dX10_put_24 ?_
                        refine va_alen (v := 200) hx hb hK hP (posL 21 (LC cf)) 0 (hI.ar 21 (mF 21 rfl) rfl) rfl rfl dX10_put_27 ?_
                        refine lv_icmp_ge (tgt := 51) hx hb dX10_put_28 (by decide) (fun c454 => ?_) (fun c454 => ?_)
                        · --28 taken
                          have t455 : (200 : Int) ≤ y330.toInt := ti_le c454
                          refine lv_iinc (v := -8) (lv' := [(2, .int (-8)), (3, .int y447), (0, .ref (ad 2)), (1, .int a0)]) hx hb dX10_put_51 hl (k := 1) rfl (by decide) (by decide) rfl (fun ls hl => ?_)
                          refine lv_goto (tgt := 3) hx hb dX10_put_54 (by decide) ?_
                          refine lv_iload_n hx hb dX10_put_3 rfl (lv_at hl 0 rfl) ?_
                          refine lv_if_lt (tgt := 57) hx hb dX10_put_4 (by decide) (fun c456 => ?_) (fun c456 => ?_)
                          · --4 taken
                            rw [hQ]
                            exact W.vret hx hb hr (fun t ht hW => ⟨⟨E331, rfl, ⟨hI, hKp, trivial⟩, by show va_P (dC, dI) vwCl (WL (LC cf) ad E331) t.heap; rw [ht]; exact hP⟩, hS.F ht⟩) hS.2.2 dX10_put_57
                          · --4 not
                            exact absurd c456 (by decide)
                        · --28 not
                          have t457 : y330.toInt < 200 := ti_nle c454
                          have i458 : 200 ≤ y330.toInt ∧ y330.toInt ≤ 199 := iv_lt_l t457 i420 (il_ 200) (by decide)
                          exact iv_no i458 (by decide)
                  · --28 not
                    have t459 : y330.toInt < 200 := ti_nle c443
                    have i460 : 200 ≤ y330.toInt ∧ y330.toInt ≤ 199 := iv_lt_l t459 i420 (il_ 200) (by decide)
                    exact iv_no i460 (by decide)
            · --28 not
              have t461 : y330.toInt < 200 := ti_nle c418
              have i462 : 1 ≤ y330.toInt ∧ y330.toInt ≤ 199 := iv_lt_l t461 iy330 (il_ 200) (by decide)
              refine lv_aload_n hx hb dX10_put_31 rfl (lv_at hl 2 rfl) ?_
              refine th_getL (ci := 11) (C := RX10) (T := TX10) (N := 10) (v := .ref (ad 21)) hx hb hts hinX10 hown hK hP hI 2 (mF 2 rfl) rfl rfl 0 (Nat.le_of_ble_eq_true rfl) (hts _ (vA_in _ _ (in_8 _ (List.mem_of_getElem? (i := 17) rfl)))) (fun _ h9 => h9) (hI.fr 2 (mF 2 rfl) rfl (Nat.le_of_ble_eq_true rfl) 21 rfl) dX10_put_32 ?_
              refine lv_aload_n hx hb dX10_put_35 rfl (lv_at hl 2 rfl) ?_
              refine th_getL (ci := 11) (C := RX10) (T := TX10) (N := 10) (v := .int y330) hx hb hts hinX10 hown hK hP hI 2 (mF 2 rfl) rfl rfl 1 (Nat.le_of_ble_eq_true rfl) (hts _ (vA_in _ _ (in_8 _ (List.mem_of_getElem? (i := 20) rfl)))) (fun _ h9 => h9) pw332.1 dX10_put_36 ?_
              refine lv_iload_n hx hb dX10_put_39 rfl (lv_at hl 0 rfl) ?_
              have n463 : vp_in y330 200 := (iv_in (n := 200) i462 (by decide))
              refine th_iastL hx hb hK hP (WL_D hD) hS hI 21 (mF 21 rfl) rfl rfl n463 (okI rfl (iv_w i417 (by decide))) dX10_put_40 (fun H locs E464 pw465 hI hP hS => ?_)
              have hKp := hKp.pw pw465 rfl
              refine lv_aload_n hx hb dX10_put_41 rfl (lv_at hl 2 rfl) ?_
              refine lv_dup hx hb dX10_put_42 rfl ?_
              refine th_getL (ci := 11) (C := RX10) (T := TX10) (N := 10) (v := .int y330) hx hb hts hinX10 hown hK hP hI 2 (mF 2 rfl) rfl rfl 1 (Nat.le_of_ble_eq_true rfl) (hts _ (vA_in _ _ (in_8 _ (List.mem_of_getElem? (i := 20) rfl)))) (fun _ h9 => h9) ((pw465.2 2 1 (fun q9 => absurd q9.1 (Nat.ne_of_beq_eq_false rfl))).trans pw332.1) dX10_put_43 ?_
              refine lv_iconst (v := 1) hx hb dX10_put_46 (by decide) ?_
              refine lv_iadd hx hb dX10_put_47 ?_
              refine lv_topi (fun y466 ey466 => ?_)
              obtain ⟨ty466, iy466⟩ := ti_add (e := 2) (f := 200) i462 ln_1 ey466 (by decide)
              have ty466 : y466.toInt = y330.toInt + 1 := ty466
              have iy466 : 2 ≤ y466.toInt ∧ y466.toInt ≤ 200 := iy466
              refine th_putL (ci := 11) (C := RX10) (T := TX10) (N := 10) (v := .int y466) (ty := .int) hx hb hts hinX10 tyX10 tyX10_ok nmX10 hown hK hP (WL_D hD) hS hI 2 (mF 2 rfl) rfl rfl 1 (Nat.le_of_ble_eq_true rfl) (hts _ (vA_in _ _ (in_8 _ (List.mem_of_getElem? (i := 20) rfl)))) (fun _ h9 => h9) rfl (by decide +kernel) rfl rfl (okI rfl (iv_w iy466 (by decide))) dX10_put_48 (fun H locs E467 pw468 hI hP hS => ?_)
              have hKp := hKp.pw pw468 rfl
              refine lv_iinc (v := 8) (lv' := [(2, .int 8), (3, .int y335), (0, .ref (ad 2)), (1, .int a0)]) hx hb dX10_put_51 hl (k := 1) rfl (by decide) (by decide) rfl (fun ls hl => ?_)
              refine lv_goto (tgt := 3) hx hb dX10_put_54 (by decide) ?_
              refine lv_iload_n hx hb dX10_put_3 rfl (lv_at hl 0 rfl) ?_
              refine lv_if_lt (tgt := 57) hx hb dX10_put_4 (by decide) (fun c469 => ?_) (fun c469 => ?_)
              · --4 taken
                exact absurd c469 (by decide)
              · --4 not
                refine lv_iload_n hx hb dX10_put_7 rfl (lv_at hl 3 rfl) ?_
                refine lv_iload_n hx hb dX10_put_8 rfl (lv_at hl 0 rfl) ?_
                refine lv_iushr hx hb dX10_put_9 rfl ?_
                refine lv_topi (fun y470 ey470 => ?_)
                refine lv_sipush (v := 255) hx hb dX10_put_10 (by decide) ?_
                refine lv_iand hx hb dX10_put_13 ?_
                refine lv_topi (fun y471 ey471 => ?_)
                have iy471 : 0 ≤ y471.toInt ∧ y471.toInt ≤ 255 := ti_and (by decide) ey471
                refine lv_istore_n (lv' := [(3, .int y471), (2, .int 8), (0, .ref (ad 2)), (1, .int a0)]) hx hb dX10_put_14 rfl hl (by decide) rfl (fun ls hl => ?_)
                refine lv_iload_n hx hb dX10_put_15 rfl (lv_at hl 0 rfl) ?_
                refine lv_if_eq (tgt := 51) hx hb dX10_put_16 (by decide) (fun c472 => ?_) (fun c472 => ?_)
                · --16 taken
                  have t473 : y471.toInt = 0 := ti_eq c472
                  have i474 : 0 ≤ y471.toInt ∧ y471.toInt ≤ 0 := iv_eqi t473 iy471 (il_ 0) (by decide)
                  refine lv_iinc (v := 0) (lv' := [(2, .int 0), (3, .int y471), (0, .ref (ad 2)), (1, .int a0)]) hx hb dX10_put_51 hl (k := 1) rfl (by decide) (by decide) rfl (fun ls hl => ?_)
                  refine lv_goto (tgt := 3) hx hb dX10_put_54 (by decide) ?_
                  refine lv_iload_n hx hb dX10_put_3 rfl (lv_at hl 0 rfl) ?_
                  refine lv_if_lt (tgt := 57) hx hb dX10_put_4 (by decide) (fun c475 => ?_) (fun c475 => ?_)
                  · --4 taken
                    exact absurd c475 (by decide)
                  · --4 not
                    refine lv_iload_n hx hb dX10_put_7 rfl (lv_at hl 3 rfl) ?_
                    refine lv_iload_n hx hb dX10_put_8 rfl (lv_at hl 0 rfl) ?_
                    refine lv_iushr hx hb dX10_put_9 rfl ?_
                    refine lv_topi (fun y476 ey476 => ?_)
                    refine lv_sipush (v := 255) hx hb dX10_put_10 (by decide) ?_
                    refine lv_iand hx hb dX10_put_13 ?_
                    refine lv_topi (fun y477 ey477 => ?_)
                    have iy477 : 0 ≤ y477.toInt ∧ y477.toInt ≤ 255 := ti_and (by decide) ey477
                    refine lv_istore_n (lv' := [(3, .int y477), (2, .int 0), (0, .ref (ad 2)), (1, .int a0)]) hx hb dX10_put_14 rfl hl (by decide) rfl (fun ls hl => ?_)
                    refine lv_iload_n hx hb dX10_put_15 rfl (lv_at hl 0 rfl) ?_
                    refine lv_if_eq (tgt := 51) hx hb dX10_put_16 (by decide) (fun c478 => ?_) (fun c478 => ?_)
                    · --16 taken
                      have t479 : y477.toInt = 0 := ti_eq c478
                      have i480 : 0 ≤ y477.toInt ∧ y477.toInt ≤ 0 := iv_eqi t479 iy477 (il_ 0) (by decide)
                      refine lv_iinc (v := -8) (lv' := [(2, .int (-8)), (3, .int y477), (0, .ref (ad 2)), (1, .int a0)]) hx hb dX10_put_51 hl (k := 1) rfl (by decide) (by decide) rfl (fun ls hl => ?_)
                      refine lv_goto (tgt := 3) hx hb dX10_put_54 (by decide) ?_
                      refine lv_iload_n hx hb dX10_put_3 rfl (lv_at hl 0 rfl) ?_
                      refine lv_if_lt (tgt := 57) hx hb dX10_put_4 (by decide) (fun c481 => ?_) (fun c481 => ?_)
                      · --4 taken
                        rw [hQ]
                        exact W.vret hx hb hr (fun t ht hW => ⟨⟨E467, rfl, ⟨hI, hKp, trivial⟩, by show va_P (dC, dI) vwCl (WL (LC cf) ad E467) t.heap; rw [ht]; exact hP⟩, hS.F ht⟩) hS.2.2 dX10_put_57
                      · --4 not
                        exact absurd c481 (by decide)
                    · --16 not
                      have t482 : ¬ y477.toInt = 0 := ti_ne c478
                      have i483 : 1 ≤ y477.toInt ∧ y477.toInt ≤ 255 := iv_ne_l t482 iy477 (il_ 0)
                      refine lv_aload_n hx hb dX10_put_19 rfl (lv_at hl 2 rfl) ?_
                      refine th_getL (ci := 11) (C := RX10) (T := TX10) (N := 10) (v := .int y466) hx hb hts hinX10 hown hK hP hI 2 (mF 2 rfl) rfl rfl 1 (Nat.le_of_ble_eq_true rfl) (hts _ (vA_in _ _ (in_8 _ (List.mem_of_getElem? (i := 20) rfl)))) (fun _ h9 => h9) pw468.1 dX10_put_20 ?_
                      refine lv_aload_n hx hb dX10_put_23 rfl (lv_at hl 2 rfl) ?_
                      refine th_getL (ci := 11) (C := RX10) (T := TX10) (N := 10) (v := .ref (ad 21)) hx hb hts hinX10 hown hK hP hI 2 (mF 2 rfl) rfl rfl 0 (Nat.le_of_ble_eq_true rfl) (hts _ (vA_in _ _ (in_8 _ (List.mem_of_getElem? (i := 17) rfl)))) (fun _ h9 => h9) (hI.fr 2 (mF 2 rfl) rfl (Nat.le_of_ble_eq_true rfl) 21 rfl) dX10_put_24 ?_
                      refine va_alen (v := 200) hx hb hK hP (posL 21 (LC cf)) 0 (hI.ar 21 (mF 21 rfl) rfl) rfl rfl dX10_put_27 ?_
                      refine lv_icmp_ge (tgt := 51) hx hb dX10_put_28 (by decide) (fun c484 => ?_) (fun c484 => ?_)
                      · --28 taken
                        have t485 : (200 : Int) ≤ y466.toInt := ti_le c484
                        have i486 : 200 ≤ y466.toInt ∧ y466.toInt ≤ 200 := iv_le_r t485 (il_ 200) iy466 (by decide)
                        refine lv_iinc (v := -8) (lv' := [(2, .int (-8)), (3, .int y477), (0, .ref (ad 2)), (1, .int a0)]) hx hb dX10_put_51 hl (k := 1) rfl (by decide) (by decide) rfl (fun ls hl => ?_)
                        refine lv_goto (tgt := 3) hx hb dX10_put_54 (by decide) ?_
                        refine lv_iload_n hx hb dX10_put_3 rfl (lv_at hl 0 rfl) ?_
                        refine lv_if_lt (tgt := 57) hx hb dX10_put_4 (by decide) (fun c487 => ?_) (fun c487 => ?_)
                        · --4 taken
                          rw [hQ]
                          exact W.vret hx hb hr (fun t ht hW => ⟨⟨E467, rfl, ⟨hI, hKp, trivial⟩, by show va_P (dC, dI) vwCl (WL (LC cf) ad E467) t.heap; rw [ht]; exact hP⟩, hS.F ht⟩) hS.2.2 dX10_put_57
                        · --4 not
                          exact absurd c487 (by decide)
                      · --28 not
                        have t488 : y466.toInt < 200 := ti_nle c484
                        have i489 : 2 ≤ y466.toInt ∧ y466.toInt ≤ 199 := iv_lt_l t488 iy466 (il_ 200) (by decide)
                        refine lv_aload_n hx hb dX10_put_31 rfl (lv_at hl 2 rfl) ?_
                        refine th_getL (ci := 11) (C := RX10) (T := TX10) (N := 10) (v := .ref (ad 21)) hx hb hts hinX10 hown hK hP hI 2 (mF 2 rfl) rfl rfl 0 (Nat.le_of_ble_eq_true rfl) (hts _ (vA_in _ _ (in_8 _ (List.mem_of_getElem? (i := 17) rfl)))) (fun _ h9 => h9) (hI.fr 2 (mF 2 rfl) rfl (Nat.le_of_ble_eq_true rfl) 21 rfl) dX10_put_32 ?_
                        refine lv_aload_n hx hb dX10_put_35 rfl (lv_at hl 2 rfl) ?_
                        refine th_getL (ci := 11) (C := RX10) (T := TX10) (N := 10) (v := .int y466) hx hb hts hinX10 hown hK hP hI 2 (mF 2 rfl) rfl rfl 1 (Nat.le_of_ble_eq_true rfl) (hts _ (vA_in _ _ (in_8 _ (List.mem_of_getElem? (i := 20) rfl)))) (fun _ h9 => h9) pw468.1 dX10_put_36 ?_
                        refine lv_iload_n hx hb dX10_put_39 rfl (lv_at hl 0 rfl) ?_
                        have n490 : vp_in y466 200 := (iv_in (n := 200) i489 (by decide))
                        refine th_iastL hx hb hK hP (WL_D hD) hS hI 21 (mF 21 rfl) rfl rfl n490 (okI rfl (iv_w i483 (by decide))) dX10_put_40 (fun H locs E491 pw492 hI hP hS => ?_)
                        have hKp := hKp.pw pw492 rfl
                        refine lv_aload_n hx hb dX10_put_41 rfl (lv_at hl 2 rfl) ?_
                        refine lv_dup hx hb dX10_put_42 rfl ?_
                        refine th_getL (ci := 11) (C := RX10) (T := TX10) (N := 10) (v := .int y466) hx hb hts hinX10 hown hK hP hI 2 (mF 2 rfl) rfl rfl 1 (Nat.le_of_ble_eq_true rfl) (hts _ (vA_in _ _ (in_8 _ (List.mem_of_getElem? (i := 20) rfl)))) (fun _ h9 => h9) ((pw492.2 2 1 (fun q9 => absurd q9.1 (Nat.ne_of_beq_eq_false rfl))).trans pw468.1) dX10_put_43 ?_
                        refine lv_iconst (v := 1) hx hb dX10_put_46 (by decide) ?_
                        refine lv_iadd hx hb dX10_put_47 ?_
                        refine lv_topi (fun y493 ey493 => ?_)
                        obtain ⟨ty493, iy493⟩ := ti_add (e := 3) (f := 200) i489 ln_1 ey493 (by decide)
                        have ty493 : y493.toInt = y466.toInt + 1 := ty493
                        have iy493 : 3 ≤ y493.toInt ∧ y493.toInt ≤ 200 := iy493
                        refine th_putL (ci := 11) (C := RX10) (T := TX10) (N := 10) (v := .int y493) (ty := .int) hx hb hts hinX10 tyX10 tyX10_ok nmX10 hown hK hP (WL_D hD) hS hI 2 (mF 2 rfl) rfl rfl 1 (Nat.le_of_ble_eq_true rfl) (hts _ (vA_in _ _ (in_8 _ (List.mem_of_getElem? (i := 20) rfl)))) (fun _ h9 => h9) rfl (by decide +kernel) rfl rfl (okI rfl (iv_w iy493 (by decide))) dX10_put_48 (fun H locs E494 pw495 hI hP hS => ?_)
                        have hKp := hKp.pw pw495 rfl
                        refine lv_iinc (v := -8) (lv' := [(2, .int (-8)), (3, .int y477), (0, .ref (ad 2)), (1, .int a0)]) hx hb dX10_put_51 hl (k := 1) rfl (by decide) (by decide) rfl (fun ls hl => ?_)
                        refine lv_goto (tgt := 3) hx hb dX10_put_54 (by decide) ?_
                        refine lv_iload_n hx hb dX10_put_3 rfl (lv_at hl 0 rfl) ?_
                        refine lv_if_lt (tgt := 57) hx hb dX10_put_4 (by decide) (fun c496 => ?_) (fun c496 => ?_)
                        · --4 taken
                          rw [hQ]
                          exact W.vret hx hb hr (fun t ht hW => ⟨⟨E494, rfl, ⟨hI, hKp, trivial⟩, by show va_P (dC, dI) vwCl (WL (LC cf) ad E494) t.heap; rw [ht]; exact hP⟩, hS.F ht⟩) hS.2.2 dX10_put_57
                        · --4 not
                          exact absurd c496 (by decide)
                · --16 not
                  have t497 : ¬ y471.toInt = 0 := ti_ne c472
                  have i498 : 1 ≤ y471.toInt ∧ y471.toInt ≤ 255 := iv_ne_l t497 iy471 (il_ 0)
                  refine lv_aload_n hx hb dX10_put_19 rfl (lv_at hl 2 rfl) ?_
                  refine th_getL (ci := 11) (C := RX10) (T := TX10) (N := 10) (v := .int y466) hx hb hts hinX10 hown hK hP hI 2 (mF 2 rfl) rfl rfl 1 (Nat.le_of_ble_eq_true rfl) (hts _ (vA_in _ _ (in_8 _ (List.mem_of_getElem? (i := 20) rfl)))) (fun _ h9 => h9) pw468.1 dX10_put_20 ?_
                  refine lv_aload_n hx hb dX10_put_23 rfl (lv_at hl 2 rfl) ?_
                  refine th_getL (ci := 11) (C := RX10) (T := TX10) (N := 10) (v := .ref (ad 21)) hx hb hts hinX10 hown hK hP hI 2 (mF 2 rfl) rfl rfl 0 (Nat.le_of_ble_eq_true rfl) (hts _ (vA_in _ _ (in_8 _ (List.mem_of_getElem? (i := 17) rfl)))) (fun _ h9 => h9) (hI.fr 2 (mF 2 rfl) rfl (Nat.le_of_ble_eq_true rfl) 21 rfl) dX10_put_24 ?_
                  refine va_alen (v := 200) hx hb hK hP (posL 21 (LC cf)) 0 (hI.ar 21 (mF 21 rfl) rfl) rfl rfl dX10_put_27 ?_
                  refine lv_icmp_ge (tgt := 51) hx hb dX10_put_28 (by decide) (fun c499 => ?_) (fun c499 => ?_)
                  · --28 taken
                    have t500 : (200 : Int) ≤ y466.toInt := ti_le c499
                    have i501 : 200 ≤ y466.toInt ∧ y466.toInt ≤ 200 := iv_le_r t500 (il_ 200) iy466 (by decide)
                    refine lv_iinc (v := 0) (lv' := [(2, .int 0), (3, .int y471), (0, .ref (ad 2)), (1, .int a0)]) hx hb dX10_put_51 hl (k := 1) rfl (by decide) (by decide) rfl (fun ls hl => ?_)
                    refine lv_goto (tgt := 3) hx hb dX10_put_54 (by decide) ?_
                    refine lv_iload_n hx hb dX10_put_3 rfl (lv_at hl 0 rfl) ?_
                    refine lv_if_lt (tgt := 57) hx hb dX10_put_4 (by decide) (fun c502 => ?_) (fun c502 => ?_)
                    · --4 taken
                      exact absurd c502 (by decide)
                    · --4 not
                      refine lv_iload_n hx hb dX10_put_7 rfl (lv_at hl 3 rfl) ?_
                      refine lv_iload_n hx hb dX10_put_8 rfl (lv_at hl 0 rfl) ?_
                      refine lv_iushr hx hb dX10_put_9 rfl ?_
                      refine lv_topi (fun y503 ey503 => ?_)
                      refine lv_sipush (v := 255) hx hb dX10_put_10 (by decide) ?_
                      refine lv_iand hx hb dX10_put_13 ?_
                      refine lv_topi (fun y504 ey504 => ?_)
                      have iy504 : 0 ≤ y504.toInt ∧ y504.toInt ≤ 255 := ti_and (by decide) ey504
                      refine lv_istore_n (lv' := [(3, .int y504), (2, .int 0), (0, .ref (ad 2)), (1, .int a0)]) hx hb dX10_put_14 rfl hl (by decide) rfl (fun ls hl => ?_)
                      refine lv_iload_n hx hb dX10_put_15 rfl (lv_at hl 0 rfl) ?_
                      refine lv_if_eq (tgt := 51) hx hb dX10_put_16 (by decide) (fun c505 => ?_) (fun c505 => ?_)
                      · --16 taken
                        have t506 : y504.toInt = 0 := ti_eq c505
                        have i507 : 0 ≤ y504.toInt ∧ y504.toInt ≤ 0 := iv_eqi t506 iy504 (il_ 0) (by decide)
                        refine lv_iinc (v := -8) (lv' := [(2, .int (-8)), (3, .int y504), (0, .ref (ad 2)), (1, .int a0)]) hx hb dX10_put_51 hl (k := 1) rfl (by decide) (by decide) rfl (fun ls hl => ?_)
                        refine lv_goto (tgt := 3) hx hb dX10_put_54 (by decide) ?_
                        refine lv_iload_n hx hb dX10_put_3 rfl (lv_at hl 0 rfl) ?_
                        refine lv_if_lt (tgt := 57) hx hb dX10_put_4 (by decide) (fun c508 => ?_) (fun c508 => ?_)
                        · --4 taken
                          rw [hQ]
                          exact W.vret hx hb hr (fun t ht hW => ⟨⟨E467, rfl, ⟨hI, hKp, trivial⟩, by show va_P (dC, dI) vwCl (WL (LC cf) ad E467) t.heap; rw [ht]; exact hP⟩, hS.F ht⟩) hS.2.2 dX10_put_57
                        · --4 not
                          exact absurd c508 (by decide)
                      · --16 not
                        have t509 : ¬ y504.toInt = 0 := ti_ne c505
                        have i510 : 1 ≤ y504.toInt ∧ y504.toInt ≤ 255 := iv_ne_l t509 iy504 (il_ 0)
                        refine lv_aload_n hx hb dX10_put_19 rfl (lv_at hl 2 rfl) ?_
                        refine th_getL (ci := 11) (C := RX10) (T := TX10) (N := 10) (v := .int y466) hx hb hts hinX10 hown hK hP hI 2 (mF 2 rfl) rfl rfl 1 (Nat.le_of_ble_eq_true rfl) (hts _ (vA_in _ _ (in_8 _ (List.mem_of_getElem? (i := 20) rfl)))) (fun _ h9 => h9) pw468.1 dX10_put_20 ?_
                        refine lv_aload_n hx hb dX10_put_23 rfl (lv_at hl 2 rfl) ?_
                        refine th_getL (ci := 11) (C := RX10) (T := TX10) (N := 10) (v := .ref (ad 21)) hx hb hts hinX10 hown hK hP hI 2 (mF 2 rfl) rfl rfl 0 (Nat.le_of_ble_eq_true rfl) (hts _ (vA_in _ _ (in_8 _ (List.mem_of_getElem? (i := 17) rfl)))) (fun _ h9 => h9) (hI.fr 2 (mF 2 rfl) rfl (Nat.le_of_ble_eq_true rfl) 21 rfl) dX10_put_24 ?_
                        refine va_alen (v := 200) hx hb hK hP (posL 21 (LC cf)) 0 (hI.ar 21 (mF 21 rfl) rfl) rfl rfl dX10_put_27 ?_
                        refine lv_icmp_ge (tgt := 51) hx hb dX10_put_28 (by decide) (fun c511 => ?_) (fun c511 => ?_)
                        · --28 taken
                          have t512 : (200 : Int) ≤ y466.toInt := ti_le c511
                          refine lv_iinc (v := -8) (lv' := [(2, .int (-8)), (3, .int y504), (0, .ref (ad 2)), (1, .int a0)]) hx hb dX10_put_51 hl (k := 1) rfl (by decide) (by decide) rfl (fun ls hl => ?_)
                          refine lv_goto (tgt := 3) hx hb dX10_put_54 (by decide) ?_
                          refine lv_iload_n hx hb dX10_put_3 rfl (lv_at hl 0 rfl) ?_
                          refine lv_if_lt (tgt := 57) hx hb dX10_put_4 (by decide) (fun c513 => ?_) (fun c513 => ?_)
                          · --4 taken
                            rw [hQ]
                            exact W.vret hx hb hr (fun t ht hW => ⟨⟨E467, rfl, ⟨hI, hKp, trivial⟩, by show va_P (dC, dI) vwCl (WL (LC cf) ad E467) t.heap; rw [ht]; exact hP⟩, hS.F ht⟩) hS.2.2 dX10_put_57
                          · --4 not
                            exact absurd c513 (by decide)
                        · --28 not
                          have t514 : y466.toInt < 200 := ti_nle c511
                          have i515 : 200 ≤ y466.toInt ∧ y466.toInt ≤ 199 := iv_lt_l t514 i501 (il_ 200) (by decide)
                          exact iv_no i515 (by decide)
                  · --28 not
                    have t516 : y466.toInt < 200 := ti_nle c499
                    have i517 : 2 ≤ y466.toInt ∧ y466.toInt ≤ 199 := iv_lt_l t516 iy466 (il_ 200) (by decide)
                    refine lv_aload_n hx hb dX10_put_31 rfl (lv_at hl 2 rfl) ?_
                    refine th_getL (ci := 11) (C := RX10) (T := TX10) (N := 10) (v := .ref (ad 21)) hx hb hts hinX10 hown hK hP hI 2 (mF 2 rfl) rfl rfl 0 (Nat.le_of_ble_eq_true rfl) (hts _ (vA_in _ _ (in_8 _ (List.mem_of_getElem? (i := 17) rfl)))) (fun _ h9 => h9) (hI.fr 2 (mF 2 rfl) rfl (Nat.le_of_ble_eq_true rfl) 21 rfl) dX10_put_32 ?_
                    refine lv_aload_n hx hb dX10_put_35 rfl (lv_at hl 2 rfl) ?_
                    refine th_getL (ci := 11) (C := RX10) (T := TX10) (N := 10) (v := .int y466) hx hb hts hinX10 hown hK hP hI 2 (mF 2 rfl) rfl rfl 1 (Nat.le_of_ble_eq_true rfl) (hts _ (vA_in _ _ (in_8 _ (List.mem_of_getElem? (i := 20) rfl)))) (fun _ h9 => h9) pw468.1 dX10_put_36 ?_
                    refine lv_iload_n hx hb dX10_put_39 rfl (lv_at hl 0 rfl) ?_
                    have n518 : vp_in y466 200 := (iv_in (n := 200) i517 (by decide))
                    refine th_iastL hx hb hK hP (WL_D hD) hS hI 21 (mF 21 rfl) rfl rfl n518 (okI rfl (iv_w i498 (by decide))) dX10_put_40 (fun H locs E519 pw520 hI hP hS => ?_)
                    have hKp := hKp.pw pw520 rfl
                    refine lv_aload_n hx hb dX10_put_41 rfl (lv_at hl 2 rfl) ?_
                    refine lv_dup hx hb dX10_put_42 rfl ?_
                    refine th_getL (ci := 11) (C := RX10) (T := TX10) (N := 10) (v := .int y466) hx hb hts hinX10 hown hK hP hI 2 (mF 2 rfl) rfl rfl 1 (Nat.le_of_ble_eq_true rfl) (hts _ (vA_in _ _ (in_8 _ (List.mem_of_getElem? (i := 20) rfl)))) (fun _ h9 => h9) ((pw520.2 2 1 (fun q9 => absurd q9.1 (Nat.ne_of_beq_eq_false rfl))).trans pw468.1) dX10_put_43 ?_
                    refine lv_iconst (v := 1) hx hb dX10_put_46 (by decide) ?_
                    refine lv_iadd hx hb dX10_put_47 ?_
                    refine lv_topi (fun y521 ey521 => ?_)
                    obtain ⟨ty521, iy521⟩ := ti_add (e := 3) (f := 200) i517 ln_1 ey521 (by decide)
                    have ty521 : y521.toInt = y466.toInt + 1 := ty521
                    have iy521 : 3 ≤ y521.toInt ∧ y521.toInt ≤ 200 := iy521
                    refine th_putL (ci := 11) (C := RX10) (T := TX10) (N := 10) (v := .int y521) (ty := .int) hx hb hts hinX10 tyX10 tyX10_ok nmX10 hown hK hP (WL_D hD) hS hI 2 (mF 2 rfl) rfl rfl 1 (Nat.le_of_ble_eq_true rfl) (hts _ (vA_in _ _ (in_8 _ (List.mem_of_getElem? (i := 20) rfl)))) (fun _ h9 => h9) rfl (by decide +kernel) rfl rfl (okI rfl (iv_w iy521 (by decide))) dX10_put_48 (fun H locs E522 pw523 hI hP hS => ?_)
                    have hKp := hKp.pw pw523 rfl
                    refine lv_iinc (v := 0) (lv' := [(2, .int 0), (3, .int y471), (0, .ref (ad 2)), (1, .int a0)]) hx hb dX10_put_51 hl (k := 1) rfl (by decide) (by decide) rfl (fun ls hl => ?_)
                    refine lv_goto (tgt := 3) hx hb dX10_put_54 (by decide) ?_
                    refine lv_iload_n hx hb dX10_put_3 rfl (lv_at hl 0 rfl) ?_
                    refine lv_if_lt (tgt := 57) hx hb dX10_put_4 (by decide) (fun c524 => ?_) (fun c524 => ?_)
                    · --4 taken
                      exact absurd c524 (by decide)
                    · --4 not
                      refine lv_iload_n hx hb dX10_put_7 rfl (lv_at hl 3 rfl) ?_
                      refine lv_iload_n hx hb dX10_put_8 rfl (lv_at hl 0 rfl) ?_
                      refine lv_iushr hx hb dX10_put_9 rfl ?_
                      refine lv_topi (fun y525 ey525 => ?_)
                      refine lv_sipush (v := 255) hx hb dX10_put_10 (by decide) ?_
                      refine lv_iand hx hb dX10_put_13 ?_
                      refine lv_topi (fun y526 ey526 => ?_)
                      have iy526 : 0 ≤ y526.toInt ∧ y526.toInt ≤ 255 := ti_and (by decide) ey526
                      refine lv_istore_n (lv' := [(3, .int y526), (2, .int 0), (0, .ref (ad 2)), (1, .int a0)]) hx hb dX10_put_14 rfl hl (by decide) rfl (fun ls hl => ?_)
                      refine lv_iload_n hx hb dX10_put_15 rfl (lv_at hl 0 rfl) ?_
                      refine lv_if_eq (tgt := 51) hx hb dX10_put_16 (by decide) (fun c527 => ?_) (fun c527 => ?_)
                      · --16 taken
                        have t528 : y526.toInt = 0 := ti_eq c527
                        have i529 : 0 ≤ y526.toInt ∧ y526.toInt ≤ 0 := iv_eqi t528 iy526 (il_ 0) (by decide)
                        refine lv_iinc (v := -8) (lv' := [(2, .int (-8)), (3, .int y526), (0, .ref (ad 2)), (1, .int a0)]) hx hb dX10_put_51 hl (k := 1) rfl (by decide) (by decide) rfl (fun ls hl => ?_)
                        refine lv_goto (tgt := 3) hx hb dX10_put_54 (by decide) ?_
                        refine lv_iload_n hx hb dX10_put_3 rfl (lv_at hl 0 rfl) ?_
                        refine lv_if_lt (tgt := 57) hx hb dX10_put_4 (by decide) (fun c530 => ?_) (fun c530 => ?_)
                        · --4 taken
                          rw [hQ]
                          exact W.vret hx hb hr (fun t ht hW => ⟨⟨E522, rfl, ⟨hI, hKp, trivial⟩, by show va_P (dC, dI) vwCl (WL (LC cf) ad E522) t.heap; rw [ht]; exact hP⟩, hS.F ht⟩) hS.2.2 dX10_put_57
                        · --4 not
                          exact absurd c530 (by decide)
                      · --16 not
                        have t531 : ¬ y526.toInt = 0 := ti_ne c527
                        have i532 : 1 ≤ y526.toInt ∧ y526.toInt ≤ 255 := iv_ne_l t531 iy526 (il_ 0)
                        refine lv_aload_n hx hb dX10_put_19 rfl (lv_at hl 2 rfl) ?_
                        refine th_getL (ci := 11) (C := RX10) (T := TX10) (N := 10) (v := .int y521) hx hb hts hinX10 hown hK hP hI 2 (mF 2 rfl) rfl rfl 1 (Nat.le_of_ble_eq_true rfl) (hts _ (vA_in _ _ (in_8 _ (List.mem_of_getElem? (i := 20) rfl)))) (fun _ h9 => h9) pw523.1 dX10_put_20 ?_
                        refine lv_aload_n hx hb dX10_put_23 rfl (lv_at hl 2 rfl) ?_
                        refine th_getL (ci := 11) (C := RX10) (T := TX10) (N := 10) (v := .ref (ad 21)) hx hb hts hinX10 hown hK hP hI 2 (mF 2 rfl) rfl rfl 0 (Nat.le_of_ble_eq_true rfl) (hts _ (vA_in _ _ (in_8 _ (List.mem_of_getElem? (i := 17) rfl)))) (fun _ h9 => h9) (hI.fr 2 (mF 2 rfl) rfl (Nat.le_of_ble_eq_true rfl) 21 rfl) dX10_put_24 ?_
                        refine va_alen (v := 200) hx hb hK hP (posL 21 (LC cf)) 0 (hI.ar 21 (mF 21 rfl) rfl) rfl rfl dX10_put_27 ?_
                        refine lv_icmp_ge (tgt := 51) hx hb dX10_put_28 (by decide) (fun c533 => ?_) (fun c533 => ?_)
                        · --28 taken
                          have t534 : (200 : Int) ≤ y521.toInt := ti_le c533
                          have i535 : 200 ≤ y521.toInt ∧ y521.toInt ≤ 200 := iv_le_r t534 (il_ 200) iy521 (by decide)
                          refine lv_iinc (v := -8) (lv' := [(2, .int (-8)), (3, .int y526), (0, .ref (ad 2)), (1, .int a0)]) hx hb dX10_put_51 hl (k := 1) rfl (by decide) (by decide) rfl (fun ls hl => ?_)
                          refine lv_goto (tgt := 3) hx hb dX10_put_54 (by decide) ?_
                          refine lv_iload_n hx hb dX10_put_3 rfl (lv_at hl 0 rfl) ?_
                          refine lv_if_lt (tgt := 57) hx hb dX10_put_4 (by decide) (fun c536 => ?_) (fun c536 => ?_)
                          · --4 taken
                            rw [hQ]
                            exact W.vret hx hb hr (fun t ht hW => ⟨⟨E522, rfl, ⟨hI, hKp, trivial⟩, by show va_P (dC, dI) vwCl (WL (LC cf) ad E522) t.heap; rw [ht]; exact hP⟩, hS.F ht⟩) hS.2.2 dX10_put_57
                          · --4 not
                            exact absurd c536 (by decide)
                        · --28 not
                          have t537 : y521.toInt < 200 := ti_nle c533
                          have i538 : 3 ≤ y521.toInt ∧ y521.toInt ≤ 199 := iv_lt_l t537 iy521 (il_ 200) (by decide)
                          refine lv_aload_n hx hb dX10_put_31 rfl (lv_at hl 2 rfl) ?_
                          refine th_getL (ci := 11) (C := RX10) (T := TX10) (N := 10) (v := .ref (ad 21)) hx hb hts hinX10 hown hK hP hI 2 (mF 2 rfl) rfl rfl 0 (Nat.le_of_ble_eq_true rfl) (hts _ (vA_in _ _ (in_8 _ (List.mem_of_getElem? (i := 17) rfl)))) (fun _ h9 => h9) (hI.fr 2 (mF 2 rfl) rfl (Nat.le_of_ble_eq_true rfl) 21 rfl) dX10_put_32 ?_
                          refine lv_aload_n hx hb dX10_put_35 rfl (lv_at hl 2 rfl) ?_
                          refine th_getL (ci := 11) (C := RX10) (T := TX10) (N := 10) (v := .int y521) hx hb hts hinX10 hown hK hP hI 2 (mF 2 rfl) rfl rfl 1 (Nat.le_of_ble_eq_true rfl) (hts _ (vA_in _ _ (in_8 _ (List.mem_of_getElem? (i := 20) rfl)))) (fun _ h9 => h9) pw523.1 dX10_put_36 ?_
                          refine lv_iload_n hx hb dX10_put_39 rfl (lv_at hl 0 rfl) ?_
                          have n539 : vp_in y521 200 := (iv_in (n := 200) i538 (by decide))
                          refine th_iastL hx hb hK hP (WL_D hD) hS hI 21 (mF 21 rfl) rfl rfl n539 (okI rfl (iv_w i532 (by decide))) dX10_put_40 (fun H locs E540 pw541 hI hP hS => ?_)
                          have hKp := hKp.pw pw541 rfl
                          refine lv_aload_n hx hb dX10_put_41 rfl (lv_at hl 2 rfl) ?_
                          refine lv_dup hx hb dX10_put_42 rfl ?_
                          refine th_getL (ci := 11) (C := RX10) (T := TX10) (N := 10) (v := .int y521) hx hb hts hinX10 hown hK hP hI 2 (mF 2 rfl) rfl rfl 1 (Nat.le_of_ble_eq_true rfl) (hts _ (vA_in _ _ (in_8 _ (List.mem_of_getElem? (i := 20) rfl)))) (fun _ h9 => h9) ((pw541.2 2 1 (fun q9 => absurd q9.1 (Nat.ne_of_beq_eq_false rfl))).trans pw523.1) dX10_put_43 ?_
                          refine lv_iconst (v := 1) hx hb dX10_put_46 (by decide) ?_
                          refine lv_iadd hx hb dX10_put_47 ?_
                          refine lv_topi (fun y542 ey542 => ?_)
                          obtain ⟨ty542, iy542⟩ := ti_add (e := 4) (f := 200) i538 ln_1 ey542 (by decide)
                          have ty542 : y542.toInt = y521.toInt + 1 := ty542
                          have iy542 : 4 ≤ y542.toInt ∧ y542.toInt ≤ 200 := iy542
                          refine th_putL (ci := 11) (C := RX10) (T := TX10) (N := 10) (v := .int y542) (ty := .int) hx hb hts hinX10 tyX10 tyX10_ok nmX10 hown hK hP (WL_D hD) hS hI 2 (mF 2 rfl) rfl rfl 1 (Nat.le_of_ble_eq_true rfl) (hts _ (vA_in _ _ (in_8 _ (List.mem_of_getElem? (i := 20) rfl)))) (fun _ h9 => h9) rfl (by decide +kernel) rfl rfl (okI rfl (iv_w iy542 (by decide))) dX10_put_48 (fun H locs E543 pw544 hI hP hS => ?_)
                          have hKp := hKp.pw pw544 rfl
                          refine lv_iinc (v := -8) (lv' := [(2, .int (-8)), (3, .int y526), (0, .ref (ad 2)), (1, .int a0)]) hx hb dX10_put_51 hl (k := 1) rfl (by decide) (by decide) rfl (fun ls hl => ?_)
                          refine lv_goto (tgt := 3) hx hb dX10_put_54 (by decide) ?_
                          refine lv_iload_n hx hb dX10_put_3 rfl (lv_at hl 0 rfl) ?_
                          refine lv_if_lt (tgt := 57) hx hb dX10_put_4 (by decide) (fun c545 => ?_) (fun c545 => ?_)
                          · --4 taken
                            rw [hQ]
                            exact W.vret hx hb hr (fun t ht hW => ⟨⟨E543, rfl, ⟨hI, hKp, trivial⟩, by show va_P (dC, dI) vwCl (WL (LC cf) ad E543) t.heap; rw [ht]; exact hP⟩, hS.F ht⟩) hS.2.2 dX10_put_57
                          · --4 not
                            exact absurd c545 (by decide)
def v_goDeeper : List Cond := .code yX10_goDeeper cX10_goDeeper 2 (some .boolean) :: vA
abbrev rm_goDeeper : Room := { frames := 1, cells := 0, slots := 0, locals := 40 }
def w_goDeeper : Nat → Nat → Bool := wl [] [(2, 2), (2, 3)]
set_option maxHeartbeats 4000000 in
set_option maxRecDepth 100000 in
theorem q_goDeeper (l : Launch) (dC : Nat → ClassId) (dI : Nat → Nat → Nat) (cT : Nat → ClassId) (cf : Nat → Nat) (hC : CF cf) (ad : Nat → Nat) (E : Nat → va_E) (sz : Nat) (a0 : Int32) (hI0 : IXL cT (shC cf) (spC cf) (LC cf) ad E) (hh0 : 0 ≤ a0.toInt ∧ a0.toInt ≤ 8) (hh1 : (xi (E 2) 2).toInt < (xi (E 2) 1).toInt) : Met l yX10_goDeeper v_goDeeper rm_goDeeper (va_Pc [.ref (ad 2), .int a0] (HWL dC dI (TYC cT) cf ad E sz)) (va_Qi (S := Nat → va_E) (fun r u => IXL cT (shC cf) (spC cf) (LC cf) ad u ∧ Kp w_goDeeper E u ∧ ((r = 1 ∧ (0 ≤ a0.toInt ∧ a0.toInt ≤ 7)) ∨ (r = 0))) (HBL dC dI (LC cf) ad) (va_A (WL (LC cf) ad E) sz)) 0 0 (va_A (WL (LC cf) ad E) sz) := by
  obtain ⟨⟨hc0, hc1, hc2, hc3, hc4, hc5⟩, hcr⟩ := id hC
  refine Met.ofW (cc := cX10_goDeeper) (maxL := 2) (ret := (some .boolean)) (by decide) rfl ?_
  intro p e s m args below meth c s₁ B hml hv
  obtain ⟨hargs, hsz, hP, hK, hD0, hEV⟩ := hv
  subst hsz
  have hx := B.exec
  have hb := B.bytes
  have hr := B.returns
  have hts := atoms_spec (ws := v_goDeeper) B.pre
  have hown : s.vm.findClass RX10 = some m.cls := findClass_of_methodNamed B.named
  have hlocks := B.notSynchronized
  have hinX10 : ∀ w ∈ u_ws RX10 TX10 10, w ∈ v_goDeeper := fun w h => vA_in _ w (in_X10 w h)
  generalize hAe : va_A (WL (LC cf) ad E) s.heap.size = A at hEV ⊢
  have hA : ∀ q : Nat, s.heap.size ≤ q → A q := fun q h => by rw [← hAe]; exact Or.inr h
  have hD : va_D A (WL (LC cf) ad E) := by rw [← hAe]; exact hD0.self
  have hS : va_S A s.heap s.heap [] := va_S.rf
  have hI := hI0
  have hKp : Kp w_goDeeper E E := Kp.rf
  have hl := lv_entry ([.ref (ad 2), .int a0]) (n := 2) (Nat.le_of_ble_eq_true rfl)
  obtain ⟨Q, hQ⟩ : ∃ Q, Q = MQ below (va_Qi (S := Nat → va_E) (fun r u => IXL cT (shC cf) (spC cf) (LC cf) ad u ∧ Kp w_goDeeper E u ∧ ((r = 1 ∧ (0 ≤ a0.toInt ∧ a0.toInt ≤ 7)) ∨ (r = 0))) (HBL dC dI (LC cf) ad) (A)) args s 0 0 (A) := ⟨_, rfl⟩
  rw [← hQ, show entryFrame m args 2 = _ from (congrArg (fun z => entryFrame m z 2) hargs).trans (lg_entry_eq _ _ _)]
  generalize (lg_sl ([.ref (ad 2), .int a0]) ++ List.replicate (2 - (lg_sl ([.ref (ad 2), .int a0])).length) Slot.unset).toArray = ls at hl ⊢
  have hl : lv_has ls 2 [(0, .ref (ad 2)), (1, .int a0)] := hl
  obtain ⟨y1, ey1⟩ : ∃ y, xi (E 2) 2 = y := ⟨_, rfl⟩
  have fy1 : xv (E 2) 2 = .int y1 := (hI.fi 2 (mF 2 rfl) rfl (Nat.le_of_ble_eq_true rfl) rfl).trans (congrArg Value.int ey1)
  have i2 : 0 ≤ y1.toInt ∧ y1.toInt ≤ 200 := by rw [← ey1]; exact hI.iv 2 (mF 2 rfl) rfl (Nat.le_of_ble_eq_true rfl) rfl
  rw [ey1] at hh1
  have i3 : 0 ≤ (xi (E 2) 1).toInt ∧ (xi (E 2) 1).toInt ≤ 200 := hI0.iv 2 (mF 2 rfl) rfl (Nat.le_of_ble_eq_true rfl) rfl
  refine lv_iload_n hx hb dX10_goDeeper_0 rfl (lv_at hl 1 rfl) ?_
  refine lv_bipush (v := 8) hx hb dX10_goDeeper_1 (by decide) ?_
  refine lv_icmp_lt (tgt := 12) hx hb dX10_goDeeper_3 (by decide) (fun c4 => ?_) (fun c4 => ?_)
  · --3 taken
    have t5 : a0.toInt < 8 := ti_lt c4
    have i6 : 0 ≤ a0.toInt ∧ a0.toInt ≤ 7 := iv_lt_l t5 hh0 (il_ 8) (by decide)
    refine lv_aload_n hx hb dX10_goDeeper_12 rfl (lv_at hl 0 rfl) ?_
    refine lv_dup hx hb dX10_goDeeper_13 rfl ?_
    refine th_getL (ci := 11) (C := RX10) (T := TX10) (N := 10) (v := .int y1) hx hb hts hinX10 hown hK hP hI 2 (mF 2 rfl) rfl rfl 2 (Nat.le_of_ble_eq_true rfl) (hts _ (vA_in _ _ (in_8 _ (List.mem_of_getElem? (i := 9) rfl)))) (fun _ h9 => h9) fy1 dX10_goDeeper_14 ?_
    refine lv_iconst (v := 1) hx hb dX10_goDeeper_17 (by decide) ?_
    refine lv_iadd hx hb dX10_goDeeper_18 ?_
    refine lv_topi (fun y7 ey7 => ?_)
    obtain ⟨ty7, iy7⟩ := ti_add (e := 1) (f := 201) i2 ln_1 ey7 (by decide)
    have ty7 : y7.toInt = y1.toInt + 1 := ty7
    have iy7 : 1 ≤ y7.toInt ∧ y7.toInt ≤ 201 := iy7
    have i8 : 1 ≤ y7.toInt ∧ y7.toInt ≤ 200 := by omega
    refine th_putL (ci := 11) (C := RX10) (T := TX10) (N := 10) (v := .int y7) (ty := .int) hx hb hts hinX10 tyX10 tyX10_ok nmX10 hown hK hP (WL_D hD) hS hI 2 (mF 2 rfl) rfl rfl 2 (Nat.le_of_ble_eq_true rfl) (hts _ (vA_in _ _ (in_8 _ (List.mem_of_getElem? (i := 9) rfl)))) (fun _ h9 => h9) rfl (by decide +kernel) rfl rfl (okI rfl (iv_w i8 (by decide))) dX10_goDeeper_19 (fun H locs E9 pw10 hI hP hS => ?_)
    have hKp := hKp.pw pw10 rfl
    refine lv_iconst (v := 1) hx hb dX10_goDeeper_22 (by decide) ?_
    rw [hQ]
    exact W.zret (v := 1) hx hb hr rfl (fun t ht hW => ⟨⟨1, E9, rfl, ⟨hI, hKp, Or.inl ⟨rfl, i6⟩⟩, by show va_P (dC, dI) vwCl (WL (LC cf) ad E9) t.heap; rw [ht]; exact hP⟩, hS.F ht⟩) hS.2.2 dX10_goDeeper_23
  · --3 not
    have t11 : (8 : Int) ≤ a0.toInt := ti_nlt c4
    have i12 : 8 ≤ a0.toInt ∧ a0.toInt ≤ 8 := iv_le_r t11 (il_ 8) hh0 (by decide)
    refine lv_aload_n hx hb dX10_goDeeper_6 rfl (lv_at hl 0 rfl) ?_
    refine th_vL (va_runV (As := []) (rest := []) ⟨hx, hb, hml, hown, hts⟩ (q_failT l dC dI cT cf hC ad E s.heap.size hI) (cwV 0 hts (gi_V (in_8 _ (List.mem_of_getElem? (i := 11) rfl)) (in_8 _ (List.mem_of_getElem? (i := 12) rfl)) (in_8 _ (List.mem_of_getElem? (i := 13) rfl)) (in_8 _ (List.mem_of_getElem? (i := 14) rfl)) (in_8 _ (List.mem_of_getElem? (i := 7) rfl))) rfl rfl rfl (by decide +kernel) ⟨Nat.le_of_ble_eq_true rfl, Nat.le_of_ble_eq_true rfl⟩) ⟨HWL_bl, va_recv hK hP (ci := 11) (q0 := posL 2 (LC cf)) rfl (hI.ob 2 (mF 2 rfl) rfl), (HWL_wi hP hK (WL_D hD) hS hA hEV)⟩ rfl rfl hl.1 rfl (lv_room (Nat.le_of_ble_eq_true rfl)) dX10_goDeeper_7 ⟨Nat.le_of_ble_eq_true rfl, Nat.le_of_ble_eq_true rfl⟩) (WL_D hD) hS hA (fun E14 H locs hw hP hS => ?_)
    obtain ⟨hI, kq15, hw⟩ := hw
    have hKb := hKp
    have hKp := hKp.tr kq15 (wl_sub rfl rfl)
    refine lv_iconst (v := 0) hx hb dX10_goDeeper_10 (by decide) ?_
    rw [hQ]
    exact W.zret (v := 0) hx hb hr rfl (fun t ht hW => ⟨⟨0, E14, rfl, ⟨hI, hKp, Or.inr (rfl)⟩, by show va_P (dC, dI) vwCl (WL (LC cf) ad E14) t.heap; rw [ht]; exact hP⟩, hS.F ht⟩) hS.2.2 dX10_goDeeper_11
def v_readNumber : List Cond := .code yX10_readNumber cX10_readNumber 3 none :: vA
abbrev rm_readNumber : Room := { frames := 1, cells := 0, slots := 0, locals := 40 }
def w_readNumber : Nat → Nat → Bool := wl [22] [(2, 2), (2, 5)]
set_option maxHeartbeats 4000000 in
set_option maxRecDepth 100000 in
theorem q_readNumber (l : Launch) (dC : Nat → ClassId) (dI : Nat → Nat → Nat) (cT : Nat → ClassId) (cf : Nat → Nat) (hC : CF cf) (ad : Nat → Nat) (E : Nat → va_E) (sz : Nat)  (hI0 : IXL cT (shC cf) (spC cf) (LC cf) ad E)  : Met l yX10_readNumber v_readNumber rm_readNumber (va_Pc [.ref (ad 2)] (HWL dC dI (TYC cT) cf ad E sz)) (va_Qv (S := Nat → va_E) (fun u => IXL cT (shC cf) (spC cf) (LC cf) ad u ∧ Kp w_readNumber E u ∧ (((xi (E 2) 5).toInt ≤ (xi (u 2) 5).toInt))) (HBL dC dI (LC cf) ad) (va_A (WL (LC cf) ad E) sz)) 0 0 (va_A (WL (LC cf) ad E) sz) := by
  obtain ⟨⟨hc0, hc1, hc2, hc3, hc4, hc5⟩, hcr⟩ := id hC
  refine Met.ofW (cc := cX10_readNumber) (maxL := 3) (ret := none) (by decide) rfl ?_
  intro p e s m args below meth c s₁ B hml hv
  obtain ⟨hargs, hsz, hP, hK, hD0, hEV⟩ := hv
  subst hsz
  have hx := B.exec
  have hb := B.bytes
  have hr := B.returns
  have hts := atoms_spec (ws := v_readNumber) B.pre
  have hown : s.vm.findClass RX10 = some m.cls := findClass_of_methodNamed B.named
  have hlocks := B.notSynchronized
  have hinX10 : ∀ w ∈ u_ws RX10 TX10 10, w ∈ v_readNumber := fun w h => vA_in _ w (in_X10 w h)
  generalize hAe : va_A (WL (LC cf) ad E) s.heap.size = A at hEV ⊢
  have hA : ∀ q : Nat, s.heap.size ≤ q → A q := fun q h => by rw [← hAe]; exact Or.inr h
  have hD : va_D A (WL (LC cf) ad E) := by rw [← hAe]; exact hD0.self
  have hS : va_S A s.heap s.heap [] := va_S.rf
  have hI := hI0
  have hKp : Kp w_readNumber E E := Kp.rf
  have hl := lv_entry ([.ref (ad 2)]) (n := 3) (Nat.le_of_ble_eq_true rfl)
  obtain ⟨Q, hQ⟩ : ∃ Q, Q = MQ below (va_Qv (S := Nat → va_E) (fun u => IXL cT (shC cf) (spC cf) (LC cf) ad u ∧ Kp w_readNumber E u ∧ (((xi (E 2) 5).toInt ≤ (xi (u 2) 5).toInt))) (HBL dC dI (LC cf) ad) (A)) args s 0 0 (A) := ⟨_, rfl⟩
  rw [← hQ, show entryFrame m args 3 = _ from (congrArg (fun z => entryFrame m z 3) hargs).trans (lg_entry_eq _ _ _)]
  generalize (lg_sl ([.ref (ad 2)]) ++ List.replicate (3 - (lg_sl ([.ref (ad 2)])).length) Slot.unset).toArray = ls at hl ⊢
  have hl : lv_has ls 3 [(0, .ref (ad 2))] := hl
  obtain ⟨y1, ey1⟩ : ∃ y, xi (E 2) 5 = y := ⟨_, rfl⟩
  have fy1 : xv (E 2) 5 = .int y1 := (hI.fi 2 (mF 2 rfl) rfl (Nat.le_of_ble_eq_true rfl) rfl).trans (congrArg Value.int ey1)
  have i2 : 0 ≤ y1.toInt ∧ y1.toInt ≤ 200 := by rw [← ey1]; exact hI.iv 2 (mF 2 rfl) rfl (Nat.le_of_ble_eq_true rfl) rfl
  refine lv_iconst (v := 0) hx hb dX10_readNumber_0 (by decide) ?_
  refine lv_istore_n (lv' := [(1, .int 0), (0, .ref (ad 2))]) hx hb dX10_readNumber_1 rfl hl (by decide) rfl (fun ls hl => ?_)
  refine lv_iconst (v := 0) hx hb dX10_readNumber_2 (by decide) ?_
  refine lv_istore_n (lv' := [(2, .int 0), (1, .int 0), (0, .ref (ad 2))]) hx hb dX10_readNumber_3 rfl hl (by decide) rfl (fun ls hl => ?_)
  obtain ⟨y3, ey3⟩ : ∃ y, xi (E 2) 2 = y := ⟨_, rfl⟩
  have fy3 : xv (E 2) 2 = .int y3 := (hI.fi 2 (mF 2 rfl) rfl (Nat.le_of_ble_eq_true rfl) rfl).trans (congrArg Value.int ey3)
  have i4 : 0 ≤ y3.toInt ∧ y3.toInt ≤ 200 := by rw [← ey3]; exact hI.iv 2 (mF 2 rfl) rfl (Nat.le_of_ble_eq_true rfl) rfl
  have hL4 : ∀ d : Nat, ∀ (w4_2_2 : Int32) (v4_2 : Int32) (v4_1 : Int32) (E4_ : Nat → va_E) (H : Heap) (locs : List Loc) (ls : Array Slot), 0 ≤ w4_2_2.toInt ∧ w4_2_2.toInt ≤ 200 → 0 ≤ v4_2.toInt ∧ v4_2.toInt ≤ 5 → 5 - v4_2.toInt < (d : Int) → IXL cT (shC cf) (spC cf) (LC cf) ad E4_ → Kp w_readNumber E E4_ → xv (E4_ 2) 2 = .int w4_2_2 → xv (E4_ 2) 5 = .int y1 → va_P (dC, dI) vwCl (WL (LC cf) ad E4_) H → va_S A s.heap H locs → lv_has ls 3 [(2, .int v4_2), (1, .int v4_1), (0, .ref (ad 2))] → W p l e (headSpec v_readNumber rm_readNumber).room s m args below meth c H locs 0 0 Q (F0 m 4 ls []) := by
    intro d
    induction d with
    | zero =>
      intro w4_2_2 v4_2 v4_1 E4_ H locs ls hw4_2_2 hv4_2 hx4_0 hI hKp hs4_2_2 hs4_2_5 hP hS hl
      exact absurd hx4_0 (by omega)
    | succ d ih4 =>
      intro w4_2_2 v4_2 v4_1 E4_ H locs ls hw4_2_2 hv4_2 hx4_0 hI hKp hs4_2_2 hs4_2_5 hP hS hl
      refine lv_iload_n hx hb dX10_readNumber_4 rfl (lv_at hl 0 rfl) ?_
      refine lv_iconst (v := 5) hx hb dX10_readNumber_5 (by decide) ?_
      have hJ69 : ∀ (H : Heap) (locs : List Loc) (ls : Array Slot), va_P (dC, dI) vwCl (WL (LC cf) ad E4_) H → va_S A s.heap H locs → lv_has ls 3 [(2, .int v4_2), (1, .int v4_1), (0, .ref (ad 2))] → W p l e (headSpec v_readNumber rm_readNumber).room s m args below meth c H locs 0 0 Q (F0 m 69 ls []) := by
        intro H locs ls hP hS hl
        refine lv_aload_n hx hb dX10_readNumber_69 rfl (lv_at hl 2 rfl) ?_
        refine lv_iload_n hx hb dX10_readNumber_70 rfl (lv_at hl 1 rfl) ?_
        refine th_vL (va_runV (As := [.int v4_1]) (rest := []) ⟨hx, hb, hml, hown, hts⟩ (q_addT l dC dI cT cf hC ad E4_ H.size v4_1 hI) (cwV 1 hts (gi_V (in_9 _ (List.mem_of_getElem? (i := 7) rfl)) (in_9 _ (List.mem_of_getElem? (i := 8) rfl)) (in_9 _ (List.mem_of_getElem? (i := 9) rfl)) (in_8 _ (List.mem_of_getElem? (i := 14) rfl)) (in_7 _ (List.mem_of_getElem? (i := 29) rfl))) rfl rfl rfl (by decide +kernel) ⟨Nat.le_of_ble_eq_true rfl, Nat.le_of_ble_eq_true rfl⟩) ⟨HWL_bl, va_recv hK hP (ci := 11) (q0 := posL 2 (LC cf)) rfl (hI.ob 2 (mF 2 rfl) rfl), (HWL_wi hP hK (WL_D hD) hS hA hEV)⟩ rfl rfl hl.1 rfl (lv_room (Nat.le_of_ble_eq_true rfl)) dX10_readNumber_71 ⟨Nat.le_of_ble_eq_true rfl, Nat.le_of_ble_eq_true rfl⟩) (WL_D hD) hS hA (fun E6 H locs hw hP hS => ?_)
        obtain ⟨hI, kq7, hw⟩ := hw
        have hKb := hKp
        have hKp := hKp.tr kq7 (wl_sub rfl rfl)
        obtain ⟨y8, ey8⟩ : ∃ y, xi (E6 2) 5 = y := ⟨_, rfl⟩
        have fy8 : xv (E6 2) 5 = .int y8 := (hI.fi 2 (mF 2 rfl) rfl (Nat.le_of_ble_eq_true rfl) rfl).trans (congrArg Value.int ey8)
        have i9 : 0 ≤ y8.toInt ∧ y8.toInt ≤ 200 := by rw [← ey8]; exact hI.iv 2 (mF 2 rfl) rfl (Nat.le_of_ble_eq_true rfl) rfl
        have f10 := hw
        try rw [(show xi (E4_ 2) 5 = y1 from vi_e hs4_2_5)] at f10
        try rw [(show xi (E6 2) 5 = y8 from vi_e fy8)] at f10
        rw [hQ]
        exact W.vret hx hb hr (fun t ht hW => ⟨⟨E6, rfl, ⟨hI, hKp, (by (try rw [(show xi (E6 2) 5 = y8 from vi_e fy8)]); (try rw [ey1]); all_goals omega)⟩, by show va_P (dC, dI) vwCl (WL (LC cf) ad E6) t.heap; rw [ht]; exact hP⟩, hS.F ht⟩) hS.2.2 dX10_readNumber_74
      refine lv_icmp_ge (tgt := 69) hx hb dX10_readNumber_6 (by decide) (fun c11 => ?_) (fun c11 => ?_)
      · --6 taken
        have t12 : (5 : Int) ≤ v4_2.toInt := ti_le c11
        have i13 : 5 ≤ v4_2.toInt ∧ v4_2.toInt ≤ 5 := iv_le_r t12 (il_ 5) hv4_2 (by decide)
        exact hJ69 _ _ _ hP hS (lv_sub hl [0, 1, 2] rfl)
      · --6 not
        have t14 : v4_2.toInt < 5 := ti_nle c11
        have i15 : 0 ≤ v4_2.toInt ∧ v4_2.toInt ≤ 4 := iv_lt_l t14 hv4_2 (il_ 5) (by decide)
        refine lv_aload_n hx hb dX10_readNumber_9 rfl (lv_at hl 2 rfl) ?_
        refine th_getL (ci := 11) (C := RX10) (T := TX10) (N := 10) (v := .int w4_2_2) hx hb hts hinX10 hown hK hP hI 2 (mF 2 rfl) rfl rfl 2 (Nat.le_of_ble_eq_true rfl) (hts _ (vA_in _ _ (in_8 _ (List.mem_of_getElem? (i := 9) rfl)))) (fun _ h9 => h9) hs4_2_2 dX10_readNumber_10 ?_
        refine lv_aload_n hx hb dX10_readNumber_13 rfl (lv_at hl 2 rfl) ?_
        have i16 : 0 ≤ (xi (E 2) 1).toInt ∧ (xi (E 2) 1).toInt ≤ 200 := hI0.iv 2 (mF 2 rfl) rfl (Nat.le_of_ble_eq_true rfl) rfl
        refine th_getL (ci := 11) (C := RX10) (T := TX10) (N := 10) (v := .int (xi (E 2) 1)) hx hb hts hinX10 hown hK hP hI 2 (mF 2 rfl) rfl rfl 1 (Nat.le_of_ble_eq_true rfl) (hts _ (vA_in _ _ (in_8 _ (List.mem_of_getElem? (i := 20) rfl)))) (fun _ h9 => h9) (th_v0L hKp hI0 2 (mF 2 rfl) rfl (Nat.le_of_ble_eq_true rfl) rfl rfl) dX10_readNumber_14 ?_
        refine lv_icmp_ge (tgt := 69) hx hb dX10_readNumber_17 (by decide) (fun c17 => ?_) (fun c17 => ?_)
        · --17 taken
          have t18 : (xi (E 2) 1).toInt ≤ w4_2_2.toInt := ti_le c17
          exact hJ69 _ _ _ hP hS (lv_sub hl [0, 1, 2] rfl)
        · --17 not
          have t19 : w4_2_2.toInt < (xi (E 2) 1).toInt := ti_nle c17
          have i20 : 0 ≤ w4_2_2.toInt ∧ w4_2_2.toInt ≤ 199 := iv_lt_l t19 hw4_2_2 i16 (by decide)
          have i21 : 1 ≤ (xi (E 2) 1).toInt ∧ (xi (E 2) 1).toInt ≤ 200 := iv_lt_r t19 hw4_2_2 i16 (by decide)
          refine lv_aload_n hx hb dX10_readNumber_20 rfl (lv_at hl 2 rfl) ?_
          refine th_getL (ci := 11) (C := RX10) (T := TX10) (N := 10) (v := .ref (ad 21)) hx hb hts hinX10 hown hK hP hI 2 (mF 2 rfl) rfl rfl 0 (Nat.le_of_ble_eq_true rfl) (hts _ (vA_in _ _ (in_8 _ (List.mem_of_getElem? (i := 17) rfl)))) (fun _ h9 => h9) (hI.fr 2 (mF 2 rfl) rfl (Nat.le_of_ble_eq_true rfl) 21 rfl) dX10_readNumber_21 ?_
          refine lv_aload_n hx hb dX10_readNumber_24 rfl (lv_at hl 2 rfl) ?_
          refine th_getL (ci := 11) (C := RX10) (T := TX10) (N := 10) (v := .int w4_2_2) hx hb hts hinX10 hown hK hP hI 2 (mF 2 rfl) rfl rfl 2 (Nat.le_of_ble_eq_true rfl) (hts _ (vA_in _ _ (in_8 _ (List.mem_of_getElem? (i := 9) rfl)))) (fun _ h9 => h9) hs4_2_2 dX10_readNumber_25 ?_
          have n23 : vp_in w4_2_2 200 := (iv_in (n := 200) i20 (by decide))
          refine th_ialdL hx hb hK hP hI 21 (mF 21 rfl) rfl rfl n23 dX10_readNumber_28 (fun y22 ey22 => ?_)
          have iy22 : 0 ≤ y22.toInt ∧ y22.toInt ≤ 255 := hI.el 21 (mF 21 rfl) rfl n23 (fun _ => rfl) ey22
          have ey22 := ey22.trans (hKp.ei 21 _ rfl)
          refine th_pi (va_runS (As := [.int y22]) (rest := []) ⟨hx, hb, hml, hown, hts⟩ (q_cisDigit l y22) (va_cwS 1 hts (gi_S (in_9 _ (List.mem_of_getElem? (i := 11) rfl)) (in_9 _ (List.mem_of_getElem? (i := 12) rfl)) (in_8 _ (List.mem_of_getElem? (i := 14) rfl)) (in_8 _ (List.mem_of_getElem? (i := 18) rfl))) rfl rfl rfl (by decide +kernel) ⟨Nat.le_of_ble_eq_true rfl, Nat.le_of_ble_eq_true rfl⟩) ⟨fun _ _ _ _ q => q, fun _ _ _ => ⟨rfl, trivial⟩⟩ rfl rfl hl.1 rfl (lv_room (Nat.le_of_ble_eq_true rfl)) dX10_readNumber_29 ⟨Nat.le_of_ble_eq_true rfl, Nat.le_of_ble_eq_true rfl⟩) hS (fun r24 H1 locs1 hw hk1 hS => ?_)
          have hP := ub_keep hP hk1
          generalize H1 = H at hP hS ⊢
          generalize locs1 = locs at hS ⊢
          rcases hw with hw | hw
          · -- cisDigit, case 0
            obtain ⟨rfl, f25⟩ := hw
            refine lv_if_eq (tgt := 69) hx hb dX10_readNumber_32 (by decide) (fun c26 => ?_) (fun c26 => ?_)
            · --32 taken
              exact absurd c26 (by decide)
            · --32 not
              refine lv_iload_n hx hb dX10_readNumber_35 rfl (lv_at hl 1 rfl) ?_
              refine lv_bipush (v := 10) hx hb dX10_readNumber_36 (by decide) ?_
              refine lv_imul hx hb dX10_readNumber_38 ?_
              refine lv_topi (fun y27 ey27 => ?_)
              refine lv_aload_n hx hb dX10_readNumber_39 rfl (lv_at hl 2 rfl) ?_
              refine th_getL (ci := 11) (C := RX10) (T := TX10) (N := 10) (v := .ref (ad 21)) hx hb hts hinX10 hown hK hP hI 2 (mF 2 rfl) rfl rfl 0 (Nat.le_of_ble_eq_true rfl) (hts _ (vA_in _ _ (in_8 _ (List.mem_of_getElem? (i := 17) rfl)))) (fun _ h9 => h9) (hI.fr 2 (mF 2 rfl) rfl (Nat.le_of_ble_eq_true rfl) 21 rfl) dX10_readNumber_40 ?_
              refine lv_aload_n hx hb dX10_readNumber_43 rfl (lv_at hl 2 rfl) ?_
              refine th_getL (ci := 11) (C := RX10) (T := TX10) (N := 10) (v := .int w4_2_2) hx hb hts hinX10 hown hK hP hI 2 (mF 2 rfl) rfl rfl 2 (Nat.le_of_ble_eq_true rfl) (hts _ (vA_in _ _ (in_8 _ (List.mem_of_getElem? (i := 9) rfl)))) (fun _ h9 => h9) hs4_2_2 dX10_readNumber_44 ?_
              have n29 : vp_in w4_2_2 200 := (iv_in (n := 200) i20 (by decide))
              refine th_ialdL hx hb hK hP hI 21 (mF 21 rfl) rfl rfl n29 dX10_readNumber_47 (fun y28 ey28 => ?_)
              have iy28 : 0 ≤ y28.toInt ∧ y28.toInt ≤ 255 := hI.el 21 (mF 21 rfl) rfl n29 (fun _ => rfl) ey28
              have ey28 := ey28.trans (hKp.ei 21 _ rfl)
              refine lv_iadd hx hb dX10_readNumber_48 ?_
              refine lv_topi (fun y30 ey30 => ?_)
              refine lv_bipush (v := 48) hx hb dX10_readNumber_49 (by decide) ?_
              refine lv_isub hx hb dX10_readNumber_51 ?_
              refine lv_topi (fun y31 ey31 => ?_)
              refine lv_istore_n (lv' := [(1, .int y31), (2, .int v4_2), (0, .ref (ad 2))]) hx hb dX10_readNumber_52 rfl hl (by decide) rfl (fun ls hl => ?_)
              obtain ⟨y32, ey32⟩ : ∃ y : Int32, y = v4_2 + (1 : Int32) := ⟨_, rfl⟩
              obtain ⟨ty32, iy32⟩ := ti_add (e := 1) (f := 5) i15 ln_1 ey32 (by decide)
              have ty32 : y32.toInt = v4_2.toInt + 1 := ty32
              have iy32 : 1 ≤ y32.toInt ∧ y32.toInt ≤ 5 := iy32
              refine lv_iinc (v := y32) (lv' := [(2, .int y32), (1, .int y31), (0, .ref (ad 2))]) hx hb dX10_readNumber_53 hl (k := 1) rfl (by rw [ey32]; rfl) (by decide) rfl (fun ls hl => ?_)
              refine lv_aload_n hx hb dX10_readNumber_56 rfl (lv_at hl 2 rfl) ?_
              refine lv_dup hx hb dX10_readNumber_57 rfl ?_
              refine th_getL (ci := 11) (C := RX10) (T := TX10) (N := 10) (v := .int w4_2_2) hx hb hts hinX10 hown hK hP hI 2 (mF 2 rfl) rfl rfl 2 (Nat.le_of_ble_eq_true rfl) (hts _ (vA_in _ _ (in_8 _ (List.mem_of_getElem? (i := 9) rfl)))) (fun _ h9 => h9) hs4_2_2 dX10_readNumber_58 ?_
              refine lv_iconst (v := 1) hx hb dX10_readNumber_61 (by decide) ?_
              refine lv_iadd hx hb dX10_readNumber_62 ?_
              refine lv_topi (fun y33 ey33 => ?_)
              obtain ⟨ty33, iy33⟩ := ti_add (e := 1) (f := 200) i20 ln_1 ey33 (by decide)
              have ty33 : y33.toInt = w4_2_2.toInt + 1 := ty33
              have iy33 : 1 ≤ y33.toInt ∧ y33.toInt ≤ 200 := iy33
              refine th_putL (ci := 11) (C := RX10) (T := TX10) (N := 10) (v := .int y33) (ty := .int) hx hb hts hinX10 tyX10 tyX10_ok nmX10 hown hK hP (WL_D hD) hS hI 2 (mF 2 rfl) rfl rfl 2 (Nat.le_of_ble_eq_true rfl) (hts _ (vA_in _ _ (in_8 _ (List.mem_of_getElem? (i := 9) rfl)))) (fun _ h9 => h9) rfl (by decide +kernel) rfl rfl (okI rfl (iv_w iy33 (by decide))) dX10_readNumber_63 (fun H locs E34 pw35 hI hP hS => ?_)
              have hKp := hKp.pw pw35 rfl
              refine lv_goto (tgt := 4) hx hb dX10_readNumber_66 (by decide) ?_
              exact ih4 y33 y32 y31 E34 _ _ _ (iv_w iy33 (by decide)) (iv_w iy32 (by decide)) (by omega) hI hKp pw35.1 ((pw35.2 2 5 (fun q9 => absurd q9.2 (Nat.ne_of_beq_eq_false rfl))).trans hs4_2_5) hP hS (lv_sub hl [0, 1, 2] rfl)
          · -- cisDigit, case 1
            obtain ⟨rfl, f36⟩ := hw
            refine lv_if_eq (tgt := 69) hx hb dX10_readNumber_32 (by decide) (fun c37 => ?_) (fun c37 => ?_)
            · --32 taken
              exact hJ69 _ _ _ hP hS (lv_sub hl [0, 1, 2] rfl)
            · --32 not
              exact absurd c37 (by decide)
  exact hL4 (6) y3 (0 : Int32) (0 : Int32) E _ _ _ i4 (iv_w ln_0 (by decide)) (by have h9 := ln_0; omega) hI hKp fy3 fy1 hP hS (lv_sub hl [0, 1, 2] rfl)
def v_readAtom : List Cond := .code yX10_readAtom cX10_readAtom 3 none :: vA
abbrev rm_readAtom (n : Nat) : Room := { frames := 7 * n + 7, cells := 0, slots := 0, locals := 40 * (7 * n + 7) }
def w_readAtom : Nat → Nat → Bool := wl [22] [(2, 2), (2, 3), (2, 5)]
def C_readAtom (l : Launch) (n : Nat) : Prop := ∀ (dC : Nat → ClassId) (dI : Nat → Nat → Nat) (cT : Nat → ClassId) (cf : Nat → Nat) (hC : CF cf) (ad : Nat → Nat) (E : Nat → va_E) (sz : Nat) (a0 : Int32) (hI0 : IXL cT (shC cf) (spC cf) (LC cf) ad E) (hh0 : 0 ≤ a0.toInt ∧ a0.toInt ≤ 8) (hh1 : a0.toInt + (n : Int) = 8), Met l yX10_readAtom v_readAtom (rm_readAtom n) (va_Pc [.ref (ad 2), .int a0] (HWL dC dI (TYC cT) cf ad E sz)) (va_Qv (S := Nat → va_E) (fun u => IXL cT (shC cf) (spC cf) (LC cf) ad u ∧ Kp w_readAtom E u ∧ (((xi (E 2) 5).toInt ≤ (xi (u 2) 5).toInt))) (HBL dC dI (LC cf) ad) (va_A (WL (LC cf) ad E) sz)) 0 0 (va_A (WL (LC cf) ad E) sz)
def v_readTerm : List Cond := .code yX10_readTerm cX10_readTerm 4 none :: vA
abbrev rm_readTerm (n : Nat) : Room := { frames := 7 * n + 8, cells := 0, slots := 0, locals := 40 * (7 * n + 8) }
def w_readTerm : Nat → Nat → Bool := wl [22] [(2, 2), (2, 3), (2, 5)]
def C_readTerm (l : Launch) (n : Nat) : Prop := ∀ (dC : Nat → ClassId) (dI : Nat → Nat → Nat) (cT : Nat → ClassId) (cf : Nat → Nat) (hC : CF cf) (ad : Nat → Nat) (E : Nat → va_E) (sz : Nat) (a0 : Int32) (hI0 : IXL cT (shC cf) (spC cf) (LC cf) ad E) (hh0 : 0 ≤ a0.toInt ∧ a0.toInt ≤ 8) (hh1 : a0.toInt + (n : Int) = 8), Met l yX10_readTerm v_readTerm (rm_readTerm n) (va_Pc [.ref (ad 2), .int a0] (HWL dC dI (TYC cT) cf ad E sz)) (va_Qv (S := Nat → va_E) (fun u => IXL cT (shC cf) (spC cf) (LC cf) ad u ∧ Kp w_readTerm E u ∧ (((xi (E 2) 5).toInt ≤ (xi (u 2) 5).toInt))) (HBL dC dI (LC cf) ad) (va_A (WL (LC cf) ad E) sz)) 0 0 (va_A (WL (LC cf) ad E) sz)
def v_readSum : List Cond := .code yX10_readSum cX10_readSum 4 none :: vA
abbrev rm_readSum (n : Nat) : Room := { frames := 7 * n + 9, cells := 0, slots := 0, locals := 40 * (7 * n + 9) }
def w_readSum : Nat → Nat → Bool := wl [22] [(2, 2), (2, 3), (2, 5)]
def C_readSum (l : Launch) (n : Nat) : Prop := ∀ (dC : Nat → ClassId) (dI : Nat → Nat → Nat) (cT : Nat → ClassId) (cf : Nat → Nat) (hC : CF cf) (ad : Nat → Nat) (E : Nat → va_E) (sz : Nat) (a0 : Int32) (hI0 : IXL cT (shC cf) (spC cf) (LC cf) ad E) (hh0 : 0 ≤ a0.toInt ∧ a0.toInt ≤ 8) (hh1 : a0.toInt + (n : Int) = 8), Met l yX10_readSum v_readSum (rm_readSum n) (va_Pc [.ref (ad 2), .int a0] (HWL dC dI (TYC cT) cf ad E sz)) (va_Qv (S := Nat → va_E) (fun u => IXL cT (shC cf) (spC cf) (LC cf) ad u ∧ Kp w_readSum E u ∧ (((xi (E 2) 5).toInt ≤ (xi (u 2) 5).toInt))) (HBL dC dI (LC cf) ad) (va_A (WL (LC cf) ad E) sz)) 0 0 (va_A (WL (LC cf) ad E) sz)
def v_readComparison : List Cond := .code yX10_readComparison cX10_readComparison 3 none :: vA
abbrev rm_readComparison (n : Nat) : Room := { frames := 7 * n + 10, cells := 0, slots := 0, locals := 40 * (7 * n + 10) }
def w_readComparison : Nat → Nat → Bool := wl [22] [(2, 2), (2, 3), (2, 5)]
def C_readComparison (l : Launch) (n : Nat) : Prop := ∀ (dC : Nat → ClassId) (dI : Nat → Nat → Nat) (cT : Nat → ClassId) (cf : Nat → Nat) (hC : CF cf) (ad : Nat → Nat) (E : Nat → va_E) (sz : Nat) (a0 : Int32) (hI0 : IXL cT (shC cf) (spC cf) (LC cf) ad E) (hh0 : 0 ≤ a0.toInt ∧ a0.toInt ≤ 8) (hh1 : a0.toInt + (n : Int) = 8), Met l yX10_readComparison v_readComparison (rm_readComparison n) (va_Pc [.ref (ad 2), .int a0] (HWL dC dI (TYC cT) cf ad E sz)) (va_Qv (S := Nat → va_E) (fun u => IXL cT (shC cf) (spC cf) (LC cf) ad u ∧ Kp w_readComparison E u ∧ (((xi (E 2) 5).toInt ≤ (xi (u 2) 5).toInt))) (HBL dC dI (LC cf) ad) (va_A (WL (LC cf) ad E) sz)) 0 0 (va_A (WL (LC cf) ad E) sz)
def v_readUnit : List Cond := .code yX10_readUnit cX10_readUnit 4 none :: vA
abbrev rm_readUnit (n : Nat) : Room := { frames := 7 * n + 11, cells := 0, slots := 0, locals := 40 * (7 * n + 11) }
def w_readUnit : Nat → Nat → Bool := wl [22] [(2, 2), (2, 3), (2, 5)]
def C_readUnit (l : Launch) (n : Nat) : Prop := ∀ (dC : Nat → ClassId) (dI : Nat → Nat → Nat) (cT : Nat → ClassId) (cf : Nat → Nat) (hC : CF cf) (ad : Nat → Nat) (E : Nat → va_E) (sz : Nat) (a0 : Int32) (a1 : Int32) (hI0 : IXL cT (shC cf) (spC cf) (LC cf) ad E) (hh0 : 0 ≤ a0.toInt ∧ a0.toInt ≤ 8) (hh1 : a0.toInt + (n : Int) = 8) (hh2 : 0 ≤ a1.toInt ∧ a1.toInt ≤ 1), Met l yX10_readUnit v_readUnit (rm_readUnit n) (va_Pc [.ref (ad 2), .int a0, .int a1] (HWL dC dI (TYC cT) cf ad E sz)) (va_Qv (S := Nat → va_E) (fun u => IXL cT (shC cf) (spC cf) (LC cf) ad u ∧ Kp w_readUnit E u ∧ (((xi (E 2) 5).toInt ≤ (xi (u 2) 5).toInt))) (HBL dC dI (LC cf) ad) (va_A (WL (LC cf) ad E) sz)) 0 0 (va_A (WL (LC cf) ad E) sz)
def v_readPart : List Cond := .code yX10_readPart cX10_readPart 4 none :: vA
abbrev rm_readPart (n : Nat) : Room := { frames := 7 * n + 12, cells := 0, slots := 0, locals := 40 * (7 * n + 12) }
def w_readPart : Nat → Nat → Bool := wl [22] [(2, 2), (2, 3), (2, 5)]
def C_readPart (l : Launch) (n : Nat) : Prop := ∀ (dC : Nat → ClassId) (dI : Nat → Nat → Nat) (cT : Nat → ClassId) (cf : Nat → Nat) (hC : CF cf) (ad : Nat → Nat) (E : Nat → va_E) (sz : Nat) (a0 : Int32) (a1 : Int32) (hI0 : IXL cT (shC cf) (spC cf) (LC cf) ad E) (hh0 : 0 ≤ a0.toInt ∧ a0.toInt ≤ 8) (hh1 : a0.toInt + (n : Int) = 8) (hh2 : 0 ≤ a1.toInt ∧ a1.toInt ≤ 1), Met l yX10_readPart v_readPart (rm_readPart n) (va_Pc [.ref (ad 2), .int a0, .int a1] (HWL dC dI (TYC cT) cf ad E sz)) (va_Qv (S := Nat → va_E) (fun u => IXL cT (shC cf) (spC cf) (LC cf) ad u ∧ Kp w_readPart E u ∧ (((xi (E 2) 5).toInt ≤ (xi (u 2) 5).toInt))) (HBL dC dI (LC cf) ad) (va_A (WL (LC cf) ad E) sz)) 0 0 (va_A (WL (LC cf) ad E) sz)
def v_readCondition : List Cond := .code yX10_readCondition cX10_readCondition 4 none :: vA
abbrev rm_readCondition (n : Nat) : Room := { frames := 7 * n + 13, cells := 0, slots := 0, locals := 40 * (7 * n + 13) }
def w_readCondition : Nat → Nat → Bool := wl [22] [(2, 2), (2, 3), (2, 5)]
def C_readCondition (l : Launch) (n : Nat) : Prop := ∀ (dC : Nat → ClassId) (dI : Nat → Nat → Nat) (cT : Nat → ClassId) (cf : Nat → Nat) (hC : CF cf) (ad : Nat → Nat) (E : Nat → va_E) (sz : Nat) (a0 : Int32) (a1 : Int32) (hI0 : IXL cT (shC cf) (spC cf) (LC cf) ad E) (hh0 : 0 ≤ a0.toInt ∧ a0.toInt ≤ 8) (hh1 : a0.toInt + (n : Int) = 8) (hh2 : 0 ≤ a1.toInt ∧ a1.toInt ≤ 1), Met l yX10_readCondition v_readCondition (rm_readCondition n) (va_Pc [.ref (ad 2), .int a0, .int a1] (HWL dC dI (TYC cT) cf ad E sz)) (va_Qv (S := Nat → va_E) (fun u => IXL cT (shC cf) (spC cf) (LC cf) ad u ∧ Kp w_readCondition E u ∧ (((xi (E 2) 5).toInt ≤ (xi (u 2) 5).toInt))) (HBL dC dI (LC cf) ad) (va_A (WL (LC cf) ad E) sz)) 0 0 (va_A (WL (LC cf) ad E) sz)
set_option maxHeartbeats 4000000 in
set_option maxRecDepth 100000 in
theorem q_readAtom (l : Launch) (n : Nat) (gSum : ∀ k, k < n → C_readSum l k) : C_readAtom l n := by
  intro dC dI cT cf hC ad E sz a0 hI0 hh0 hh1
  obtain ⟨⟨hc0, hc1, hc2, hc3, hc4, hc5⟩, hcr⟩ := id hC
  refine Met.ofW (cc := cX10_readAtom) (maxL := 3) (ret := none) (by decide) rfl ?_
  intro p e s m args below meth c s₁ B hml hv
  obtain ⟨hargs, hsz, hP, hK, hD0, hEV⟩ := hv
  subst hsz
  have hx := B.exec
  have hb := B.bytes
  have hr := B.returns
  have hts := atoms_spec (ws := v_readAtom) B.pre
  have hown : s.vm.findClass RX10 = some m.cls := findClass_of_methodNamed B.named
  have hlocks := B.notSynchronized
  have hinX10 : ∀ w ∈ u_ws RX10 TX10 10, w ∈ v_readAtom := fun w h => vA_in _ w (in_X10 w h)
  generalize hAe : va_A (WL (LC cf) ad E) s.heap.size = A at hEV ⊢
  have hA : ∀ q : Nat, s.heap.size ≤ q → A q := fun q h => by rw [← hAe]; exact Or.inr h
  have hD : va_D A (WL (LC cf) ad E) := by rw [← hAe]; exact hD0.self
  have hS : va_S A s.heap s.heap [] := va_S.rf
  have hI := hI0
  have hKp : Kp w_readAtom E E := Kp.rf
  have hl := lv_entry ([.ref (ad 2), .int a0]) (n := 3) (Nat.le_of_ble_eq_true rfl)
  obtain ⟨Q, hQ⟩ : ∃ Q, Q = MQ below (va_Qv (S := Nat → va_E) (fun u => IXL cT (shC cf) (spC cf) (LC cf) ad u ∧ Kp w_readAtom E u ∧ (((xi (E 2) 5).toInt ≤ (xi (u 2) 5).toInt))) (HBL dC dI (LC cf) ad) (A)) args s 0 0 (A) := ⟨_, rfl⟩
  rw [← hQ, show entryFrame m args 3 = _ from (congrArg (fun z => entryFrame m z 3) hargs).trans (lg_entry_eq _ _ _)]
  generalize (lg_sl ([.ref (ad 2), .int a0]) ++ List.replicate (3 - (lg_sl ([.ref (ad 2), .int a0])).length) Slot.unset).toArray = ls at hl ⊢
  have hl : lv_has ls 3 [(0, .ref (ad 2)), (1, .int a0)] := hl
  obtain ⟨y1, ey1⟩ : ∃ y, xi (E 2) 5 = y := ⟨_, rfl⟩
  have fy1 : xv (E 2) 5 = .int y1 := (hI.fi 2 (mF 2 rfl) rfl (Nat.le_of_ble_eq_true rfl) rfl).trans (congrArg Value.int ey1)
  have i2 : 0 ≤ y1.toInt ∧ y1.toInt ≤ 200 := by rw [← ey1]; exact hI.iv 2 (mF 2 rfl) rfl (Nat.le_of_ble_eq_true rfl) rfl
  refine lv_aload_n hx hb dX10_readAtom_0 rfl (lv_at hl 0 rfl) ?_
  refine th_iL (va_runV (As := []) (rest := []) ⟨hx, hb, hml, hown, hts⟩ (q_next l dC dI cT cf hC ad E s.heap.size hI) (cwV 0 hts (gi_V (in_8 _ (List.mem_of_getElem? (i := 27) rfl)) (in_8 _ (List.mem_of_getElem? (i := 28) rfl)) (in_8 _ (List.mem_of_getElem? (i := 29) rfl)) (in_8 _ (List.mem_of_getElem? (i := 14) rfl)) (in_8 _ (List.mem_of_getElem? (i := 19) rfl))) rfl rfl rfl (by decide +kernel) ⟨(show 0 + 1 ≤ 7 * n + 7 by omega), (show 8 + (1 + 11) + 40 * (0) ≤ 40 * (7 * n + 7) by omega)⟩) ⟨HWL_bl, va_recv hK hP (ci := 11) (q0 := posL 2 (LC cf)) rfl (hI.ob 2 (mF 2 rfl) rfl), (HWL_wi hP hK (WL_D hD) hS hA hEV)⟩ rfl rfl hl.1 rfl (lv_room (Nat.le_of_ble_eq_true rfl)) dX10_readAtom_1 ⟨Nat.le_of_ble_eq_true rfl, Nat.le_of_ble_eq_true rfl⟩) (WL_D hD) hS hA (fun r3 E4 H locs hw hP hS => ?_)
  obtain ⟨hI, kq5, hw⟩ := hw
  have hKb := hKp
  have hKp := hKp.tr kq5 (wl_sub rfl rfl)
  obtain ⟨y6, ey6⟩ : ∃ y, xi (E4 2) 2 = y := ⟨_, rfl⟩
  have fy6 : xv (E4 2) 2 = .int y6 := (hI.fi 2 (mF 2 rfl) rfl (Nat.le_of_ble_eq_true rfl) rfl).trans (congrArg Value.int ey6)
  have i7 : 0 ≤ y6.toInt ∧ y6.toInt ≤ 200 := by rw [← ey6]; exact hI.iv 2 (mF 2 rfl) rfl (Nat.le_of_ble_eq_true rfl) rfl
  obtain ⟨f8, f9⟩ := hw
  have i10 : 0 ≤ (xi (E 2) 1).toInt ∧ (xi (E 2) 1).toInt ≤ 200 := hI0.iv 2 (mF 2 rfl) rfl (Nat.le_of_ble_eq_true rfl) rfl
  try rw [(show xi (E4 2) 2 = y6 from vi_e fy6)] at f9
  refine lv_istore_n (lv' := [(2, .int r3), (0, .ref (ad 2)), (1, .int a0)]) hx hb dX10_readAtom_4 rfl hl (by decide) rfl (fun ls hl => ?_)
  refine lv_iload_n hx hb dX10_readAtom_5 rfl (lv_at hl 0 rfl) ?_
  refine th_pi (va_runS (As := [.int r3]) (rest := []) ⟨hx, hb, hml, hown, hts⟩ (q_cisDigit l r3) (va_cwS 1 hts (gi_S (in_9 _ (List.mem_of_getElem? (i := 11) rfl)) (in_9 _ (List.mem_of_getElem? (i := 12) rfl)) (in_8 _ (List.mem_of_getElem? (i := 14) rfl)) (in_8 _ (List.mem_of_getElem? (i := 18) rfl))) rfl rfl rfl (by decide +kernel) ⟨(show 0 + 1 ≤ 7 * n + 7 by omega), (show 8 + (1 + 11) + 40 * (0) ≤ 40 * (7 * n + 7) by omega)⟩) ⟨fun _ _ _ _ q => q, fun _ _ _ => ⟨rfl, trivial⟩⟩ rfl rfl hl.1 rfl (lv_room (Nat.le_of_ble_eq_true rfl)) dX10_readAtom_6 ⟨Nat.le_of_ble_eq_true rfl, Nat.le_of_ble_eq_true rfl⟩) hS (fun r11 H1 locs1 hw hk1 hS => ?_)
  have hP := ub_keep hP hk1
  generalize H1 = H at hP hS ⊢
  generalize locs1 = locs at hS ⊢
  rcases hw with hw | hw
  · -- cisDigit, case 0
    obtain ⟨rfl, f12⟩ := hw
    refine lv_if_eq (tgt := 19) hx hb dX10_readAtom_9 (by decide) (fun c13 => ?_) (fun c13 => ?_)
    · --9 taken
      exact absurd c13 (by decide)
    · --9 not
      refine lv_aload_n hx hb dX10_readAtom_12 rfl (lv_at hl 1 rfl) ?_
      refine th_vL (va_runV (As := []) (rest := []) ⟨hx, hb, hml, hown, hts⟩ (q_readNumber l dC dI cT cf hC ad E4 H.size hI) (cwV 0 hts (gi_V (in_9 _ (List.mem_of_getElem? (i := 13) rfl)) (in_9 _ (List.mem_of_getElem? (i := 14) rfl)) (in_9 _ (List.mem_of_getElem? (i := 15) rfl)) (in_8 _ (List.mem_of_getElem? (i := 14) rfl)) (in_9 _ (List.mem_of_getElem? (i := 16) rfl))) rfl rfl rfl (by decide +kernel) ⟨(show 1 + 1 ≤ 7 * n + 7 by omega), (show 8 + (3 + 11) + 40 * (1) ≤ 40 * (7 * n + 7) by omega)⟩) ⟨HWL_bl, va_recv hK hP (ci := 11) (q0 := posL 2 (LC cf)) rfl (hI.ob 2 (mF 2 rfl) rfl), (HWL_wi hP hK (WL_D hD) hS hA hEV)⟩ rfl rfl hl.1 rfl (lv_room (Nat.le_of_ble_eq_true rfl)) dX10_readAtom_13 ⟨Nat.le_of_ble_eq_true rfl, Nat.le_of_ble_eq_true rfl⟩) (WL_D hD) hS hA (fun E15 H locs hw hP hS => ?_)
      obtain ⟨hI, kq16, hw⟩ := hw
      have hKb := hKp
      have hKp := hKp.tr kq16 (wl_sub rfl rfl)
      obtain ⟨y17, ey17⟩ : ∃ y, xi (E15 2) 5 = y := ⟨_, rfl⟩
      have fy17 : xv (E15 2) 5 = .int y17 := (hI.fi 2 (mF 2 rfl) rfl (Nat.le_of_ble_eq_true rfl) rfl).trans (congrArg Value.int ey17)
      have i18 : 0 ≤ y17.toInt ∧ y17.toInt ≤ 200 := by rw [← ey17]; exact hI.iv 2 (mF 2 rfl) rfl (Nat.le_of_ble_eq_true rfl) rfl
      have f19 := hw
      try rw [(show xi (E4 2) 5 = y1 from vi_e ((kq5 2 5 rfl).trans fy1))] at f19
      try rw [(show xi (E15 2) 5 = y17 from vi_e fy17)] at f19
      refine lv_goto (tgt := 90) hx hb dX10_readAtom_16 (by decide) ?_
      rw [hQ]
      exact W.vret hx hb hr (fun t ht hW => ⟨⟨E15, rfl, ⟨hI, hKp, (by (try rw [(show xi (E15 2) 5 = y17 from vi_e fy17)]); (try rw [ey1]); all_goals omega)⟩, by show va_P (dC, dI) vwCl (WL (LC cf) ad E15) t.heap; rw [ht]; exact hP⟩, hS.F ht⟩) hS.2.2 dX10_readAtom_90
  · -- cisDigit, case 1
    obtain ⟨rfl, f20⟩ := hw
    refine lv_if_eq (tgt := 19) hx hb dX10_readAtom_9 (by decide) (fun c21 => ?_) (fun c21 => ?_)
    · --9 taken
      obtain ⟨qs22, vs23, hRqs22, hSSqs22⟩ := hEV.2.1.2.2.2.2.2
      refine va_ldcS hx hb hown hRqs22 dX10_readAtom_19 ?_
      refine lv_iload_n hx hb dX10_readAtom_21 rfl (lv_at hl 0 rfl) ?_
      refine th_pi (va_runSN (As := [.ref qs22, .int r3]) (rest := []) ⟨hx, hb, hml, hown, hts⟩ (q_isOneOf l qs22 vs23 tLET r3 (by decide) (by decide)) ⟨va_cnB 2 hts (gi_0 (in_8 _ (List.mem_of_getElem? (i := 31) rfl))) rfl rfl rfl (hEV.1.1 _ (List.mem_of_getElem? (i := 12) rfl)) (hts _ (vA_in _ _ (in_4 _ (List.mem_of_getElem? (i := 23) rfl)))) (by decide +kernel) ⟨(show 4 + 1 ≤ 7 * n + 7 by omega), (show 8 + (2 + 11) + 40 * (4) ≤ 40 * (7 * n + 7) by omega)⟩, (hts _ (vA_in _ _ (in_8 _ (List.mem_of_getElem? (i := 30) rfl)))), trivial⟩ ⟨fun a U g mk q => ⟨q.1, SS_c q.2⟩, fun U hU hW => ⟨rfl, SS_w hU hW hS (fun _ h => h.elim) hSSqs22⟩⟩ rfl rfl hl.1 rfl (lv_room (Nat.le_of_ble_eq_true rfl)) dX10_readAtom_22 ⟨Nat.le_of_ble_eq_true rfl, Nat.le_of_ble_eq_true rfl⟩) hS (fun r24 H1 locs1 hw hk1 hS => ?_)
      have hP := ub_keep hP hk1
      generalize H1 = H at hP hS ⊢
      generalize locs1 = locs at hS ⊢
      rcases hw with hw | hw
      · -- isOneOf, case 0
        obtain ⟨rfl, f25⟩ := hw
        refine lv_if_eq (tgt := 55) hx hb dX10_readAtom_25 (by decide) (fun c26 => ?_) (fun c26 => ?_)
        · --25 taken
          exact absurd c26 (by decide)
        · --25 not
          refine lv_aload_n hx hb dX10_readAtom_28 rfl (lv_at hl 1 rfl) ?_
          refine lv_dup hx hb dX10_readAtom_29 rfl ?_
          refine th_getL (ci := 11) (C := RX10) (T := TX10) (N := 10) (v := .int y6) hx hb hts hinX10 hown hK hP hI 2 (mF 2 rfl) rfl rfl 2 (Nat.le_of_ble_eq_true rfl) (hts _ (vA_in _ _ (in_8 _ (List.mem_of_getElem? (i := 9) rfl)))) (fun _ h9 => h9) fy6 dX10_readAtom_30 ?_
          refine lv_iconst (v := 1) hx hb dX10_readAtom_33 (by decide) ?_
          refine lv_iadd hx hb dX10_readAtom_34 ?_
          refine lv_topi (fun y27 ey27 => ?_)
          obtain ⟨ty27, iy27⟩ := ti_add (e := 1) (f := 201) i7 ln_1 ey27 (by decide)
          have ty27 : y27.toInt = y6.toInt + 1 := ty27
          have iy27 : 1 ≤ y27.toInt ∧ y27.toInt ≤ 201 := iy27
          have i28 : 1 ≤ y27.toInt ∧ y27.toInt ≤ 200 := by omega
          refine th_putL (ci := 11) (C := RX10) (T := TX10) (N := 10) (v := .int y27) (ty := .int) hx hb hts hinX10 tyX10 tyX10_ok nmX10 hown hK hP (WL_D hD) hS hI 2 (mF 2 rfl) rfl rfl 2 (Nat.le_of_ble_eq_true rfl) (hts _ (vA_in _ _ (in_8 _ (List.mem_of_getElem? (i := 9) rfl)))) (fun _ h9 => h9) rfl (by decide +kernel) rfl rfl (okI rfl (iv_w i28 (by decide))) dX10_readAtom_35 (fun H locs E29 pw30 hI hP hS => ?_)
          have hKp := hKp.pw pw30 rfl
          refine lv_aload_n hx hb dX10_readAtom_38 rfl (lv_at hl 1 rfl) ?_
          obtain ⟨qs31, vs32, hRqs31, hSSqs31⟩ := hEV.2.1.2.2.2.2.2
          refine va_ldcS hx hb hown hRqs31 dX10_readAtom_39 ?_
          refine lv_iload_n hx hb dX10_readAtom_41 rfl (lv_at hl 0 rfl) ?_
          refine lv_i2c hx hb dX10_readAtom_42 rfl ?_
          refine lv_topi (fun y33 ey33 => ?_)
          refine th_pi (va_runV (As := [.int y33]) (rest := [.ref (ad 2)]) ⟨hx, hb, hml, hown, hts⟩ (q_indexOf l qs31 vs32 tLET y33 (by decide) (by decide)) (cwV 1 hts (gi_V (in_9 _ (List.mem_of_getElem? (i := 17) rfl)) (in_8 _ (List.mem_of_getElem? (i := 33) rfl)) (in_8 _ (List.mem_of_getElem? (i := 34) rfl)) (in_0 _ (List.mem_of_getElem? (i := 13) rfl)) (in_0 _ (List.mem_of_getElem? (i := 9) rfl))) rfl rfl rfl (by decide +kernel) ⟨(show 3 + 1 ≤ 7 * n + 7 by omega), (show 8 + (2 + 11) + 40 * (3) ≤ 40 * (7 * n + 7) by omega)⟩) ⟨fun a U g mk q => ⟨q.1, SS_c q.2⟩, va_Orecv hSSqs31.1 hS, fun U hU hW => ⟨rfl, SS_w hU hW hS (fun _ h => h.elim) hSSqs31⟩⟩ rfl rfl hl.1 rfl (lv_room (Nat.le_of_ble_eq_true rfl)) dX10_readAtom_43 ⟨Nat.le_of_ble_eq_true rfl, Nat.le_of_ble_eq_true rfl⟩) hS (fun r34 H1 locs1 hw hk1 hS => ?_)
          have hP := ub_keep hP hk1
          generalize H1 = H at hP hS ⊢
          generalize locs1 = locs at hS ⊢
          obtain ⟨f35, f36⟩ := hw
          refine th_pi (va_runS (As := [.int r34]) (rest := [.ref (ad 2)]) ⟨hx, hb, hml, hown, hts⟩ (q_casLetter l r34) (va_cwS 1 hts (gi_S (in_9 _ (List.mem_of_getElem? (i := 18) rfl)) (in_9 _ (List.mem_of_getElem? (i := 19) rfl)) (in_7 _ (List.mem_of_getElem? (i := 2) rfl)) (in_9 _ (List.mem_of_getElem? (i := 20) rfl))) rfl rfl rfl (by decide +kernel) ⟨(show 0 + 1 ≤ 7 * n + 7 by omega), (show 8 + (1 + 11) + 40 * (0) ≤ 40 * (7 * n + 7) by omega)⟩) ⟨fun _ _ _ _ q => q, fun _ _ _ => ⟨rfl, trivial⟩⟩ rfl rfl hl.1 rfl (lv_room (Nat.le_of_ble_eq_true rfl)) dX10_readAtom_46 ⟨Nat.le_of_ble_eq_true rfl, Nat.le_of_ble_eq_true rfl⟩) hS (fun r37 H1 locs1 hw hk1 hS => ?_)
          have hP := ub_keep hP hk1
          generalize H1 = H at hP hS ⊢
          generalize locs1 = locs at hS ⊢
          refine th_vL (va_runV (As := [.int r37]) (rest := []) ⟨hx, hb, hml, hown, hts⟩ (q_addT l dC dI cT cf hC ad E29 H.size r37 hI) (cwV 1 hts (gi_V (in_9 _ (List.mem_of_getElem? (i := 7) rfl)) (in_9 _ (List.mem_of_getElem? (i := 8) rfl)) (in_9 _ (List.mem_of_getElem? (i := 9) rfl)) (in_8 _ (List.mem_of_getElem? (i := 14) rfl)) (in_7 _ (List.mem_of_getElem? (i := 29) rfl))) rfl rfl rfl (by decide +kernel) ⟨(show 0 + 1 ≤ 7 * n + 7 by omega), (show 8 + (2 + 11) + 40 * (0) ≤ 40 * (7 * n + 7) by omega)⟩) ⟨HWL_bl, va_recv hK hP (ci := 11) (q0 := posL 2 (LC cf)) rfl (hI.ob 2 (mF 2 rfl) rfl), (HWL_wi hP hK (WL_D hD) hS hA hEV)⟩ rfl rfl hl.1 rfl (lv_room (Nat.le_of_ble_eq_true rfl)) dX10_readAtom_49 ⟨Nat.le_of_ble_eq_true rfl, Nat.le_of_ble_eq_true rfl⟩) (WL_D hD) hS hA (fun E39 H locs hw hP hS => ?_)
          obtain ⟨hI, kq40, hw⟩ := hw
          have hKb := hKp
          have hKp := hKp.tr kq40 (wl_sub rfl rfl)
          obtain ⟨y41, ey41⟩ : ∃ y, xi (E39 2) 5 = y := ⟨_, rfl⟩
          have fy41 : xv (E39 2) 5 = .int y41 := (hI.fi 2 (mF 2 rfl) rfl (Nat.le_of_ble_eq_true rfl) rfl).trans (congrArg Value.int ey41)
          have i42 : 0 ≤ y41.toInt ∧ y41.toInt ≤ 200 := by rw [← ey41]; exact hI.iv 2 (mF 2 rfl) rfl (Nat.le_of_ble_eq_true rfl) rfl
          have f43 := hw
          try rw [(show xi (E29 2) 5 = y1 from vi_e ((pw30.2 2 5 (fun q9 => absurd q9.2 (Nat.ne_of_beq_eq_false rfl))).trans ((kq5 2 5 rfl).trans fy1)))] at f43
          try rw [(show xi (E39 2) 5 = y41 from vi_e fy41)] at f43
          refine lv_goto (tgt := 90) hx hb dX10_readAtom_52 (by decide) ?_
          rw [hQ]
          exact W.vret hx hb hr (fun t ht hW => ⟨⟨E39, rfl, ⟨hI, hKp, (by (try rw [(show xi (E39 2) 5 = y41 from vi_e fy41)]); (try rw [ey1]); all_goals omega)⟩, by show va_P (dC, dI) vwCl (WL (LC cf) ad E39) t.heap; rw [ht]; exact hP⟩, hS.F ht⟩) hS.2.2 dX10_readAtom_90
      · -- isOneOf, case 1
        obtain rfl := hw
        refine lv_if_eq (tgt := 55) hx hb dX10_readAtom_25 (by decide) (fun c44 => ?_) (fun c44 => ?_)
        · --25 taken
          refine lv_iload_n hx hb dX10_readAtom_55 rfl (lv_at hl 0 rfl) ?_
          refine lv_bipush (v := 91) hx hb dX10_readAtom_56 (by decide) ?_
          refine lv_icmp_ne (tgt := 86) hx hb dX10_readAtom_58 (by decide) (fun c45 => ?_) (fun c45 => ?_)
          · --58 taken
            have t46 : ¬ r3.toInt = 91 := ti_ne c45
            refine lv_aload_n hx hb dX10_readAtom_86 rfl (lv_at hl 1 rfl) ?_
            refine th_vL (va_runV (As := []) (rest := []) ⟨hx, hb, hml, hown, hts⟩ (q_failT l dC dI cT cf hC ad E4 H.size hI) (cwV 0 hts (gi_V (in_8 _ (List.mem_of_getElem? (i := 11) rfl)) (in_8 _ (List.mem_of_getElem? (i := 12) rfl)) (in_8 _ (List.mem_of_getElem? (i := 13) rfl)) (in_8 _ (List.mem_of_getElem? (i := 14) rfl)) (in_8 _ (List.mem_of_getElem? (i := 7) rfl))) rfl rfl rfl (by decide +kernel) ⟨(show 0 + 1 ≤ 7 * n + 7 by omega), (show 8 + (1 + 11) + 40 * (0) ≤ 40 * (7 * n + 7) by omega)⟩) ⟨HWL_bl, va_recv hK hP (ci := 11) (q0 := posL 2 (LC cf)) rfl (hI.ob 2 (mF 2 rfl) rfl), (HWL_wi hP hK (WL_D hD) hS hA hEV)⟩ rfl rfl hl.1 rfl (lv_room (Nat.le_of_ble_eq_true rfl)) dX10_readAtom_87 ⟨Nat.le_of_ble_eq_true rfl, Nat.le_of_ble_eq_true rfl⟩) (WL_D hD) hS hA (fun E48 H locs hw hP hS => ?_)
            obtain ⟨hI, kq49, hw⟩ := hw
            have hKb := hKp
            have hKp := hKp.tr kq49 (wl_sub rfl rfl)
            rw [hQ]
            exact W.vret hx hb hr (fun t ht hW => ⟨⟨E48, rfl, ⟨hI, hKp, (by (try rw [(show xi (E48 2) 5 = y1 from vi_e ((kq49 2 5 rfl).trans ((kq5 2 5 rfl).trans fy1)))]); (try rw [ey1]); all_goals omega)⟩, by show va_P (dC, dI) vwCl (WL (LC cf) ad E48) t.heap; rw [ht]; exact hP⟩, hS.F ht⟩) hS.2.2 dX10_readAtom_90
          · --58 not
            have t50 : r3.toInt = 91 := ti_eq c45
            have i51 : 91 ≤ r3.toInt ∧ r3.toInt ≤ 91 := iv_eqi t50 f8 (il_ 91) (by decide)
            refine lv_aload_n hx hb dX10_readAtom_61 rfl (lv_at hl 1 rfl) ?_
            refine lv_iload_n hx hb dX10_readAtom_62 rfl (lv_at hl 2 rfl) ?_
            refine th_iL (va_runV (As := [.int a0]) (rest := []) ⟨hx, hb, hml, hown, hts⟩ (q_goDeeper l dC dI cT cf hC ad E4 H.size a0 hI hh0 (by (try rw [(show xi (E4 2) 2 = y6 from vi_e fy6)]); (try rw [hKp.ei 2 1 rfl]); omega)) (cwV 1 hts (gi_V (in_9 _ (List.mem_of_getElem? (i := 21) rfl)) (in_9 _ (List.mem_of_getElem? (i := 22) rfl)) (in_9 _ (List.mem_of_getElem? (i := 23) rfl)) (in_8 _ (List.mem_of_getElem? (i := 14) rfl)) (in_8 _ (List.mem_of_getElem? (i := 10) rfl))) rfl rfl rfl (by decide +kernel) ⟨(show 1 + 1 ≤ 7 * n + 7 by omega), (show 8 + (2 + 11) + 40 * (1) ≤ 40 * (7 * n + 7) by omega)⟩) ⟨HWL_bl, va_recv hK hP (ci := 11) (q0 := posL 2 (LC cf)) rfl (hI.ob 2 (mF 2 rfl) rfl), (HWL_wi hP hK (WL_D hD) hS hA hEV)⟩ rfl rfl hl.1 rfl (lv_room (Nat.le_of_ble_eq_true rfl)) dX10_readAtom_63 ⟨Nat.le_of_ble_eq_true rfl, Nat.le_of_ble_eq_true rfl⟩) (WL_D hD) hS hA (fun r52 E53 H locs hw hP hS => ?_)
            obtain ⟨hI, kq54, hw⟩ := hw
            have hKb := hKp
            have hKp := hKp.tr kq54 (wl_sub rfl rfl)
            rcases hw with hw | hw
            · -- goDeeper, case 0
              obtain ⟨rfl, f55⟩ := hw
              obtain ⟨k9, hk9⟩ : ∃ k9, n = k9 + 1 := ⟨n - 1, by omega⟩
              refine lv_if_ne (tgt := 70) hx hb dX10_readAtom_66 (by decide) (fun c56 => ?_) (fun c56 => ?_)
              · --66 taken
                refine lv_aload_n hx hb dX10_readAtom_70 rfl (lv_at hl 1 rfl) ?_
                refine lv_iload_n hx hb dX10_readAtom_71 rfl (lv_at hl 2 rfl) ?_
                refine lv_iconst (v := 1) hx hb dX10_readAtom_72 (by decide) ?_
                refine lv_iadd hx hb dX10_readAtom_73 ?_
                refine lv_topi (fun y57 ey57 => ?_)
                obtain ⟨ty57, iy57⟩ := ti_add (e := 1) (f := 8) f55 ln_1 ey57 (by decide)
                have ty57 : y57.toInt = a0.toInt + 1 := ty57
                have iy57 : 1 ≤ y57.toInt ∧ y57.toInt ≤ 8 := iy57
                refine th_vL (va_runV (As := [.int y57]) (rest := []) ⟨hx, hb, hml, hown, hts⟩ ((gSum k9 (by omega)) dC dI cT cf hC ad E53 H.size y57 hI (iv_w iy57 (by decide)) (by (try rw [(show xi (E53 2) 5 = y1 from vi_e ((kq54 2 5 rfl).trans ((kq5 2 5 rfl).trans fy1)))]); omega)) (cwV 1 hts (gi_V (in_8 _ (List.mem_of_getElem? (i := 39) rfl)) (in_9 _ (List.mem_of_getElem? (i := 0) rfl)) (in_9 _ (List.mem_of_getElem? (i := 1) rfl)) (in_8 _ (List.mem_of_getElem? (i := 14) rfl)) (in_9 _ (List.mem_of_getElem? (i := 2) rfl))) rfl rfl rfl (by decide +kernel) ⟨(show 7 * k9 + 9 + 1 ≤ 7 * n + 7 by omega), (show 8 + (4 + 11) + 40 * (7 * k9 + 9) ≤ 40 * (7 * n + 7) by omega)⟩) ⟨HWL_bl, va_recv hK hP (ci := 11) (q0 := posL 2 (LC cf)) rfl (hI.ob 2 (mF 2 rfl) rfl), (HWL_wi hP hK (WL_D hD) hS hA hEV)⟩ rfl rfl hl.1 rfl (lv_room (Nat.le_of_ble_eq_true rfl)) dX10_readAtom_74 ⟨Nat.le_of_ble_eq_true rfl, Nat.le_of_ble_eq_true rfl⟩) (WL_D hD) hS hA (fun E59 H locs hw hP hS => ?_)
                obtain ⟨hI, kq60, hw⟩ := hw
                have hKb := hKp
                have hKp := hKp.tr kq60 (wl_sub rfl rfl)
                obtain ⟨y61, ey61⟩ : ∃ y, xi (E59 2) 5 = y := ⟨_, rfl⟩
                have fy61 : xv (E59 2) 5 = .int y61 := (hI.fi 2 (mF 2 rfl) rfl (Nat.le_of_ble_eq_true rfl) rfl).trans (congrArg Value.int ey61)
                have i62 : 0 ≤ y61.toInt ∧ y61.toInt ≤ 200 := by rw [← ey61]; exact hI.iv 2 (mF 2 rfl) rfl (Nat.le_of_ble_eq_true rfl) rfl
                have f63 := hw
                try rw [(show xi (E53 2) 5 = y1 from vi_e ((kq54 2 5 rfl).trans ((kq5 2 5 rfl).trans fy1)))] at f63
                try rw [(show xi (E59 2) 5 = y61 from vi_e fy61)] at f63
                refine lv_aload_n hx hb dX10_readAtom_77 rfl (lv_at hl 1 rfl) ?_
                refine lv_bipush (v := 93) hx hb dX10_readAtom_78 (by decide) ?_
                refine th_vL (va_runV (As := [.int 93]) (rest := []) ⟨hx, hb, hml, hown, hts⟩ (q_take l dC dI cT cf hC ad E59 H.size (93 : Int32) hI (iv_w ln_93 (by decide))) (cwV 1 hts (gi_V (in_8 _ (List.mem_of_getElem? (i := 35) rfl)) (in_8 _ (List.mem_of_getElem? (i := 36) rfl)) (in_8 _ (List.mem_of_getElem? (i := 37) rfl)) (in_8 _ (List.mem_of_getElem? (i := 14) rfl)) (in_8 _ (List.mem_of_getElem? (i := 38) rfl))) rfl rfl rfl (by decide +kernel) ⟨(show 1 + 1 ≤ 7 * n + 7 by omega), (show 8 + (2 + 11) + 40 * (1) ≤ 40 * (7 * n + 7) by omega)⟩) ⟨HWL_bl, va_recv hK hP (ci := 11) (q0 := posL 2 (LC cf)) rfl (hI.ob 2 (mF 2 rfl) rfl), (HWL_wi hP hK (WL_D hD) hS hA hEV)⟩ rfl rfl hl.1 rfl (lv_room (Nat.le_of_ble_eq_true rfl)) dX10_readAtom_80 ⟨Nat.le_of_ble_eq_true rfl, Nat.le_of_ble_eq_true rfl⟩) (WL_D hD) hS hA (fun E65 H locs hw hP hS => ?_)
                obtain ⟨hI, kq66, hw⟩ := hw
                have hKb := hKp
                have hKp := hKp.tr kq66 (wl_sub rfl rfl)
                refine lv_goto (tgt := 90) hx hb dX10_readAtom_83 (by decide) ?_
                rw [hQ]
                exact W.vret hx hb hr (fun t ht hW => ⟨⟨E65, rfl, ⟨hI, hKp, (by (try rw [(show xi (E65 2) 5 = y61 from vi_e ((kq66 2 5 rfl).trans fy61))]); (try rw [ey1]); all_goals omega)⟩, by show va_P (dC, dI) vwCl (WL (LC cf) ad E65) t.heap; rw [ht]; exact hP⟩, hS.F ht⟩) hS.2.2 dX10_readAtom_90
              · --66 not
                exact absurd c56 (by decide)
            · -- goDeeper, case 1
              obtain rfl := hw
              refine lv_if_ne (tgt := 70) hx hb dX10_readAtom_66 (by decide) (fun c67 => ?_) (fun c67 => ?_)
              · --66 taken
                exact absurd c67 (by decide)
              · --66 not
                rw [hQ]
                exact W.vret hx hb hr (fun t ht hW => ⟨⟨E53, rfl, ⟨hI, hKp, (by (try rw [(show xi (E53 2) 5 = y1 from vi_e ((kq54 2 5 rfl).trans ((kq5 2 5 rfl).trans fy1)))]); (try rw [ey1]); all_goals omega)⟩, by show va_P (dC, dI) vwCl (WL (LC cf) ad E53) t.heap; rw [ht]; exact hP⟩, hS.F ht⟩) hS.2.2 dX10_readAtom_69
        · --25 not
          exact absurd c44 (by decide)
    · --9 not
      exact absurd c21 (by decide)
set_option maxHeartbeats 4000000 in
set_option maxRecDepth 100000 in
theorem q_readTerm (l : Launch) (n : Nat) (gA : C_readAtom l n) : C_readTerm l n := by
  intro dC dI cT cf hC ad E sz a0 hI0 hh0 hh1
  obtain ⟨⟨hc0, hc1, hc2, hc3, hc4, hc5⟩, hcr⟩ := id hC
  refine Met.ofW (cc := cX10_readTerm) (maxL := 4) (ret := none) (by decide) rfl ?_
  intro p e s m args below meth c s₁ B hml hv
  obtain ⟨hargs, hsz, hP, hK, hD0, hEV⟩ := hv
  subst hsz
  have hx := B.exec
  have hb := B.bytes
  have hr := B.returns
  have hts := atoms_spec (ws := v_readTerm) B.pre
  have hown : s.vm.findClass RX10 = some m.cls := findClass_of_methodNamed B.named
  have hlocks := B.notSynchronized
  have hinX10 : ∀ w ∈ u_ws RX10 TX10 10, w ∈ v_readTerm := fun w h => vA_in _ w (in_X10 w h)
  generalize hAe : va_A (WL (LC cf) ad E) s.heap.size = A at hEV ⊢
  have hA : ∀ q : Nat, s.heap.size ≤ q → A q := fun q h => by rw [← hAe]; exact Or.inr h
  have hD : va_D A (WL (LC cf) ad E) := by rw [← hAe]; exact hD0.self
  have hS : va_S A s.heap s.heap [] := va_S.rf
  have hI := hI0
  have hKp : Kp w_readTerm E E := Kp.rf
  have hl := lv_entry ([.ref (ad 2), .int a0]) (n := 4) (Nat.le_of_ble_eq_true rfl)
  obtain ⟨Q, hQ⟩ : ∃ Q, Q = MQ below (va_Qv (S := Nat → va_E) (fun u => IXL cT (shC cf) (spC cf) (LC cf) ad u ∧ Kp w_readTerm E u ∧ (((xi (E 2) 5).toInt ≤ (xi (u 2) 5).toInt))) (HBL dC dI (LC cf) ad) (A)) args s 0 0 (A) := ⟨_, rfl⟩
  rw [← hQ, show entryFrame m args 4 = _ from (congrArg (fun z => entryFrame m z 4) hargs).trans (lg_entry_eq _ _ _)]
  generalize (lg_sl ([.ref (ad 2), .int a0]) ++ List.replicate (4 - (lg_sl ([.ref (ad 2), .int a0])).length) Slot.unset).toArray = ls at hl ⊢
  have hl : lv_has ls 4 [(0, .ref (ad 2)), (1, .int a0)] := hl
  obtain ⟨y1, ey1⟩ : ∃ y, xi (E 2) 5 = y := ⟨_, rfl⟩
  have fy1 : xv (E 2) 5 = .int y1 := (hI.fi 2 (mF 2 rfl) rfl (Nat.le_of_ble_eq_true rfl) rfl).trans (congrArg Value.int ey1)
  have i2 : 0 ≤ y1.toInt ∧ y1.toInt ≤ 200 := by rw [← ey1]; exact hI.iv 2 (mF 2 rfl) rfl (Nat.le_of_ble_eq_true rfl) rfl
  refine lv_aload_n hx hb dX10_readTerm_0 rfl (lv_at hl 0 rfl) ?_
  refine lv_iload_n hx hb dX10_readTerm_1 rfl (lv_at hl 1 rfl) ?_
  refine th_vL (va_runV (As := [.int a0]) (rest := []) ⟨hx, hb, hml, hown, hts⟩ (gA dC dI cT cf hC ad E s.heap.size a0 hI hh0 (by (try rw [(show xi (E 2) 5 = y1 from vi_e fy1)]); omega)) (cwV 1 hts (gi_V (in_9 _ (List.mem_of_getElem? (i := 25) rfl)) (in_9 _ (List.mem_of_getElem? (i := 26) rfl)) (in_9 _ (List.mem_of_getElem? (i := 27) rfl)) (in_8 _ (List.mem_of_getElem? (i := 14) rfl)) (in_9 _ (List.mem_of_getElem? (i := 10) rfl))) rfl rfl rfl (by decide +kernel) ⟨(show 7 * n + 7 + 1 ≤ 7 * n + 8 by omega), (show 8 + (3 + 11) + 40 * (7 * n + 7) ≤ 40 * (7 * n + 8) by omega)⟩) ⟨HWL_bl, va_recv hK hP (ci := 11) (q0 := posL 2 (LC cf)) rfl (hI.ob 2 (mF 2 rfl) rfl), (HWL_wi hP hK (WL_D hD) hS hA hEV)⟩ rfl rfl hl.1 rfl (lv_room (Nat.le_of_ble_eq_true rfl)) dX10_readTerm_2 ⟨Nat.le_of_ble_eq_true rfl, Nat.le_of_ble_eq_true rfl⟩) (WL_D hD) hS hA (fun E4 H locs hw hP hS => ?_)
  obtain ⟨hI, kq5, hw⟩ := hw
  have hKb := hKp
  have hKp := hKp.tr kq5 (wl_sub rfl rfl)
  obtain ⟨y6, ey6⟩ : ∃ y, xi (E4 2) 5 = y := ⟨_, rfl⟩
  have fy6 : xv (E4 2) 5 = .int y6 := (hI.fi 2 (mF 2 rfl) rfl (Nat.le_of_ble_eq_true rfl) rfl).trans (congrArg Value.int ey6)
  have i7 : 0 ≤ y6.toInt ∧ y6.toInt ≤ 200 := by rw [← ey6]; exact hI.iv 2 (mF 2 rfl) rfl (Nat.le_of_ble_eq_true rfl) rfl
  have f8 := hw
  try rw [(show xi (E 2) 5 = y1 from vi_e fy1)] at f8
  try rw [(show xi (E4 2) 5 = y6 from vi_e fy6)] at f8
  refine lv_iconst (v := 0) hx hb dX10_readTerm_5 (by decide) ?_
  refine lv_istore_n (lv' := [(2, .int 0), (0, .ref (ad 2)), (1, .int a0)]) hx hb dX10_readTerm_6 rfl hl (by decide) rfl (fun ls hl => ?_)
  have hL7 : ∀ d : Nat, ∀ (w7_2_5 : Int32) (v7_2 : Int32) (E7_ : Nat → va_E) (H : Heap) (locs : List Loc) (ls : Array Slot), 0 ≤ w7_2_5.toInt ∧ w7_2_5.toInt ≤ 200 → 0 ≤ v7_2.toInt ∧ v7_2.toInt ≤ 200 → y1.toInt ≤ w7_2_5.toInt → 200 - v7_2.toInt < (d : Int) → IXL cT (shC cf) (spC cf) (LC cf) ad E7_ → Kp w_readTerm E E7_ → xv (E7_ 2) 5 = .int w7_2_5 → va_P (dC, dI) vwCl (WL (LC cf) ad E7_) H → va_S A s.heap H locs → lv_has ls 4 [(2, .int v7_2), (0, .ref (ad 2)), (1, .int a0)] → W p l e (headSpec v_readTerm (rm_readTerm n)).room s m args below meth c H locs 0 0 Q (F0 m 7 ls []) := by
    intro d
    induction d with
    | zero =>
      intro w7_2_5 v7_2 E7_ H locs ls hw7_2_5 hv7_2 hx7_0 hx7_1 hI hKp hs7_2_5 hP hS hl
      exact absurd hx7_1 (by omega)
    | succ d ih7 =>
      intro w7_2_5 v7_2 E7_ H locs ls hw7_2_5 hv7_2 hx7_0 hx7_1 hI hKp hs7_2_5 hP hS hl
      refine lv_iload_n hx hb dX10_readTerm_7 rfl (lv_at hl 0 rfl) ?_
      refine lv_sipush (v := 200) hx hb dX10_readTerm_8 (by decide) ?_
      refine lv_icmp_ge (tgt := 65) hx hb dX10_readTerm_11 (by decide) (fun c9 => ?_) (fun c9 => ?_)
      · --11 taken
        have t10 : (200 : Int) ≤ v7_2.toInt := ti_le c9
        have i11 : 200 ≤ v7_2.toInt ∧ v7_2.toInt ≤ 200 := iv_le_r t10 (il_ 200) hv7_2 (by decide)
        rw [hQ]
        exact W.vret hx hb hr (fun t ht hW => ⟨⟨E7_, rfl, ⟨hI, hKp, (by (try rw [(show xi (E7_ 2) 5 = w7_2_5 from vi_e hs7_2_5)]); (try rw [ey1]); all_goals omega)⟩, by show va_P (dC, dI) vwCl (WL (LC cf) ad E7_) t.heap; rw [ht]; exact hP⟩, hS.F ht⟩) hS.2.2 dX10_readTerm_65
      · --11 not
        have t12 : v7_2.toInt < 200 := ti_nle c9
        have i13 : 0 ≤ v7_2.toInt ∧ v7_2.toInt ≤ 199 := iv_lt_l t12 hv7_2 (il_ 200) (by decide)
        obtain ⟨qs14, vs15, hRqs14, hSSqs14⟩ := hEV.2.1.2.2.2.2.1
        refine va_ldcS hx hb hown hRqs14 dX10_readTerm_14 ?_
        refine lv_aload_n hx hb dX10_readTerm_16 rfl (lv_at hl 1 rfl) ?_
        refine th_iL (va_runV (As := []) (rest := [.ref qs14]) ⟨hx, hb, hml, hown, hts⟩ (q_next l dC dI cT cf hC ad E7_ H.size hI) (cwV 0 hts (gi_V (in_8 _ (List.mem_of_getElem? (i := 27) rfl)) (in_8 _ (List.mem_of_getElem? (i := 28) rfl)) (in_8 _ (List.mem_of_getElem? (i := 29) rfl)) (in_8 _ (List.mem_of_getElem? (i := 14) rfl)) (in_8 _ (List.mem_of_getElem? (i := 19) rfl))) rfl rfl rfl (by decide +kernel) ⟨(show 0 + 1 ≤ 7 * n + 8 by omega), (show 8 + (1 + 11) + 40 * (0) ≤ 40 * (7 * n + 8) by omega)⟩) ⟨HWL_bl, va_recv hK hP (ci := 11) (q0 := posL 2 (LC cf)) rfl (hI.ob 2 (mF 2 rfl) rfl), (HWL_wi hP hK (WL_D hD) hS hA hEV)⟩ rfl rfl hl.1 rfl (lv_room (Nat.le_of_ble_eq_true rfl)) dX10_readTerm_17 ⟨Nat.le_of_ble_eq_true rfl, Nat.le_of_ble_eq_true rfl⟩) (WL_D hD) hS hA (fun r16 E17 H locs hw hP hS => ?_)
        obtain ⟨hI, kq18, hw⟩ := hw
        have hKb := hKp
        have hKp := hKp.tr kq18 (wl_sub rfl rfl)
        obtain ⟨y19, ey19⟩ : ∃ y, xi (E17 2) 2 = y := ⟨_, rfl⟩
        have fy19 : xv (E17 2) 2 = .int y19 := (hI.fi 2 (mF 2 rfl) rfl (Nat.le_of_ble_eq_true rfl) rfl).trans (congrArg Value.int ey19)
        have i20 : 0 ≤ y19.toInt ∧ y19.toInt ≤ 200 := by rw [← ey19]; exact hI.iv 2 (mF 2 rfl) rfl (Nat.le_of_ble_eq_true rfl) rfl
        obtain ⟨f21, f22⟩ := hw
        have i23 : 0 ≤ (xi (E 2) 1).toInt ∧ (xi (E 2) 1).toInt ≤ 200 := hI0.iv 2 (mF 2 rfl) rfl (Nat.le_of_ble_eq_true rfl) rfl
        try rw [hKb.ei 2 1 rfl] at f22
        try rw [(show xi (E17 2) 2 = y19 from vi_e fy19)] at f22
        refine th_pi (va_runSN (As := [.ref qs14, .int r16]) (rest := []) ⟨hx, hb, hml, hown, hts⟩ (q_isOneOf l qs14 vs15 tMUL r16 (by decide) (by decide)) ⟨va_cnB 2 hts (gi_0 (in_8 _ (List.mem_of_getElem? (i := 31) rfl))) rfl rfl rfl (hEV.1.1 _ (List.mem_of_getElem? (i := 12) rfl)) (hts _ (vA_in _ _ (in_4 _ (List.mem_of_getElem? (i := 23) rfl)))) (by decide +kernel) ⟨(show 4 + 1 ≤ 7 * n + 8 by omega), (show 8 + (2 + 11) + 40 * (4) ≤ 40 * (7 * n + 8) by omega)⟩, (hts _ (vA_in _ _ (in_8 _ (List.mem_of_getElem? (i := 30) rfl)))), trivial⟩ ⟨fun a U g mk q => ⟨q.1, SS_c q.2⟩, fun U hU hW => ⟨rfl, SS_w hU hW hS (fun _ h => h.elim) hSSqs14⟩⟩ rfl rfl hl.1 rfl (lv_room (Nat.le_of_ble_eq_true rfl)) dX10_readTerm_20 ⟨Nat.le_of_ble_eq_true rfl, Nat.le_of_ble_eq_true rfl⟩) hS (fun r24 H1 locs1 hw hk1 hS => ?_)
        have hP := ub_keep hP hk1
        generalize H1 = H at hP hS ⊢
        generalize locs1 = locs at hS ⊢
        rcases hw with hw | hw
        · -- isOneOf, case 0
          obtain ⟨rfl, f25⟩ := hw
          refine lv_if_eq (tgt := 65) hx hb dX10_readTerm_23 (by decide) (fun c26 => ?_) (fun c26 => ?_)
          · --23 taken
            exact absurd c26 (by decide)
          · --23 not
            refine lv_aload_n hx hb dX10_readTerm_26 rfl (lv_at hl 1 rfl) ?_
            refine th_getL (ci := 11) (C := RX10) (T := TX10) (N := 10) (v := .ref (ad 21)) hx hb hts hinX10 hown hK hP hI 2 (mF 2 rfl) rfl rfl 0 (Nat.le_of_ble_eq_true rfl) (hts _ (vA_in _ _ (in_8 _ (List.mem_of_getElem? (i := 17) rfl)))) (fun _ h9 => h9) (hI.fr 2 (mF 2 rfl) rfl (Nat.le_of_ble_eq_true rfl) 21 rfl) dX10_readTerm_27 ?_
            refine lv_aload_n hx hb dX10_readTerm_30 rfl (lv_at hl 1 rfl) ?_
            refine th_getL (ci := 11) (C := RX10) (T := TX10) (N := 10) (v := .int y19) hx hb hts hinX10 hown hK hP hI 2 (mF 2 rfl) rfl rfl 2 (Nat.le_of_ble_eq_true rfl) (hts _ (vA_in _ _ (in_8 _ (List.mem_of_getElem? (i := 9) rfl)))) (fun _ h9 => h9) fy19 dX10_readTerm_31 ?_
            have n28 : vp_in y19 200 := (vp_in_iff.mpr ⟨by omega, by omega⟩)
            refine th_ialdL hx hb hK hP hI 21 (mF 21 rfl) rfl rfl n28 dX10_readTerm_34 (fun y27 ey27 => ?_)
            have iy27 : 0 ≤ y27.toInt ∧ y27.toInt ≤ 255 := hI.el 21 (mF 21 rfl) rfl n28 (fun _ => rfl) ey27
            have ey27 := ey27.trans (hKp.ei 21 _ rfl)
            refine lv_istore_n (lv' := [(3, .int y27), (2, .int v7_2), (0, .ref (ad 2)), (1, .int a0)]) hx hb dX10_readTerm_35 rfl hl (by decide) rfl (fun ls hl => ?_)
            refine lv_aload_n hx hb dX10_readTerm_36 rfl (lv_at hl 2 rfl) ?_
            refine lv_dup hx hb dX10_readTerm_37 rfl ?_
            refine th_getL (ci := 11) (C := RX10) (T := TX10) (N := 10) (v := .int y19) hx hb hts hinX10 hown hK hP hI 2 (mF 2 rfl) rfl rfl 2 (Nat.le_of_ble_eq_true rfl) (hts _ (vA_in _ _ (in_8 _ (List.mem_of_getElem? (i := 9) rfl)))) (fun _ h9 => h9) fy19 dX10_readTerm_38 ?_
            refine lv_iconst (v := 1) hx hb dX10_readTerm_41 (by decide) ?_
            refine lv_iadd hx hb dX10_readTerm_42 ?_
            refine lv_topi (fun y29 ey29 => ?_)
            obtain ⟨ty29, iy29⟩ := ti_add (e := 1) (f := 201) i20 ln_1 ey29 (by decide)
            have ty29 : y29.toInt = y19.toInt + 1 := ty29
            have iy29 : 1 ≤ y29.toInt ∧ y29.toInt ≤ 201 := iy29
            have i30 : 1 ≤ y29.toInt ∧ y29.toInt ≤ 200 := by omega
            refine th_putL (ci := 11) (C := RX10) (T := TX10) (N := 10) (v := .int y29) (ty := .int) hx hb hts hinX10 tyX10 tyX10_ok nmX10 hown hK hP (WL_D hD) hS hI 2 (mF 2 rfl) rfl rfl 2 (Nat.le_of_ble_eq_true rfl) (hts _ (vA_in _ _ (in_8 _ (List.mem_of_getElem? (i := 9) rfl)))) (fun _ h9 => h9) rfl (by decide +kernel) rfl rfl (okI rfl (iv_w i30 (by decide))) dX10_readTerm_43 (fun H locs E31 pw32 hI hP hS => ?_)
            have hKp := hKp.pw pw32 rfl
            refine lv_aload_n hx hb dX10_readTerm_46 rfl (lv_at hl 2 rfl) ?_
            refine lv_iload_n hx hb dX10_readTerm_47 rfl (lv_at hl 3 rfl) ?_
            refine th_vL (va_runV (As := [.int a0]) (rest := []) ⟨hx, hb, hml, hown, hts⟩ (gA dC dI cT cf hC ad E31 H.size a0 hI hh0 (by (try rw [(show xi (E31 2) 5 = w7_2_5 from vi_e ((pw32.2 2 5 (fun q9 => absurd q9.2 (Nat.ne_of_beq_eq_false rfl))).trans ((kq18 2 5 rfl).trans hs7_2_5)))]); omega)) (cwV 1 hts (gi_V (in_9 _ (List.mem_of_getElem? (i := 25) rfl)) (in_9 _ (List.mem_of_getElem? (i := 26) rfl)) (in_9 _ (List.mem_of_getElem? (i := 27) rfl)) (in_8 _ (List.mem_of_getElem? (i := 14) rfl)) (in_9 _ (List.mem_of_getElem? (i := 10) rfl))) rfl rfl rfl (by decide +kernel) ⟨(show 7 * n + 7 + 1 ≤ 7 * n + 8 by omega), (show 8 + (3 + 11) + 40 * (7 * n + 7) ≤ 40 * (7 * n + 8) by omega)⟩) ⟨HWL_bl, va_recv hK hP (ci := 11) (q0 := posL 2 (LC cf)) rfl (hI.ob 2 (mF 2 rfl) rfl), (HWL_wi hP hK (WL_D hD) hS hA hEV)⟩ rfl rfl hl.1 rfl (lv_room (Nat.le_of_ble_eq_true rfl)) dX10_readTerm_48 ⟨Nat.le_of_ble_eq_true rfl, Nat.le_of_ble_eq_true rfl⟩) (WL_D hD) hS hA (fun E34 H locs hw hP hS => ?_)
            obtain ⟨hI, kq35, hw⟩ := hw
            have hKb := hKp
            have hKp := hKp.tr kq35 (wl_sub rfl rfl)
            obtain ⟨y36, ey36⟩ : ∃ y, xi (E34 2) 5 = y := ⟨_, rfl⟩
            have fy36 : xv (E34 2) 5 = .int y36 := (hI.fi 2 (mF 2 rfl) rfl (Nat.le_of_ble_eq_true rfl) rfl).trans (congrArg Value.int ey36)
            have i37 : 0 ≤ y36.toInt ∧ y36.toInt ≤ 200 := by rw [← ey36]; exact hI.iv 2 (mF 2 rfl) rfl (Nat.le_of_ble_eq_true rfl) rfl
            have f38 := hw
            try rw [(show xi (E31 2) 5 = w7_2_5 from vi_e ((pw32.2 2 5 (fun q9 => absurd q9.2 (Nat.ne_of_beq_eq_false rfl))).trans ((kq18 2 5 rfl).trans hs7_2_5)))] at f38
            try rw [(show xi (E34 2) 5 = y36 from vi_e fy36)] at f38
            refine lv_aload_n hx hb dX10_readTerm_51 rfl (lv_at hl 2 rfl) ?_
            refine lv_iload_n hx hb dX10_readTerm_52 rfl (lv_at hl 0 rfl) ?_
            refine th_pi (va_runS (As := [.int y27]) (rest := [.ref (ad 2)]) ⟨hx, hb, hml, hown, hts⟩ (q_casSign l y27 iy27) (va_cwS 1 hts (gi_S (in_9 _ (List.mem_of_getElem? (i := 6) rfl)) (in_7 _ (List.mem_of_getElem? (i := 13) rfl)) (in_7 _ (List.mem_of_getElem? (i := 2) rfl)) (in_7 _ (List.mem_of_getElem? (i := 14) rfl))) rfl rfl rfl (by decide +kernel) ⟨(show 0 + 1 ≤ 7 * n + 8 by omega), (show 8 + (1 + 11) + 40 * (0) ≤ 40 * (7 * n + 8) by omega)⟩) ⟨fun _ _ _ _ q => q, fun _ _ _ => ⟨rfl, trivial⟩⟩ rfl rfl hl.1 rfl (lv_room (Nat.le_of_ble_eq_true rfl)) dX10_readTerm_53 ⟨Nat.le_of_ble_eq_true rfl, Nat.le_of_ble_eq_true rfl⟩) hS (fun r39 H1 locs1 hw hk1 hS => ?_)
            have hP := ub_keep hP hk1
            generalize H1 = H at hP hS ⊢
            generalize locs1 = locs at hS ⊢
            obtain ⟨f40, f41⟩ := hw
            refine th_vL (va_runV (As := [.int r39]) (rest := []) ⟨hx, hb, hml, hown, hts⟩ (q_addT l dC dI cT cf hC ad E34 H.size r39 hI) (cwV 1 hts (gi_V (in_9 _ (List.mem_of_getElem? (i := 7) rfl)) (in_9 _ (List.mem_of_getElem? (i := 8) rfl)) (in_9 _ (List.mem_of_getElem? (i := 9) rfl)) (in_8 _ (List.mem_of_getElem? (i := 14) rfl)) (in_7 _ (List.mem_of_getElem? (i := 29) rfl))) rfl rfl rfl (by decide +kernel) ⟨(show 0 + 1 ≤ 7 * n + 8 by omega), (show 8 + (2 + 11) + 40 * (0) ≤ 40 * (7 * n + 8) by omega)⟩) ⟨HWL_bl, va_recv hK hP (ci := 11) (q0 := posL 2 (LC cf)) rfl (hI.ob 2 (mF 2 rfl) rfl), (HWL_wi hP hK (WL_D hD) hS hA hEV)⟩ rfl rfl hl.1 rfl (lv_room (Nat.le_of_ble_eq_true rfl)) dX10_readTerm_56 ⟨Nat.le_of_ble_eq_true rfl, Nat.le_of_ble_eq_true rfl⟩) (WL_D hD) hS hA (fun E43 H locs hw hP hS => ?_)
            obtain ⟨hI, kq44, hw⟩ := hw
            have hKb := hKp
            have hKp := hKp.tr kq44 (wl_sub rfl rfl)
            obtain ⟨y45, ey45⟩ : ∃ y, xi (E43 2) 5 = y := ⟨_, rfl⟩
            have fy45 : xv (E43 2) 5 = .int y45 := (hI.fi 2 (mF 2 rfl) rfl (Nat.le_of_ble_eq_true rfl) rfl).trans (congrArg Value.int ey45)
            have i46 : 0 ≤ y45.toInt ∧ y45.toInt ≤ 200 := by rw [← ey45]; exact hI.iv 2 (mF 2 rfl) rfl (Nat.le_of_ble_eq_true rfl) rfl
            have f47 := hw
            try rw [(show xi (E34 2) 5 = y36 from vi_e fy36)] at f47
            try rw [(show xi (E43 2) 5 = y45 from vi_e fy45)] at f47
            obtain ⟨y48, ey48⟩ : ∃ y : Int32, y = v7_2 + (1 : Int32) := ⟨_, rfl⟩
            obtain ⟨ty48, iy48⟩ := ti_add (e := 1) (f := 200) i13 ln_1 ey48 (by decide)
            have ty48 : y48.toInt = v7_2.toInt + 1 := ty48
            have iy48 : 1 ≤ y48.toInt ∧ y48.toInt ≤ 200 := iy48
            refine lv_iinc (v := y48) (lv' := [(2, .int y48), (3, .int y27), (0, .ref (ad 2)), (1, .int a0)]) hx hb dX10_readTerm_59 hl (k := 1) rfl (by rw [ey48]; rfl) (by decide) rfl (fun ls hl => ?_)
            refine lv_goto (tgt := 7) hx hb dX10_readTerm_62 (by decide) ?_
            exact ih7 y45 y48 E43 _ _ _ i46 (iv_w iy48 (by decide)) (by have h9 := i46; omega) (by omega) hI hKp fy45 hP hS (lv_sub hl [0, 2, 3] rfl)
        · -- isOneOf, case 1
          obtain rfl := hw
          refine lv_if_eq (tgt := 65) hx hb dX10_readTerm_23 (by decide) (fun c49 => ?_) (fun c49 => ?_)
          · --23 taken
            rw [hQ]
            exact W.vret hx hb hr (fun t ht hW => ⟨⟨E17, rfl, ⟨hI, hKp, (by (try rw [(show xi (E17 2) 5 = w7_2_5 from vi_e ((kq18 2 5 rfl).trans hs7_2_5))]); (try rw [ey1]); all_goals omega)⟩, by show va_P (dC, dI) vwCl (WL (LC cf) ad E17) t.heap; rw [ht]; exact hP⟩, hS.F ht⟩) hS.2.2 dX10_readTerm_65
          · --23 not
            exact absurd c49 (by decide)
  exact hL7 (201) y6 (0 : Int32) E4 _ _ _ i7 (iv_w ln_0 (by decide)) (by have h9 := i7; omega) (by have h9 := ln_0; omega) hI hKp fy6 hP hS (lv_sub hl [0, 1, 2] rfl)
set_option maxHeartbeats 4000000 in
set_option maxRecDepth 100000 in
theorem q_readSum (l : Launch) (n : Nat) (gT : C_readTerm l n) : C_readSum l n := by
  intro dC dI cT cf hC ad E sz a0 hI0 hh0 hh1
  obtain ⟨⟨hc0, hc1, hc2, hc3, hc4, hc5⟩, hcr⟩ := id hC
  refine Met.ofW (cc := cX10_readSum) (maxL := 4) (ret := none) (by decide) rfl ?_
  intro p e s m args below meth c s₁ B hml hv
  obtain ⟨hargs, hsz, hP, hK, hD0, hEV⟩ := hv
  subst hsz
  have hx := B.exec
  have hb := B.bytes
  have hr := B.returns
  have hts := atoms_spec (ws := v_readSum) B.pre
  have hown : s.vm.findClass RX10 = some m.cls := findClass_of_methodNamed B.named
  have hlocks := B.notSynchronized
  have hinX10 : ∀ w ∈ u_ws RX10 TX10 10, w ∈ v_readSum := fun w h => vA_in _ w (in_X10 w h)
  generalize hAe : va_A (WL (LC cf) ad E) s.heap.size = A at hEV ⊢
  have hA : ∀ q : Nat, s.heap.size ≤ q → A q := fun q h => by rw [← hAe]; exact Or.inr h
  have hD : va_D A (WL (LC cf) ad E) := by rw [← hAe]; exact hD0.self
  have hS : va_S A s.heap s.heap [] := va_S.rf
  have hI := hI0
  have hKp : Kp w_readSum E E := Kp.rf
  have hl := lv_entry ([.ref (ad 2), .int a0]) (n := 4) (Nat.le_of_ble_eq_true rfl)
  obtain ⟨Q, hQ⟩ : ∃ Q, Q = MQ below (va_Qv (S := Nat → va_E) (fun u => IXL cT (shC cf) (spC cf) (LC cf) ad u ∧ Kp w_readSum E u ∧ (((xi (E 2) 5).toInt ≤ (xi (u 2) 5).toInt))) (HBL dC dI (LC cf) ad) (A)) args s 0 0 (A) := ⟨_, rfl⟩
  rw [← hQ, show entryFrame m args 4 = _ from (congrArg (fun z => entryFrame m z 4) hargs).trans (lg_entry_eq _ _ _)]
  generalize (lg_sl ([.ref (ad 2), .int a0]) ++ List.replicate (4 - (lg_sl ([.ref (ad 2), .int a0])).length) Slot.unset).toArray = ls at hl ⊢
  have hl : lv_has ls 4 [(0, .ref (ad 2)), (1, .int a0)] := hl
  obtain ⟨y1, ey1⟩ : ∃ y, xi (E 2) 5 = y := ⟨_, rfl⟩
  have fy1 : xv (E 2) 5 = .int y1 := (hI.fi 2 (mF 2 rfl) rfl (Nat.le_of_ble_eq_true rfl) rfl).trans (congrArg Value.int ey1)
  have i2 : 0 ≤ y1.toInt ∧ y1.toInt ≤ 200 := by rw [← ey1]; exact hI.iv 2 (mF 2 rfl) rfl (Nat.le_of_ble_eq_true rfl) rfl
  refine lv_aload_n hx hb dX10_readSum_0 rfl (lv_at hl 0 rfl) ?_
  refine lv_iload_n hx hb dX10_readSum_1 rfl (lv_at hl 1 rfl) ?_
  refine th_vL (va_runV (As := [.int a0]) (rest := []) ⟨hx, hb, hml, hown, hts⟩ (gT dC dI cT cf hC ad E s.heap.size a0 hI hh0 (by (try rw [(show xi (E 2) 5 = y1 from vi_e fy1)]); omega)) (cwV 1 hts (gi_V (in_9 _ (List.mem_of_getElem? (i := 3) rfl)) (in_9 _ (List.mem_of_getElem? (i := 4) rfl)) (in_9 _ (List.mem_of_getElem? (i := 5) rfl)) (in_8 _ (List.mem_of_getElem? (i := 14) rfl)) (in_9 _ (List.mem_of_getElem? (i := 24) rfl))) rfl rfl rfl (by decide +kernel) ⟨(show 7 * n + 8 + 1 ≤ 7 * n + 9 by omega), (show 8 + (4 + 11) + 40 * (7 * n + 8) ≤ 40 * (7 * n + 9) by omega)⟩) ⟨HWL_bl, va_recv hK hP (ci := 11) (q0 := posL 2 (LC cf)) rfl (hI.ob 2 (mF 2 rfl) rfl), (HWL_wi hP hK (WL_D hD) hS hA hEV)⟩ rfl rfl hl.1 rfl (lv_room (Nat.le_of_ble_eq_true rfl)) dX10_readSum_2 ⟨Nat.le_of_ble_eq_true rfl, Nat.le_of_ble_eq_true rfl⟩) (WL_D hD) hS hA (fun E4 H locs hw hP hS => ?_)
  obtain ⟨hI, kq5, hw⟩ := hw
  have hKb := hKp
  have hKp := hKp.tr kq5 (wl_sub rfl rfl)
  obtain ⟨y6, ey6⟩ : ∃ y, xi (E4 2) 5 = y := ⟨_, rfl⟩
  have fy6 : xv (E4 2) 5 = .int y6 := (hI.fi 2 (mF 2 rfl) rfl (Nat.le_of_ble_eq_true rfl) rfl).trans (congrArg Value.int ey6)
  have i7 : 0 ≤ y6.toInt ∧ y6.toInt ≤ 200 := by rw [← ey6]; exact hI.iv 2 (mF 2 rfl) rfl (Nat.le_of_ble_eq_true rfl) rfl
  have f8 := hw
  try rw [(show xi (E 2) 5 = y1 from vi_e fy1)] at f8
  try rw [(show xi (E4 2) 5 = y6 from vi_e fy6)] at f8
  refine lv_iconst (v := 0) hx hb dX10_readSum_5 (by decide) ?_
  refine lv_istore_n (lv' := [(2, .int 0), (0, .ref (ad 2)), (1, .int a0)]) hx hb dX10_readSum_6 rfl hl (by decide) rfl (fun ls hl => ?_)
  have hL7 : ∀ d : Nat, ∀ (w7_2_5 : Int32) (v7_2 : Int32) (E7_ : Nat → va_E) (H : Heap) (locs : List Loc) (ls : Array Slot), 0 ≤ w7_2_5.toInt ∧ w7_2_5.toInt ≤ 200 → 0 ≤ v7_2.toInt ∧ v7_2.toInt ≤ 200 → y1.toInt ≤ w7_2_5.toInt → 200 - v7_2.toInt < (d : Int) → IXL cT (shC cf) (spC cf) (LC cf) ad E7_ → Kp w_readSum E E7_ → xv (E7_ 2) 5 = .int w7_2_5 → va_P (dC, dI) vwCl (WL (LC cf) ad E7_) H → va_S A s.heap H locs → lv_has ls 4 [(2, .int v7_2), (0, .ref (ad 2)), (1, .int a0)] → W p l e (headSpec v_readSum (rm_readSum n)).room s m args below meth c H locs 0 0 Q (F0 m 7 ls []) := by
    intro d
    induction d with
    | zero =>
      intro w7_2_5 v7_2 E7_ H locs ls hw7_2_5 hv7_2 hx7_0 hx7_1 hI hKp hs7_2_5 hP hS hl
      exact absurd hx7_1 (by omega)
    | succ d ih7 =>
      intro w7_2_5 v7_2 E7_ H locs ls hw7_2_5 hv7_2 hx7_0 hx7_1 hI hKp hs7_2_5 hP hS hl
      refine lv_iload_n hx hb dX10_readSum_7 rfl (lv_at hl 0 rfl) ?_
      refine lv_sipush (v := 200) hx hb dX10_readSum_8 (by decide) ?_
      refine lv_icmp_ge (tgt := 65) hx hb dX10_readSum_11 (by decide) (fun c9 => ?_) (fun c9 => ?_)
      · --11 taken
        have t10 : (200 : Int) ≤ v7_2.toInt := ti_le c9
        have i11 : 200 ≤ v7_2.toInt ∧ v7_2.toInt ≤ 200 := iv_le_r t10 (il_ 200) hv7_2 (by decide)
        rw [hQ]
        exact W.vret hx hb hr (fun t ht hW => ⟨⟨E7_, rfl, ⟨hI, hKp, (by (try rw [(show xi (E7_ 2) 5 = w7_2_5 from vi_e hs7_2_5)]); (try rw [ey1]); all_goals omega)⟩, by show va_P (dC, dI) vwCl (WL (LC cf) ad E7_) t.heap; rw [ht]; exact hP⟩, hS.F ht⟩) hS.2.2 dX10_readSum_65
      · --11 not
        have t12 : v7_2.toInt < 200 := ti_nle c9
        have i13 : 0 ≤ v7_2.toInt ∧ v7_2.toInt ≤ 199 := iv_lt_l t12 hv7_2 (il_ 200) (by decide)
        obtain ⟨qs14, vs15, hRqs14, hSSqs14⟩ := hEV.2.1.2.2.2.1
        refine va_ldcS hx hb hown hRqs14 dX10_readSum_14 ?_
        refine lv_aload_n hx hb dX10_readSum_16 rfl (lv_at hl 1 rfl) ?_
        refine th_iL (va_runV (As := []) (rest := [.ref qs14]) ⟨hx, hb, hml, hown, hts⟩ (q_next l dC dI cT cf hC ad E7_ H.size hI) (cwV 0 hts (gi_V (in_8 _ (List.mem_of_getElem? (i := 27) rfl)) (in_8 _ (List.mem_of_getElem? (i := 28) rfl)) (in_8 _ (List.mem_of_getElem? (i := 29) rfl)) (in_8 _ (List.mem_of_getElem? (i := 14) rfl)) (in_8 _ (List.mem_of_getElem? (i := 19) rfl))) rfl rfl rfl (by decide +kernel) ⟨(show 0 + 1 ≤ 7 * n + 9 by omega), (show 8 + (1 + 11) + 40 * (0) ≤ 40 * (7 * n + 9) by omega)⟩) ⟨HWL_bl, va_recv hK hP (ci := 11) (q0 := posL 2 (LC cf)) rfl (hI.ob 2 (mF 2 rfl) rfl), (HWL_wi hP hK (WL_D hD) hS hA hEV)⟩ rfl rfl hl.1 rfl (lv_room (Nat.le_of_ble_eq_true rfl)) dX10_readSum_17 ⟨Nat.le_of_ble_eq_true rfl, Nat.le_of_ble_eq_true rfl⟩) (WL_D hD) hS hA (fun r16 E17 H locs hw hP hS => ?_)
        obtain ⟨hI, kq18, hw⟩ := hw
        have hKb := hKp
        have hKp := hKp.tr kq18 (wl_sub rfl rfl)
        obtain ⟨y19, ey19⟩ : ∃ y, xi (E17 2) 2 = y := ⟨_, rfl⟩
        have fy19 : xv (E17 2) 2 = .int y19 := (hI.fi 2 (mF 2 rfl) rfl (Nat.le_of_ble_eq_true rfl) rfl).trans (congrArg Value.int ey19)
        have i20 : 0 ≤ y19.toInt ∧ y19.toInt ≤ 200 := by rw [← ey19]; exact hI.iv 2 (mF 2 rfl) rfl (Nat.le_of_ble_eq_true rfl) rfl
        obtain ⟨f21, f22⟩ := hw
        have i23 : 0 ≤ (xi (E 2) 1).toInt ∧ (xi (E 2) 1).toInt ≤ 200 := hI0.iv 2 (mF 2 rfl) rfl (Nat.le_of_ble_eq_true rfl) rfl
        try rw [hKb.ei 2 1 rfl] at f22
        try rw [(show xi (E17 2) 2 = y19 from vi_e fy19)] at f22
        refine th_pi (va_runSN (As := [.ref qs14, .int r16]) (rest := []) ⟨hx, hb, hml, hown, hts⟩ (q_isOneOf l qs14 vs15 tADD r16 (by decide) (by decide)) ⟨va_cnB 2 hts (gi_0 (in_8 _ (List.mem_of_getElem? (i := 31) rfl))) rfl rfl rfl (hEV.1.1 _ (List.mem_of_getElem? (i := 12) rfl)) (hts _ (vA_in _ _ (in_4 _ (List.mem_of_getElem? (i := 23) rfl)))) (by decide +kernel) ⟨(show 4 + 1 ≤ 7 * n + 9 by omega), (show 8 + (2 + 11) + 40 * (4) ≤ 40 * (7 * n + 9) by omega)⟩, (hts _ (vA_in _ _ (in_8 _ (List.mem_of_getElem? (i := 30) rfl)))), trivial⟩ ⟨fun a U g mk q => ⟨q.1, SS_c q.2⟩, fun U hU hW => ⟨rfl, SS_w hU hW hS (fun _ h => h.elim) hSSqs14⟩⟩ rfl rfl hl.1 rfl (lv_room (Nat.le_of_ble_eq_true rfl)) dX10_readSum_20 ⟨Nat.le_of_ble_eq_true rfl, Nat.le_of_ble_eq_true rfl⟩) hS (fun r24 H1 locs1 hw hk1 hS => ?_)
        have hP := ub_keep hP hk1
        generalize H1 = H at hP hS ⊢
        generalize locs1 = locs at hS ⊢
        rcases hw with hw | hw
        · -- isOneOf, case 0
          obtain ⟨rfl, f25⟩ := hw
          refine lv_if_eq (tgt := 65) hx hb dX10_readSum_23 (by decide) (fun c26 => ?_) (fun c26 => ?_)
          · --23 taken
            exact absurd c26 (by decide)
          · --23 not
            refine lv_aload_n hx hb dX10_readSum_26 rfl (lv_at hl 1 rfl) ?_
            refine th_getL (ci := 11) (C := RX10) (T := TX10) (N := 10) (v := .ref (ad 21)) hx hb hts hinX10 hown hK hP hI 2 (mF 2 rfl) rfl rfl 0 (Nat.le_of_ble_eq_true rfl) (hts _ (vA_in _ _ (in_8 _ (List.mem_of_getElem? (i := 17) rfl)))) (fun _ h9 => h9) (hI.fr 2 (mF 2 rfl) rfl (Nat.le_of_ble_eq_true rfl) 21 rfl) dX10_readSum_27 ?_
            refine lv_aload_n hx hb dX10_readSum_30 rfl (lv_at hl 1 rfl) ?_
            refine th_getL (ci := 11) (C := RX10) (T := TX10) (N := 10) (v := .int y19) hx hb hts hinX10 hown hK hP hI 2 (mF 2 rfl) rfl rfl 2 (Nat.le_of_ble_eq_true rfl) (hts _ (vA_in _ _ (in_8 _ (List.mem_of_getElem? (i := 9) rfl)))) (fun _ h9 => h9) fy19 dX10_readSum_31 ?_
            have n28 : vp_in y19 200 := (vp_in_iff.mpr ⟨by omega, by omega⟩)
            refine th_ialdL hx hb hK hP hI 21 (mF 21 rfl) rfl rfl n28 dX10_readSum_34 (fun y27 ey27 => ?_)
            have iy27 : 0 ≤ y27.toInt ∧ y27.toInt ≤ 255 := hI.el 21 (mF 21 rfl) rfl n28 (fun _ => rfl) ey27
            have ey27 := ey27.trans (hKp.ei 21 _ rfl)
            refine lv_istore_n (lv' := [(3, .int y27), (2, .int v7_2), (0, .ref (ad 2)), (1, .int a0)]) hx hb dX10_readSum_35 rfl hl (by decide) rfl (fun ls hl => ?_)
            refine lv_aload_n hx hb dX10_readSum_36 rfl (lv_at hl 2 rfl) ?_
            refine lv_dup hx hb dX10_readSum_37 rfl ?_
            refine th_getL (ci := 11) (C := RX10) (T := TX10) (N := 10) (v := .int y19) hx hb hts hinX10 hown hK hP hI 2 (mF 2 rfl) rfl rfl 2 (Nat.le_of_ble_eq_true rfl) (hts _ (vA_in _ _ (in_8 _ (List.mem_of_getElem? (i := 9) rfl)))) (fun _ h9 => h9) fy19 dX10_readSum_38 ?_
            refine lv_iconst (v := 1) hx hb dX10_readSum_41 (by decide) ?_
            refine lv_iadd hx hb dX10_readSum_42 ?_
            refine lv_topi (fun y29 ey29 => ?_)
            obtain ⟨ty29, iy29⟩ := ti_add (e := 1) (f := 201) i20 ln_1 ey29 (by decide)
            have ty29 : y29.toInt = y19.toInt + 1 := ty29
            have iy29 : 1 ≤ y29.toInt ∧ y29.toInt ≤ 201 := iy29
            have i30 : 1 ≤ y29.toInt ∧ y29.toInt ≤ 200 := by omega
            refine th_putL (ci := 11) (C := RX10) (T := TX10) (N := 10) (v := .int y29) (ty := .int) hx hb hts hinX10 tyX10 tyX10_ok nmX10 hown hK hP (WL_D hD) hS hI 2 (mF 2 rfl) rfl rfl 2 (Nat.le_of_ble_eq_true rfl) (hts _ (vA_in _ _ (in_8 _ (List.mem_of_getElem? (i := 9) rfl)))) (fun _ h9 => h9) rfl (by decide +kernel) rfl rfl (okI rfl (iv_w i30 (by decide))) dX10_readSum_43 (fun H locs E31 pw32 hI hP hS => ?_)
            have hKp := hKp.pw pw32 rfl
            refine lv_aload_n hx hb dX10_readSum_46 rfl (lv_at hl 2 rfl) ?_
            refine lv_iload_n hx hb dX10_readSum_47 rfl (lv_at hl 3 rfl) ?_
            refine th_vL (va_runV (As := [.int a0]) (rest := []) ⟨hx, hb, hml, hown, hts⟩ (gT dC dI cT cf hC ad E31 H.size a0 hI hh0 (by (try rw [(show xi (E31 2) 5 = w7_2_5 from vi_e ((pw32.2 2 5 (fun q9 => absurd q9.2 (Nat.ne_of_beq_eq_false rfl))).trans ((kq18 2 5 rfl).trans hs7_2_5)))]); omega)) (cwV 1 hts (gi_V (in_9 _ (List.mem_of_getElem? (i := 3) rfl)) (in_9 _ (List.mem_of_getElem? (i := 4) rfl)) (in_9 _ (List.mem_of_getElem? (i := 5) rfl)) (in_8 _ (List.mem_of_getElem? (i := 14) rfl)) (in_9 _ (List.mem_of_getElem? (i := 24) rfl))) rfl rfl rfl (by decide +kernel) ⟨(show 7 * n + 8 + 1 ≤ 7 * n + 9 by omega), (show 8 + (4 + 11) + 40 * (7 * n + 8) ≤ 40 * (7 * n + 9) by omega)⟩) ⟨HWL_bl, va_recv hK hP (ci := 11) (q0 := posL 2 (LC cf)) rfl (hI.ob 2 (mF 2 rfl) rfl), (HWL_wi hP hK (WL_D hD) hS hA hEV)⟩ rfl rfl hl.1 rfl (lv_room (Nat.le_of_ble_eq_true rfl)) dX10_readSum_48 ⟨Nat.le_of_ble_eq_true rfl, Nat.le_of_ble_eq_true rfl⟩) (WL_D hD) hS hA (fun E34 H locs hw hP hS => ?_)
            obtain ⟨hI, kq35, hw⟩ := hw
            have hKb := hKp
            have hKp := hKp.tr kq35 (wl_sub rfl rfl)
            obtain ⟨y36, ey36⟩ : ∃ y, xi (E34 2) 5 = y := ⟨_, rfl⟩
            have fy36 : xv (E34 2) 5 = .int y36 := (hI.fi 2 (mF 2 rfl) rfl (Nat.le_of_ble_eq_true rfl) rfl).trans (congrArg Value.int ey36)
            have i37 : 0 ≤ y36.toInt ∧ y36.toInt ≤ 200 := by rw [← ey36]; exact hI.iv 2 (mF 2 rfl) rfl (Nat.le_of_ble_eq_true rfl) rfl
            have f38 := hw
            try rw [(show xi (E31 2) 5 = w7_2_5 from vi_e ((pw32.2 2 5 (fun q9 => absurd q9.2 (Nat.ne_of_beq_eq_false rfl))).trans ((kq18 2 5 rfl).trans hs7_2_5)))] at f38
            try rw [(show xi (E34 2) 5 = y36 from vi_e fy36)] at f38
            refine lv_aload_n hx hb dX10_readSum_51 rfl (lv_at hl 2 rfl) ?_
            refine lv_iload_n hx hb dX10_readSum_52 rfl (lv_at hl 0 rfl) ?_
            refine th_pi (va_runS (As := [.int y27]) (rest := [.ref (ad 2)]) ⟨hx, hb, hml, hown, hts⟩ (q_casSign l y27 iy27) (va_cwS 1 hts (gi_S (in_9 _ (List.mem_of_getElem? (i := 6) rfl)) (in_7 _ (List.mem_of_getElem? (i := 13) rfl)) (in_7 _ (List.mem_of_getElem? (i := 2) rfl)) (in_7 _ (List.mem_of_getElem? (i := 14) rfl))) rfl rfl rfl (by decide +kernel) ⟨(show 0 + 1 ≤ 7 * n + 9 by omega), (show 8 + (1 + 11) + 40 * (0) ≤ 40 * (7 * n + 9) by omega)⟩) ⟨fun _ _ _ _ q => q, fun _ _ _ => ⟨rfl, trivial⟩⟩ rfl rfl hl.1 rfl (lv_room (Nat.le_of_ble_eq_true rfl)) dX10_readSum_53 ⟨Nat.le_of_ble_eq_true rfl, Nat.le_of_ble_eq_true rfl⟩) hS (fun r39 H1 locs1 hw hk1 hS => ?_)
            have hP := ub_keep hP hk1
            generalize H1 = H at hP hS ⊢
            generalize locs1 = locs at hS ⊢
            obtain ⟨f40, f41⟩ := hw
            refine th_vL (va_runV (As := [.int r39]) (rest := []) ⟨hx, hb, hml, hown, hts⟩ (q_addT l dC dI cT cf hC ad E34 H.size r39 hI) (cwV 1 hts (gi_V (in_9 _ (List.mem_of_getElem? (i := 7) rfl)) (in_9 _ (List.mem_of_getElem? (i := 8) rfl)) (in_9 _ (List.mem_of_getElem? (i := 9) rfl)) (in_8 _ (List.mem_of_getElem? (i := 14) rfl)) (in_7 _ (List.mem_of_getElem? (i := 29) rfl))) rfl rfl rfl (by decide +kernel) ⟨(show 0 + 1 ≤ 7 * n + 9 by omega), (show 8 + (2 + 11) + 40 * (0) ≤ 40 * (7 * n + 9) by omega)⟩) ⟨HWL_bl, va_recv hK hP (ci := 11) (q0 := posL 2 (LC cf)) rfl (hI.ob 2 (mF 2 rfl) rfl), (HWL_wi hP hK (WL_D hD) hS hA hEV)⟩ rfl rfl hl.1 rfl (lv_room (Nat.le_of_ble_eq_true rfl)) dX10_readSum_56 ⟨Nat.le_of_ble_eq_true rfl, Nat.le_of_ble_eq_true rfl⟩) (WL_D hD) hS hA (fun E43 H locs hw hP hS => ?_)
            obtain ⟨hI, kq44, hw⟩ := hw
            have hKb := hKp
            have hKp := hKp.tr kq44 (wl_sub rfl rfl)
            obtain ⟨y45, ey45⟩ : ∃ y, xi (E43 2) 5 = y := ⟨_, rfl⟩
            have fy45 : xv (E43 2) 5 = .int y45 := (hI.fi 2 (mF 2 rfl) rfl (Nat.le_of_ble_eq_true rfl) rfl).trans (congrArg Value.int ey45)
            have i46 : 0 ≤ y45.toInt ∧ y45.toInt ≤ 200 := by rw [← ey45]; exact hI.iv 2 (mF 2 rfl) rfl (Nat.le_of_ble_eq_true rfl) rfl
            have f47 := hw
            try rw [(show xi (E34 2) 5 = y36 from vi_e fy36)] at f47
            try rw [(show xi (E43 2) 5 = y45 from vi_e fy45)] at f47
            obtain ⟨y48, ey48⟩ : ∃ y : Int32, y = v7_2 + (1 : Int32) := ⟨_, rfl⟩
            obtain ⟨ty48, iy48⟩ := ti_add (e := 1) (f := 200) i13 ln_1 ey48 (by decide)
            have ty48 : y48.toInt = v7_2.toInt + 1 := ty48
            have iy48 : 1 ≤ y48.toInt ∧ y48.toInt ≤ 200 := iy48
            refine lv_iinc (v := y48) (lv' := [(2, .int y48), (3, .int y27), (0, .ref (ad 2)), (1, .int a0)]) hx hb dX10_readSum_59 hl (k := 1) rfl (by rw [ey48]; rfl) (by decide) rfl (fun ls hl => ?_)
            refine lv_goto (tgt := 7) hx hb dX10_readSum_62 (by decide) ?_
            exact ih7 y45 y48 E43 _ _ _ i46 (iv_w iy48 (by decide)) (by have h9 := i46; omega) (by omega) hI hKp fy45 hP hS (lv_sub hl [0, 2, 3] rfl)
        · -- isOneOf, case 1
          obtain rfl := hw
          refine lv_if_eq (tgt := 65) hx hb dX10_readSum_23 (by decide) (fun c49 => ?_) (fun c49 => ?_)
          · --23 taken
            rw [hQ]
            exact W.vret hx hb hr (fun t ht hW => ⟨⟨E17, rfl, ⟨hI, hKp, (by (try rw [(show xi (E17 2) 5 = w7_2_5 from vi_e ((kq18 2 5 rfl).trans hs7_2_5))]); (try rw [ey1]); all_goals omega)⟩, by show va_P (dC, dI) vwCl (WL (LC cf) ad E17) t.heap; rw [ht]; exact hP⟩, hS.F ht⟩) hS.2.2 dX10_readSum_65
          · --23 not
            exact absurd c49 (by decide)
  exact hL7 (201) y6 (0 : Int32) E4 _ _ _ i7 (iv_w ln_0 (by decide)) (by have h9 := i7; omega) (by have h9 := ln_0; omega) hI hKp fy6 hP hS (lv_sub hl [0, 1, 2] rfl)
set_option maxHeartbeats 4000000 in
set_option maxRecDepth 100000 in
theorem q_readComparison (l : Launch) (n : Nat) (gS : C_readSum l n) : C_readComparison l n := by
  intro dC dI cT cf hC ad E sz a0 hI0 hh0 hh1
  obtain ⟨⟨hc0, hc1, hc2, hc3, hc4, hc5⟩, hcr⟩ := id hC
  refine Met.ofW (cc := cX10_readComparison) (maxL := 3) (ret := none) (by decide) rfl ?_
  intro p e s m args below meth c s₁ B hml hv
  obtain ⟨hargs, hsz, hP, hK, hD0, hEV⟩ := hv
  subst hsz
  have hx := B.exec
  have hb := B.bytes
  have hr := B.returns
  have hts := atoms_spec (ws := v_readComparison) B.pre
  have hown : s.vm.findClass RX10 = some m.cls := findClass_of_methodNamed B.named
  have hlocks := B.notSynchronized
  have hinX10 : ∀ w ∈ u_ws RX10 TX10 10, w ∈ v_readComparison := fun w h => vA_in _ w (in_X10 w h)
  generalize hAe : va_A (WL (LC cf) ad E) s.heap.size = A at hEV ⊢
  have hA : ∀ q : Nat, s.heap.size ≤ q → A q := fun q h => by rw [← hAe]; exact Or.inr h
  have hD : va_D A (WL (LC cf) ad E) := by rw [← hAe]; exact hD0.self
  have hS : va_S A s.heap s.heap [] := va_S.rf
  have hI := hI0
  have hKp : Kp w_readComparison E E := Kp.rf
  have hl := lv_entry ([.ref (ad 2), .int a0]) (n := 3) (Nat.le_of_ble_eq_true rfl)
  obtain ⟨Q, hQ⟩ : ∃ Q, Q = MQ below (va_Qv (S := Nat → va_E) (fun u => IXL cT (shC cf) (spC cf) (LC cf) ad u ∧ Kp w_readComparison E u ∧ (((xi (E 2) 5).toInt ≤ (xi (u 2) 5).toInt))) (HBL dC dI (LC cf) ad) (A)) args s 0 0 (A) := ⟨_, rfl⟩
  rw [← hQ, show entryFrame m args 3 = _ from (congrArg (fun z => entryFrame m z 3) hargs).trans (lg_entry_eq _ _ _)]
  generalize (lg_sl ([.ref (ad 2), .int a0]) ++ List.replicate (3 - (lg_sl ([.ref (ad 2), .int a0])).length) Slot.unset).toArray = ls at hl ⊢
  have hl : lv_has ls 3 [(0, .ref (ad 2)), (1, .int a0)] := hl
  obtain ⟨y1, ey1⟩ : ∃ y, xi (E 2) 5 = y := ⟨_, rfl⟩
  have fy1 : xv (E 2) 5 = .int y1 := (hI.fi 2 (mF 2 rfl) rfl (Nat.le_of_ble_eq_true rfl) rfl).trans (congrArg Value.int ey1)
  have i2 : 0 ≤ y1.toInt ∧ y1.toInt ≤ 200 := by rw [← ey1]; exact hI.iv 2 (mF 2 rfl) rfl (Nat.le_of_ble_eq_true rfl) rfl
  refine lv_aload_n hx hb dX10_readComparison_0 rfl (lv_at hl 0 rfl) ?_
  refine th_iL (va_runV (As := []) (rest := []) ⟨hx, hb, hml, hown, hts⟩ (q_next l dC dI cT cf hC ad E s.heap.size hI) (cwV 0 hts (gi_V (in_8 _ (List.mem_of_getElem? (i := 27) rfl)) (in_8 _ (List.mem_of_getElem? (i := 28) rfl)) (in_8 _ (List.mem_of_getElem? (i := 29) rfl)) (in_8 _ (List.mem_of_getElem? (i := 14) rfl)) (in_8 _ (List.mem_of_getElem? (i := 19) rfl))) rfl rfl rfl (by decide +kernel) ⟨(show 0 + 1 ≤ 7 * n + 10 by omega), (show 8 + (1 + 11) + 40 * (0) ≤ 40 * (7 * n + 10) by omega)⟩) ⟨HWL_bl, va_recv hK hP (ci := 11) (q0 := posL 2 (LC cf)) rfl (hI.ob 2 (mF 2 rfl) rfl), (HWL_wi hP hK (WL_D hD) hS hA hEV)⟩ rfl rfl hl.1 rfl (lv_room (Nat.le_of_ble_eq_true rfl)) dX10_readComparison_1 ⟨Nat.le_of_ble_eq_true rfl, Nat.le_of_ble_eq_true rfl⟩) (WL_D hD) hS hA (fun r3 E4 H locs hw hP hS => ?_)
  obtain ⟨hI, kq5, hw⟩ := hw
  have hKb := hKp
  have hKp := hKp.tr kq5 (wl_sub rfl rfl)
  obtain ⟨y6, ey6⟩ : ∃ y, xi (E4 2) 2 = y := ⟨_, rfl⟩
  have fy6 : xv (E4 2) 2 = .int y6 := (hI.fi 2 (mF 2 rfl) rfl (Nat.le_of_ble_eq_true rfl) rfl).trans (congrArg Value.int ey6)
  have i7 : 0 ≤ y6.toInt ∧ y6.toInt ≤ 200 := by rw [← ey6]; exact hI.iv 2 (mF 2 rfl) rfl (Nat.le_of_ble_eq_true rfl) rfl
  obtain ⟨f8, f9⟩ := hw
  have i10 : 0 ≤ (xi (E 2) 1).toInt ∧ (xi (E 2) 1).toInt ≤ 200 := hI0.iv 2 (mF 2 rfl) rfl (Nat.le_of_ble_eq_true rfl) rfl
  try rw [(show xi (E4 2) 2 = y6 from vi_e fy6)] at f9
  refine lv_istore_n (lv' := [(2, .int r3), (0, .ref (ad 2)), (1, .int a0)]) hx hb dX10_readComparison_4 rfl hl (by decide) rfl (fun ls hl => ?_)
  obtain ⟨qs11, vs12, hRqs11, hSSqs11⟩ := hEV.2.1.2.2.1
  refine va_ldcS hx hb hown hRqs11 dX10_readComparison_5 ?_
  refine lv_iload_n hx hb dX10_readComparison_7 rfl (lv_at hl 0 rfl) ?_
  refine th_pi (va_runSN (As := [.ref qs11, .int r3]) (rest := []) ⟨hx, hb, hml, hown, hts⟩ (q_isOneOf l qs11 vs12 tCMP r3 (by decide) (by decide)) ⟨va_cnB 2 hts (gi_0 (in_8 _ (List.mem_of_getElem? (i := 31) rfl))) rfl rfl rfl (hEV.1.1 _ (List.mem_of_getElem? (i := 12) rfl)) (hts _ (vA_in _ _ (in_4 _ (List.mem_of_getElem? (i := 23) rfl)))) (by decide +kernel) ⟨(show 4 + 1 ≤ 7 * n + 10 by omega), (show 8 + (2 + 11) + 40 * (4) ≤ 40 * (7 * n + 10) by omega)⟩, (hts _ (vA_in _ _ (in_8 _ (List.mem_of_getElem? (i := 30) rfl)))), trivial⟩ ⟨fun a U g mk q => ⟨q.1, SS_c q.2⟩, fun U hU hW => ⟨rfl, SS_w hU hW hS (fun _ h => h.elim) hSSqs11⟩⟩ rfl rfl hl.1 rfl (lv_room (Nat.le_of_ble_eq_true rfl)) dX10_readComparison_8 ⟨Nat.le_of_ble_eq_true rfl, Nat.le_of_ble_eq_true rfl⟩) hS (fun r13 H1 locs1 hw hk1 hS => ?_)
  have hP := ub_keep hP hk1
  generalize H1 = H at hP hS ⊢
  generalize locs1 = locs at hS ⊢
  rcases hw with hw | hw
  · -- isOneOf, case 0
    obtain ⟨rfl, f14⟩ := hw
    refine lv_if_ne (tgt := 19) hx hb dX10_readComparison_11 (by decide) (fun c15 => ?_) (fun c15 => ?_)
    · --11 taken
      refine lv_aload_n hx hb dX10_readComparison_19 rfl (lv_at hl 1 rfl) ?_
      refine lv_dup hx hb dX10_readComparison_20 rfl ?_
      refine th_getL (ci := 11) (C := RX10) (T := TX10) (N := 10) (v := .int y6) hx hb hts hinX10 hown hK hP hI 2 (mF 2 rfl) rfl rfl 2 (Nat.le_of_ble_eq_true rfl) (hts _ (vA_in _ _ (in_8 _ (List.mem_of_getElem? (i := 9) rfl)))) (fun _ h9 => h9) fy6 dX10_readComparison_21 ?_
      refine lv_iconst (v := 1) hx hb dX10_readComparison_24 (by decide) ?_
      refine lv_iadd hx hb dX10_readComparison_25 ?_
      refine lv_topi (fun y16 ey16 => ?_)
      obtain ⟨ty16, iy16⟩ := ti_add (e := 1) (f := 201) i7 ln_1 ey16 (by decide)
      have ty16 : y16.toInt = y6.toInt + 1 := ty16
      have iy16 : 1 ≤ y16.toInt ∧ y16.toInt ≤ 201 := iy16
      have i17 : 1 ≤ y16.toInt ∧ y16.toInt ≤ 200 := by omega
      refine th_putL (ci := 11) (C := RX10) (T := TX10) (N := 10) (v := .int y16) (ty := .int) hx hb hts hinX10 tyX10 tyX10_ok nmX10 hown hK hP (WL_D hD) hS hI 2 (mF 2 rfl) rfl rfl 2 (Nat.le_of_ble_eq_true rfl) (hts _ (vA_in _ _ (in_8 _ (List.mem_of_getElem? (i := 9) rfl)))) (fun _ h9 => h9) rfl (by decide +kernel) rfl rfl (okI rfl (iv_w i17 (by decide))) dX10_readComparison_26 (fun H locs E18 pw19 hI hP hS => ?_)
      have hKp := hKp.pw pw19 rfl
      refine lv_aload_n hx hb dX10_readComparison_29 rfl (lv_at hl 1 rfl) ?_
      refine lv_iload_n hx hb dX10_readComparison_30 rfl (lv_at hl 2 rfl) ?_
      refine th_vL (va_runV (As := [.int a0]) (rest := []) ⟨hx, hb, hml, hown, hts⟩ (gS dC dI cT cf hC ad E18 H.size a0 hI hh0 (by (try rw [(show xi (E18 2) 5 = y1 from vi_e ((pw19.2 2 5 (fun q9 => absurd q9.2 (Nat.ne_of_beq_eq_false rfl))).trans ((kq5 2 5 rfl).trans fy1)))]); omega)) (cwV 1 hts (gi_V (in_8 _ (List.mem_of_getElem? (i := 39) rfl)) (in_9 _ (List.mem_of_getElem? (i := 0) rfl)) (in_9 _ (List.mem_of_getElem? (i := 1) rfl)) (in_8 _ (List.mem_of_getElem? (i := 14) rfl)) (in_9 _ (List.mem_of_getElem? (i := 2) rfl))) rfl rfl rfl (by decide +kernel) ⟨(show 7 * n + 9 + 1 ≤ 7 * n + 10 by omega), (show 8 + (4 + 11) + 40 * (7 * n + 9) ≤ 40 * (7 * n + 10) by omega)⟩) ⟨HWL_bl, va_recv hK hP (ci := 11) (q0 := posL 2 (LC cf)) rfl (hI.ob 2 (mF 2 rfl) rfl), (HWL_wi hP hK (WL_D hD) hS hA hEV)⟩ rfl rfl hl.1 rfl (lv_room (Nat.le_of_ble_eq_true rfl)) dX10_readComparison_31 ⟨Nat.le_of_ble_eq_true rfl, Nat.le_of_ble_eq_true rfl⟩) (WL_D hD) hS hA (fun E21 H locs hw hP hS => ?_)
      obtain ⟨hI, kq22, hw⟩ := hw
      have hKb := hKp
      have hKp := hKp.tr kq22 (wl_sub rfl rfl)
      obtain ⟨y23, ey23⟩ : ∃ y, xi (E21 2) 5 = y := ⟨_, rfl⟩
      have fy23 : xv (E21 2) 5 = .int y23 := (hI.fi 2 (mF 2 rfl) rfl (Nat.le_of_ble_eq_true rfl) rfl).trans (congrArg Value.int ey23)
      have i24 : 0 ≤ y23.toInt ∧ y23.toInt ≤ 200 := by rw [← ey23]; exact hI.iv 2 (mF 2 rfl) rfl (Nat.le_of_ble_eq_true rfl) rfl
      have f25 := hw
      try rw [(show xi (E18 2) 5 = y1 from vi_e ((pw19.2 2 5 (fun q9 => absurd q9.2 (Nat.ne_of_beq_eq_false rfl))).trans ((kq5 2 5 rfl).trans fy1)))] at f25
      try rw [(show xi (E21 2) 5 = y23 from vi_e fy23)] at f25
      refine lv_aload_n hx hb dX10_readComparison_34 rfl (lv_at hl 1 rfl) ?_
      refine lv_iload_n hx hb dX10_readComparison_35 rfl (lv_at hl 0 rfl) ?_
      refine th_pi (va_runS (As := [.int r3]) (rest := [.ref (ad 2)]) ⟨hx, hb, hml, hown, hts⟩ (q_casSign l r3 (by omega)) (va_cwS 1 hts (gi_S (in_9 _ (List.mem_of_getElem? (i := 6) rfl)) (in_7 _ (List.mem_of_getElem? (i := 13) rfl)) (in_7 _ (List.mem_of_getElem? (i := 2) rfl)) (in_7 _ (List.mem_of_getElem? (i := 14) rfl))) rfl rfl rfl (by decide +kernel) ⟨(show 0 + 1 ≤ 7 * n + 10 by omega), (show 8 + (1 + 11) + 40 * (0) ≤ 40 * (7 * n + 10) by omega)⟩) ⟨fun _ _ _ _ q => q, fun _ _ _ => ⟨rfl, trivial⟩⟩ rfl rfl hl.1 rfl (lv_room (Nat.le_of_ble_eq_true rfl)) dX10_readComparison_36 ⟨Nat.le_of_ble_eq_true rfl, Nat.le_of_ble_eq_true rfl⟩) hS (fun r26 H1 locs1 hw hk1 hS => ?_)
      have hP := ub_keep hP hk1
      generalize H1 = H at hP hS ⊢
      generalize locs1 = locs at hS ⊢
      obtain ⟨f27, f28⟩ := hw
      refine th_vL (va_runV (As := [.int r26]) (rest := []) ⟨hx, hb, hml, hown, hts⟩ (q_addT l dC dI cT cf hC ad E21 H.size r26 hI) (cwV 1 hts (gi_V (in_9 _ (List.mem_of_getElem? (i := 7) rfl)) (in_9 _ (List.mem_of_getElem? (i := 8) rfl)) (in_9 _ (List.mem_of_getElem? (i := 9) rfl)) (in_8 _ (List.mem_of_getElem? (i := 14) rfl)) (in_7 _ (List.mem_of_getElem? (i := 29) rfl))) rfl rfl rfl (by decide +kernel) ⟨(show 0 + 1 ≤ 7 * n + 10 by omega), (show 8 + (2 + 11) + 40 * (0) ≤ 40 * (7 * n + 10) by omega)⟩) ⟨HWL_bl, va_recv hK hP (ci := 11) (q0 := posL 2 (LC cf)) rfl (hI.ob 2 (mF 2 rfl) rfl), (HWL_wi hP hK (WL_D hD) hS hA hEV)⟩ rfl rfl hl.1 rfl (lv_room (Nat.le_of_ble_eq_true rfl)) dX10_readComparison_39 ⟨Nat.le_of_ble_eq_true rfl, Nat.le_of_ble_eq_true rfl⟩) (WL_D hD) hS hA (fun E30 H locs hw hP hS => ?_)
      obtain ⟨hI, kq31, hw⟩ := hw
      have hKb := hKp
      have hKp := hKp.tr kq31 (wl_sub rfl rfl)
      obtain ⟨y32, ey32⟩ : ∃ y, xi (E30 2) 5 = y := ⟨_, rfl⟩
      have fy32 : xv (E30 2) 5 = .int y32 := (hI.fi 2 (mF 2 rfl) rfl (Nat.le_of_ble_eq_true rfl) rfl).trans (congrArg Value.int ey32)
      have i33 : 0 ≤ y32.toInt ∧ y32.toInt ≤ 200 := by rw [← ey32]; exact hI.iv 2 (mF 2 rfl) rfl (Nat.le_of_ble_eq_true rfl) rfl
      have f34 := hw
      try rw [(show xi (E21 2) 5 = y23 from vi_e fy23)] at f34
      try rw [(show xi (E30 2) 5 = y32 from vi_e fy32)] at f34
      rw [hQ]
      exact W.vret hx hb hr (fun t ht hW => ⟨⟨E30, rfl, ⟨hI, hKp, (by (try rw [(show xi (E30 2) 5 = y32 from vi_e fy32)]); (try rw [ey1]); all_goals omega)⟩, by show va_P (dC, dI) vwCl (WL (LC cf) ad E30) t.heap; rw [ht]; exact hP⟩, hS.F ht⟩) hS.2.2 dX10_readComparison_42
    · --11 not
      exact absurd c15 (by decide)
  · -- isOneOf, case 1
    obtain rfl := hw
    refine lv_if_ne (tgt := 19) hx hb dX10_readComparison_11 (by decide) (fun c35 => ?_) (fun c35 => ?_)
    · --11 taken
      exact absurd c35 (by decide)
    · --11 not
      refine lv_aload_n hx hb dX10_readComparison_14 rfl (lv_at hl 1 rfl) ?_
      refine th_vL (va_runV (As := []) (rest := []) ⟨hx, hb, hml, hown, hts⟩ (q_failT l dC dI cT cf hC ad E4 H.size hI) (cwV 0 hts (gi_V (in_8 _ (List.mem_of_getElem? (i := 11) rfl)) (in_8 _ (List.mem_of_getElem? (i := 12) rfl)) (in_8 _ (List.mem_of_getElem? (i := 13) rfl)) (in_8 _ (List.mem_of_getElem? (i := 14) rfl)) (in_8 _ (List.mem_of_getElem? (i := 7) rfl))) rfl rfl rfl (by decide +kernel) ⟨(show 0 + 1 ≤ 7 * n + 10 by omega), (show 8 + (1 + 11) + 40 * (0) ≤ 40 * (7 * n + 10) by omega)⟩) ⟨HWL_bl, va_recv hK hP (ci := 11) (q0 := posL 2 (LC cf)) rfl (hI.ob 2 (mF 2 rfl) rfl), (HWL_wi hP hK (WL_D hD) hS hA hEV)⟩ rfl rfl hl.1 rfl (lv_room (Nat.le_of_ble_eq_true rfl)) dX10_readComparison_15 ⟨Nat.le_of_ble_eq_true rfl, Nat.le_of_ble_eq_true rfl⟩) (WL_D hD) hS hA (fun E37 H locs hw hP hS => ?_)
      obtain ⟨hI, kq38, hw⟩ := hw
      have hKb := hKp
      have hKp := hKp.tr kq38 (wl_sub rfl rfl)
      rw [hQ]
      exact W.vret hx hb hr (fun t ht hW => ⟨⟨E37, rfl, ⟨hI, hKp, (by (try rw [(show xi (E37 2) 5 = y1 from vi_e ((kq38 2 5 rfl).trans ((kq5 2 5 rfl).trans fy1)))]); (try rw [ey1]); all_goals omega)⟩, by show va_P (dC, dI) vwCl (WL (LC cf) ad E37) t.heap; rw [ht]; exact hP⟩, hS.F ht⟩) hS.2.2 dX10_readComparison_18
set_option maxHeartbeats 4000000 in
set_option maxRecDepth 100000 in
theorem q_readUnit (l : Launch) (n : Nat) (gS : C_readSum l n) (gC : C_readComparison l n) (gU : ∀ k, k < n → C_readUnit l k) (gO : ∀ k, k < n → C_readCondition l k) : C_readUnit l n := by
  intro dC dI cT cf hC ad E sz a0 a1 hI0 hh0 hh1 hh2
  obtain ⟨⟨hc0, hc1, hc2, hc3, hc4, hc5⟩, hcr⟩ := id hC
  refine Met.ofW (cc := cX10_readUnit) (maxL := 4) (ret := none) (by decide) rfl ?_
  intro p e s m args below meth c s₁ B hml hv
  obtain ⟨hargs, hsz, hP, hK, hD0, hEV⟩ := hv
  subst hsz
  have hx := B.exec
  have hb := B.bytes
  have hr := B.returns
  have hts := atoms_spec (ws := v_readUnit) B.pre
  have hown : s.vm.findClass RX10 = some m.cls := findClass_of_methodNamed B.named
  have hlocks := B.notSynchronized
  generalize hAe : va_A (WL (LC cf) ad E) s.heap.size = A at hEV ⊢
  have hA : ∀ q : Nat, s.heap.size ≤ q → A q := fun q h => by rw [← hAe]; exact Or.inr h
  have hD : va_D A (WL (LC cf) ad E) := by rw [← hAe]; exact hD0.self
  have hS : va_S A s.heap s.heap [] := va_S.rf
  have hI := hI0
  have hKp : Kp w_readUnit E E := Kp.rf
  have hl := lv_entry ([.ref (ad 2), .int a0, .int a1]) (n := 4) (Nat.le_of_ble_eq_true rfl)
  obtain ⟨Q, hQ⟩ : ∃ Q, Q = MQ below (va_Qv (S := Nat → va_E) (fun u => IXL cT (shC cf) (spC cf) (LC cf) ad u ∧ Kp w_readUnit E u ∧ (((xi (E 2) 5).toInt ≤ (xi (u 2) 5).toInt))) (HBL dC dI (LC cf) ad) (A)) args s 0 0 (A) := ⟨_, rfl⟩
  rw [← hQ, show entryFrame m args 4 = _ from (congrArg (fun z => entryFrame m z 4) hargs).trans (lg_entry_eq _ _ _)]
  generalize (lg_sl ([.ref (ad 2), .int a0, .int a1]) ++ List.replicate (4 - (lg_sl ([.ref (ad 2), .int a0, .int a1])).length) Slot.unset).toArray = ls at hl ⊢
  have hl : lv_has ls 4 [(0, .ref (ad 2)), (1, .int a0), (2, .int a1)] := hl
  obtain ⟨y1, ey1⟩ : ∃ y, xi (E 2) 5 = y := ⟨_, rfl⟩
  have fy1 : xv (E 2) 5 = .int y1 := (hI.fi 2 (mF 2 rfl) rfl (Nat.le_of_ble_eq_true rfl) rfl).trans (congrArg Value.int ey1)
  have i2 : 0 ≤ y1.toInt ∧ y1.toInt ≤ 200 := by rw [← ey1]; exact hI.iv 2 (mF 2 rfl) rfl (Nat.le_of_ble_eq_true rfl) rfl
  refine lv_iload_n hx hb dX10_readUnit_0 rfl (lv_at hl 2 rfl) ?_
  refine lv_if_eq (tgt := 8) hx hb dX10_readUnit_1 (by decide) (fun c3 => ?_) (fun c3 => ?_)
  · --1 taken
    have t4 : a1.toInt = 0 := ti_eq c3
    have i5 : 0 ≤ a1.toInt ∧ a1.toInt ≤ 0 := iv_eqi t4 hh2 (il_ 0) (by decide)
    refine lv_aload_n hx hb dX10_readUnit_8 rfl (lv_at hl 0 rfl) ?_
    refine th_iL (va_runV (As := []) (rest := []) ⟨hx, hb, hml, hown, hts⟩ (q_next l dC dI cT cf hC ad E s.heap.size hI) (cwV 0 hts (gi_V (in_8 _ (List.mem_of_getElem? (i := 27) rfl)) (in_8 _ (List.mem_of_getElem? (i := 28) rfl)) (in_8 _ (List.mem_of_getElem? (i := 29) rfl)) (in_8 _ (List.mem_of_getElem? (i := 14) rfl)) (in_8 _ (List.mem_of_getElem? (i := 19) rfl))) rfl rfl rfl (by decide +kernel) ⟨(show 0 + 1 ≤ 7 * n + 11 by omega), (show 8 + (1 + 11) + 40 * (0) ≤ 40 * (7 * n + 11) by omega)⟩) ⟨HWL_bl, va_recv hK hP (ci := 11) (q0 := posL 2 (LC cf)) rfl (hI.ob 2 (mF 2 rfl) rfl), (HWL_wi hP hK (WL_D hD) hS hA hEV)⟩ rfl rfl hl.1 rfl (lv_room (Nat.le_of_ble_eq_true rfl)) dX10_readUnit_9 ⟨Nat.le_of_ble_eq_true rfl, Nat.le_of_ble_eq_true rfl⟩) (WL_D hD) hS hA (fun r6 E7 H locs hw hP hS => ?_)
    obtain ⟨hI, kq8, hw⟩ := hw
    have hKb := hKp
    have hKp := hKp.tr kq8 (wl_sub rfl rfl)
    obtain ⟨y9, ey9⟩ : ∃ y, xi (E7 2) 2 = y := ⟨_, rfl⟩
    have fy9 : xv (E7 2) 2 = .int y9 := (hI.fi 2 (mF 2 rfl) rfl (Nat.le_of_ble_eq_true rfl) rfl).trans (congrArg Value.int ey9)
    have i10 : 0 ≤ y9.toInt ∧ y9.toInt ≤ 200 := by rw [← ey9]; exact hI.iv 2 (mF 2 rfl) rfl (Nat.le_of_ble_eq_true rfl) rfl
    obtain ⟨f11, f12⟩ := hw
    have i13 : 0 ≤ (xi (E 2) 1).toInt ∧ (xi (E 2) 1).toInt ≤ 200 := hI0.iv 2 (mF 2 rfl) rfl (Nat.le_of_ble_eq_true rfl) rfl
    try rw [(show xi (E7 2) 2 = y9 from vi_e fy9)] at f12
    refine lv_istore_n (lv' := [(3, .int r6), (0, .ref (ad 2)), (1, .int a0), (2, .int a1)]) hx hb dX10_readUnit_12 rfl hl (by decide) rfl (fun ls hl => ?_)
    refine lv_iload_n hx hb dX10_readUnit_13 rfl (lv_at hl 0 rfl) ?_
    refine lv_bipush (v := 33) hx hb dX10_readUnit_14 (by decide) ?_
    refine lv_icmp_ne (tgt := 48) hx hb dX10_readUnit_16 (by decide) (fun c14 => ?_) (fun c14 => ?_)
    · --16 taken
      have t15 : ¬ r6.toInt = 33 := ti_ne c14
      refine lv_iload_n hx hb dX10_readUnit_48 rfl (lv_at hl 0 rfl) ?_
      refine lv_bipush (v := 40) hx hb dX10_readUnit_49 (by decide) ?_
      refine lv_icmp_ne (tgt := 80) hx hb dX10_readUnit_51 (by decide) (fun c16 => ?_) (fun c16 => ?_)
      · --51 taken
        have t17 : ¬ r6.toInt = 40 := ti_ne c16
        refine lv_iload_n hx hb dX10_readUnit_80 rfl (lv_at hl 3 rfl) ?_
        refine lv_if_ne (tgt := 89) hx hb dX10_readUnit_81 (by decide) (fun c18 => ?_) (fun c18 => ?_)
        · --81 taken
          have t19 : ¬ a1.toInt = 0 := ti_ne c18
          have i20 : 1 ≤ a1.toInt ∧ a1.toInt ≤ 0 := iv_ne_l t19 i5 (il_ 0)
          exact iv_no i20 (by decide)
        · --81 not
          have t21 : a1.toInt = 0 := ti_eq c18
          refine lv_aload_n hx hb dX10_readUnit_84 rfl (lv_at hl 1 rfl) ?_
          refine lv_iload_n hx hb dX10_readUnit_85 rfl (lv_at hl 2 rfl) ?_
          refine th_vL (va_runV (As := [.int a0]) (rest := []) ⟨hx, hb, hml, hown, hts⟩ (gS dC dI cT cf hC ad E7 H.size a0 hI hh0 (by (try rw [(show xi (E7 2) 5 = y1 from vi_e ((kq8 2 5 rfl).trans fy1))]); omega)) (cwV 1 hts (gi_V (in_8 _ (List.mem_of_getElem? (i := 39) rfl)) (in_9 _ (List.mem_of_getElem? (i := 0) rfl)) (in_9 _ (List.mem_of_getElem? (i := 1) rfl)) (in_8 _ (List.mem_of_getElem? (i := 14) rfl)) (in_9 _ (List.mem_of_getElem? (i := 2) rfl))) rfl rfl rfl (by decide +kernel) ⟨(show 7 * n + 9 + 1 ≤ 7 * n + 11 by omega), (show 8 + (4 + 11) + 40 * (7 * n + 9) ≤ 40 * (7 * n + 11) by omega)⟩) ⟨HWL_bl, va_recv hK hP (ci := 11) (q0 := posL 2 (LC cf)) rfl (hI.ob 2 (mF 2 rfl) rfl), (HWL_wi hP hK (WL_D hD) hS hA hEV)⟩ rfl rfl hl.1 rfl (lv_room (Nat.le_of_ble_eq_true rfl)) dX10_readUnit_86 ⟨Nat.le_of_ble_eq_true rfl, Nat.le_of_ble_eq_true rfl⟩) (WL_D hD) hS hA (fun E23 H locs hw hP hS => ?_)
          obtain ⟨hI, kq24, hw⟩ := hw
          have hKb := hKp
          have hKp := hKp.tr kq24 (wl_sub rfl rfl)
          obtain ⟨y25, ey25⟩ : ∃ y, xi (E23 2) 5 = y := ⟨_, rfl⟩
          have fy25 : xv (E23 2) 5 = .int y25 := (hI.fi 2 (mF 2 rfl) rfl (Nat.le_of_ble_eq_true rfl) rfl).trans (congrArg Value.int ey25)
          have i26 : 0 ≤ y25.toInt ∧ y25.toInt ≤ 200 := by rw [← ey25]; exact hI.iv 2 (mF 2 rfl) rfl (Nat.le_of_ble_eq_true rfl) rfl
          have f27 := hw
          try rw [(show xi (E7 2) 5 = y1 from vi_e ((kq8 2 5 rfl).trans fy1))] at f27
          try rw [(show xi (E23 2) 5 = y25 from vi_e fy25)] at f27
          refine lv_aload_n hx hb dX10_readUnit_89 rfl (lv_at hl 1 rfl) ?_
          refine lv_iload_n hx hb dX10_readUnit_90 rfl (lv_at hl 2 rfl) ?_
          refine th_vL (va_runV (As := [.int a0]) (rest := []) ⟨hx, hb, hml, hown, hts⟩ (gC dC dI cT cf hC ad E23 H.size a0 hI hh0 (by (try rw [(show xi (E23 2) 5 = y25 from vi_e fy25)]); omega)) (cwV 1 hts (gi_V (in_10 _ (List.mem_of_getElem? (i := 0) rfl)) (in_10 _ (List.mem_of_getElem? (i := 1) rfl)) (in_10 _ (List.mem_of_getElem? (i := 2) rfl)) (in_8 _ (List.mem_of_getElem? (i := 14) rfl)) (in_10 _ (List.mem_of_getElem? (i := 3) rfl))) rfl rfl rfl (by decide +kernel) ⟨(show 7 * n + 10 + 1 ≤ 7 * n + 11 by omega), (show 8 + (3 + 11) + 40 * (7 * n + 10) ≤ 40 * (7 * n + 11) by omega)⟩) ⟨HWL_bl, va_recv hK hP (ci := 11) (q0 := posL 2 (LC cf)) rfl (hI.ob 2 (mF 2 rfl) rfl), (HWL_wi hP hK (WL_D hD) hS hA hEV)⟩ rfl rfl hl.1 rfl (lv_room (Nat.le_of_ble_eq_true rfl)) dX10_readUnit_91 ⟨Nat.le_of_ble_eq_true rfl, Nat.le_of_ble_eq_true rfl⟩) (WL_D hD) hS hA (fun E29 H locs hw hP hS => ?_)
          obtain ⟨hI, kq30, hw⟩ := hw
          have hKb := hKp
          have hKp := hKp.tr kq30 (wl_sub rfl rfl)
          obtain ⟨y31, ey31⟩ : ∃ y, xi (E29 2) 5 = y := ⟨_, rfl⟩
          have fy31 : xv (E29 2) 5 = .int y31 := (hI.fi 2 (mF 2 rfl) rfl (Nat.le_of_ble_eq_true rfl) rfl).trans (congrArg Value.int ey31)
          have i32 : 0 ≤ y31.toInt ∧ y31.toInt ≤ 200 := by rw [← ey31]; exact hI.iv 2 (mF 2 rfl) rfl (Nat.le_of_ble_eq_true rfl) rfl
          have f33 := hw
          try rw [(show xi (E23 2) 5 = y25 from vi_e fy25)] at f33
          try rw [(show xi (E29 2) 5 = y31 from vi_e fy31)] at f33
          rw [hQ]
          exact W.vret hx hb hr (fun t ht hW => ⟨⟨E29, rfl, ⟨hI, hKp, (by (try rw [(show xi (E29 2) 5 = y31 from vi_e fy31)]); (try rw [ey1]); all_goals omega)⟩, by show va_P (dC, dI) vwCl (WL (LC cf) ad E29) t.heap; rw [ht]; exact hP⟩, hS.F ht⟩) hS.2.2 dX10_readUnit_94
      · --51 not
        have t34 : r6.toInt = 40 := ti_eq c16
        have i35 : 40 ≤ r6.toInt ∧ r6.toInt ≤ 40 := iv_eqi t34 f11 (il_ 40) (by decide)
        refine lv_aload_n hx hb dX10_readUnit_54 rfl (lv_at hl 1 rfl) ?_
        refine lv_iload_n hx hb dX10_readUnit_55 rfl (lv_at hl 2 rfl) ?_
        refine th_iL (va_runV (As := [.int a0]) (rest := []) ⟨hx, hb, hml, hown, hts⟩ (q_goDeeper l dC dI cT cf hC ad E7 H.size a0 hI hh0 (by (try rw [(show xi (E7 2) 2 = y9 from vi_e fy9)]); (try rw [hKp.ei 2 1 rfl]); omega)) (cwV 1 hts (gi_V (in_9 _ (List.mem_of_getElem? (i := 21) rfl)) (in_9 _ (List.mem_of_getElem? (i := 22) rfl)) (in_9 _ (List.mem_of_getElem? (i := 23) rfl)) (in_8 _ (List.mem_of_getElem? (i := 14) rfl)) (in_8 _ (List.mem_of_getElem? (i := 10) rfl))) rfl rfl rfl (by decide +kernel) ⟨(show 1 + 1 ≤ 7 * n + 11 by omega), (show 8 + (2 + 11) + 40 * (1) ≤ 40 * (7 * n + 11) by omega)⟩) ⟨HWL_bl, va_recv hK hP (ci := 11) (q0 := posL 2 (LC cf)) rfl (hI.ob 2 (mF 2 rfl) rfl), (HWL_wi hP hK (WL_D hD) hS hA hEV)⟩ rfl rfl hl.1 rfl (lv_room (Nat.le_of_ble_eq_true rfl)) dX10_readUnit_56 ⟨Nat.le_of_ble_eq_true rfl, Nat.le_of_ble_eq_true rfl⟩) (WL_D hD) hS hA (fun r36 E37 H locs hw hP hS => ?_)
        obtain ⟨hI, kq38, hw⟩ := hw
        have hKb := hKp
        have hKp := hKp.tr kq38 (wl_sub rfl rfl)
        rcases hw with hw | hw
        · -- goDeeper, case 0
          obtain ⟨rfl, f39⟩ := hw
          obtain ⟨k9, hk9⟩ : ∃ k9, n = k9 + 1 := ⟨n - 1, by omega⟩
          refine lv_if_ne (tgt := 63) hx hb dX10_readUnit_59 (by decide) (fun c40 => ?_) (fun c40 => ?_)
          · --59 taken
            refine lv_aload_n hx hb dX10_readUnit_63 rfl (lv_at hl 1 rfl) ?_
            refine lv_iload_n hx hb dX10_readUnit_64 rfl (lv_at hl 2 rfl) ?_
            refine lv_iconst (v := 1) hx hb dX10_readUnit_65 (by decide) ?_
            refine lv_iadd hx hb dX10_readUnit_66 ?_
            refine lv_topi (fun y41 ey41 => ?_)
            obtain ⟨ty41, iy41⟩ := ti_add (e := 1) (f := 8) f39 ln_1 ey41 (by decide)
            have ty41 : y41.toInt = a0.toInt + 1 := ty41
            have iy41 : 1 ≤ y41.toInt ∧ y41.toInt ≤ 8 := iy41
            refine lv_iconst (v := 0) hx hb dX10_readUnit_67 (by decide) ?_
            have z0 := ln_0
            refine th_vL (va_runV (As := [.int y41, .int 0]) (rest := []) ⟨hx, hb, hml, hown, hts⟩ ((gO k9 (by omega)) dC dI cT cf hC ad E37 H.size y41 (0 : Int32) hI (iv_w iy41 (by decide)) (by (try rw [(show xi (E37 2) 5 = y1 from vi_e ((kq38 2 5 rfl).trans ((kq8 2 5 rfl).trans fy1)))]); omega) (iv_w ln_0 (by decide))) (cwV 2 hts (gi_V (in_9 _ (List.mem_of_getElem? (i := 28) rfl)) (in_9 _ (List.mem_of_getElem? (i := 29) rfl)) (in_9 _ (List.mem_of_getElem? (i := 30) rfl)) (in_8 _ (List.mem_of_getElem? (i := 14) rfl)) (in_9 _ (List.mem_of_getElem? (i := 31) rfl))) rfl rfl rfl (by decide +kernel) ⟨(show 7 * k9 + 13 + 1 ≤ 7 * n + 11 by omega), (show 8 + (4 + 11) + 40 * (7 * k9 + 13) ≤ 40 * (7 * n + 11) by omega)⟩) ⟨HWL_bl, va_recv hK hP (ci := 11) (q0 := posL 2 (LC cf)) rfl (hI.ob 2 (mF 2 rfl) rfl), (HWL_wi hP hK (WL_D hD) hS hA hEV)⟩ rfl rfl hl.1 rfl (lv_room (Nat.le_of_ble_eq_true rfl)) dX10_readUnit_68 ⟨Nat.le_of_ble_eq_true rfl, Nat.le_of_ble_eq_true rfl⟩) (WL_D hD) hS hA (fun E43 H locs hw hP hS => ?_)
            obtain ⟨hI, kq44, hw⟩ := hw
            have hKb := hKp
            have hKp := hKp.tr kq44 (wl_sub rfl rfl)
            obtain ⟨y45, ey45⟩ : ∃ y, xi (E43 2) 5 = y := ⟨_, rfl⟩
            have fy45 : xv (E43 2) 5 = .int y45 := (hI.fi 2 (mF 2 rfl) rfl (Nat.le_of_ble_eq_true rfl) rfl).trans (congrArg Value.int ey45)
            have i46 : 0 ≤ y45.toInt ∧ y45.toInt ≤ 200 := by rw [← ey45]; exact hI.iv 2 (mF 2 rfl) rfl (Nat.le_of_ble_eq_true rfl) rfl
            have f47 := hw
            try rw [(show xi (E37 2) 5 = y1 from vi_e ((kq38 2 5 rfl).trans ((kq8 2 5 rfl).trans fy1)))] at f47
            try rw [(show xi (E43 2) 5 = y45 from vi_e fy45)] at f47
            refine lv_aload_n hx hb dX10_readUnit_71 rfl (lv_at hl 1 rfl) ?_
            refine lv_bipush (v := 41) hx hb dX10_readUnit_72 (by decide) ?_
            refine th_vL (va_runV (As := [.int 41]) (rest := []) ⟨hx, hb, hml, hown, hts⟩ (q_take l dC dI cT cf hC ad E43 H.size (41 : Int32) hI (iv_w ln_41 (by decide))) (cwV 1 hts (gi_V (in_8 _ (List.mem_of_getElem? (i := 35) rfl)) (in_8 _ (List.mem_of_getElem? (i := 36) rfl)) (in_8 _ (List.mem_of_getElem? (i := 37) rfl)) (in_8 _ (List.mem_of_getElem? (i := 14) rfl)) (in_8 _ (List.mem_of_getElem? (i := 38) rfl))) rfl rfl rfl (by decide +kernel) ⟨(show 1 + 1 ≤ 7 * n + 11 by omega), (show 8 + (2 + 11) + 40 * (1) ≤ 40 * (7 * n + 11) by omega)⟩) ⟨HWL_bl, va_recv hK hP (ci := 11) (q0 := posL 2 (LC cf)) rfl (hI.ob 2 (mF 2 rfl) rfl), (HWL_wi hP hK (WL_D hD) hS hA hEV)⟩ rfl rfl hl.1 rfl (lv_room (Nat.le_of_ble_eq_true rfl)) dX10_readUnit_74 ⟨Nat.le_of_ble_eq_true rfl, Nat.le_of_ble_eq_true rfl⟩) (WL_D hD) hS hA (fun E49 H locs hw hP hS => ?_)
            obtain ⟨hI, kq50, hw⟩ := hw
            have hKb := hKp
            have hKp := hKp.tr kq50 (wl_sub rfl rfl)
            refine lv_goto (tgt := 94) hx hb dX10_readUnit_77 (by decide) ?_
            rw [hQ]
            exact W.vret hx hb hr (fun t ht hW => ⟨⟨E49, rfl, ⟨hI, hKp, (by (try rw [(show xi (E49 2) 5 = y45 from vi_e ((kq50 2 5 rfl).trans fy45))]); (try rw [ey1]); all_goals omega)⟩, by show va_P (dC, dI) vwCl (WL (LC cf) ad E49) t.heap; rw [ht]; exact hP⟩, hS.F ht⟩) hS.2.2 dX10_readUnit_94
          · --59 not
            exact absurd c40 (by decide)
        · -- goDeeper, case 1
          obtain rfl := hw
          refine lv_if_ne (tgt := 63) hx hb dX10_readUnit_59 (by decide) (fun c51 => ?_) (fun c51 => ?_)
          · --59 taken
            exact absurd c51 (by decide)
          · --59 not
            rw [hQ]
            exact W.vret hx hb hr (fun t ht hW => ⟨⟨E37, rfl, ⟨hI, hKp, (by (try rw [(show xi (E37 2) 5 = y1 from vi_e ((kq38 2 5 rfl).trans ((kq8 2 5 rfl).trans fy1)))]); (try rw [ey1]); all_goals omega)⟩, by show va_P (dC, dI) vwCl (WL (LC cf) ad E37) t.heap; rw [ht]; exact hP⟩, hS.F ht⟩) hS.2.2 dX10_readUnit_62
    · --16 not
      have t52 : r6.toInt = 33 := ti_eq c14
      have i53 : 33 ≤ r6.toInt ∧ r6.toInt ≤ 33 := iv_eqi t52 f11 (il_ 33) (by decide)
      refine lv_aload_n hx hb dX10_readUnit_19 rfl (lv_at hl 1 rfl) ?_
      refine lv_iload_n hx hb dX10_readUnit_20 rfl (lv_at hl 2 rfl) ?_
      refine th_iL (va_runV (As := [.int a0]) (rest := []) ⟨hx, hb, hml, hown, hts⟩ (q_goDeeper l dC dI cT cf hC ad E7 H.size a0 hI hh0 (by (try rw [(show xi (E7 2) 2 = y9 from vi_e fy9)]); (try rw [hKp.ei 2 1 rfl]); omega)) (cwV 1 hts (gi_V (in_9 _ (List.mem_of_getElem? (i := 21) rfl)) (in_9 _ (List.mem_of_getElem? (i := 22) rfl)) (in_9 _ (List.mem_of_getElem? (i := 23) rfl)) (in_8 _ (List.mem_of_getElem? (i := 14) rfl)) (in_8 _ (List.mem_of_getElem? (i := 10) rfl))) rfl rfl rfl (by decide +kernel) ⟨(show 1 + 1 ≤ 7 * n + 11 by omega), (show 8 + (2 + 11) + 40 * (1) ≤ 40 * (7 * n + 11) by omega)⟩) ⟨HWL_bl, va_recv hK hP (ci := 11) (q0 := posL 2 (LC cf)) rfl (hI.ob 2 (mF 2 rfl) rfl), (HWL_wi hP hK (WL_D hD) hS hA hEV)⟩ rfl rfl hl.1 rfl (lv_room (Nat.le_of_ble_eq_true rfl)) dX10_readUnit_21 ⟨Nat.le_of_ble_eq_true rfl, Nat.le_of_ble_eq_true rfl⟩) (WL_D hD) hS hA (fun r54 E55 H locs hw hP hS => ?_)
      obtain ⟨hI, kq56, hw⟩ := hw
      have hKb := hKp
      have hKp := hKp.tr kq56 (wl_sub rfl rfl)
      rcases hw with hw | hw
      · -- goDeeper, case 0
        obtain ⟨rfl, f57⟩ := hw
        obtain ⟨k9, hk9⟩ : ∃ k9, n = k9 + 1 := ⟨n - 1, by omega⟩
        refine lv_if_ne (tgt := 28) hx hb dX10_readUnit_24 (by decide) (fun c58 => ?_) (fun c58 => ?_)
        · --24 taken
          refine lv_aload_n hx hb dX10_readUnit_28 rfl (lv_at hl 1 rfl) ?_
          refine lv_iload_n hx hb dX10_readUnit_29 rfl (lv_at hl 2 rfl) ?_
          refine lv_iconst (v := 1) hx hb dX10_readUnit_30 (by decide) ?_
          refine lv_iadd hx hb dX10_readUnit_31 ?_
          refine lv_topi (fun y59 ey59 => ?_)
          obtain ⟨ty59, iy59⟩ := ti_add (e := 1) (f := 8) f57 ln_1 ey59 (by decide)
          have ty59 : y59.toInt = a0.toInt + 1 := ty59
          have iy59 : 1 ≤ y59.toInt ∧ y59.toInt ≤ 8 := iy59
          refine lv_iconst (v := 0) hx hb dX10_readUnit_32 (by decide) ?_
          have z0 := ln_0
          refine th_vL (va_runV (As := [.int y59, .int 0]) (rest := []) ⟨hx, hb, hml, hown, hts⟩ ((gU k9 (by omega)) dC dI cT cf hC ad E55 H.size y59 (0 : Int32) hI (iv_w iy59 (by decide)) (by (try rw [(show xi (E55 2) 5 = y1 from vi_e ((kq56 2 5 rfl).trans ((kq8 2 5 rfl).trans fy1)))]); omega) (iv_w ln_0 (by decide))) (cwV 2 hts (gi_V (in_9 _ (List.mem_of_getElem? (i := 36) rfl)) (in_9 _ (List.mem_of_getElem? (i := 37) rfl)) (in_9 _ (List.mem_of_getElem? (i := 38) rfl)) (in_8 _ (List.mem_of_getElem? (i := 14) rfl)) (in_9 _ (List.mem_of_getElem? (i := 39) rfl))) rfl rfl rfl (by decide +kernel) ⟨(show 7 * k9 + 11 + 1 ≤ 7 * n + 11 by omega), (show 8 + (4 + 11) + 40 * (7 * k9 + 11) ≤ 40 * (7 * n + 11) by omega)⟩) ⟨HWL_bl, va_recv hK hP (ci := 11) (q0 := posL 2 (LC cf)) rfl (hI.ob 2 (mF 2 rfl) rfl), (HWL_wi hP hK (WL_D hD) hS hA hEV)⟩ rfl rfl hl.1 rfl (lv_room (Nat.le_of_ble_eq_true rfl)) dX10_readUnit_33 ⟨Nat.le_of_ble_eq_true rfl, Nat.le_of_ble_eq_true rfl⟩) (WL_D hD) hS hA (fun E61 H locs hw hP hS => ?_)
          obtain ⟨hI, kq62, hw⟩ := hw
          have hKb := hKp
          have hKp := hKp.tr kq62 (wl_sub rfl rfl)
          obtain ⟨y63, ey63⟩ : ∃ y, xi (E61 2) 5 = y := ⟨_, rfl⟩
          have fy63 : xv (E61 2) 5 = .int y63 := (hI.fi 2 (mF 2 rfl) rfl (Nat.le_of_ble_eq_true rfl) rfl).trans (congrArg Value.int ey63)
          have i64 : 0 ≤ y63.toInt ∧ y63.toInt ≤ 200 := by rw [← ey63]; exact hI.iv 2 (mF 2 rfl) rfl (Nat.le_of_ble_eq_true rfl) rfl
          have f65 := hw
          try rw [(show xi (E55 2) 5 = y1 from vi_e ((kq56 2 5 rfl).trans ((kq8 2 5 rfl).trans fy1)))] at f65
          try rw [(show xi (E61 2) 5 = y63 from vi_e fy63)] at f65
          refine lv_aload_n hx hb dX10_readUnit_36 rfl (lv_at hl 1 rfl) ?_
          refine lv_bipush (v := 33) hx hb dX10_readUnit_37 (by decide) ?_
          refine th_pi (va_runS (As := [.int 33]) (rest := [.ref (ad 2)]) ⟨hx, hb, hml, hown, hts⟩ (q_casSign l (33 : Int32) (iv_w ln_33 (by decide))) (va_cwS 1 hts (gi_S (in_9 _ (List.mem_of_getElem? (i := 6) rfl)) (in_7 _ (List.mem_of_getElem? (i := 13) rfl)) (in_7 _ (List.mem_of_getElem? (i := 2) rfl)) (in_7 _ (List.mem_of_getElem? (i := 14) rfl))) rfl rfl rfl (by decide +kernel) ⟨(show 0 + 1 ≤ 7 * n + 11 by omega), (show 8 + (1 + 11) + 40 * (0) ≤ 40 * (7 * n + 11) by omega)⟩) ⟨fun _ _ _ _ q => q, fun _ _ _ => ⟨rfl, trivial⟩⟩ rfl rfl hl.1 rfl (lv_room (Nat.le_of_ble_eq_true rfl)) dX10_readUnit_39 ⟨Nat.le_of_ble_eq_true rfl, Nat.le_of_ble_eq_true rfl⟩) hS (fun r66 H1 locs1 hw hk1 hS => ?_)
          have hP := ub_keep hP hk1
          generalize H1 = H at hP hS ⊢
          generalize locs1 = locs at hS ⊢
          obtain ⟨f67, f68⟩ := hw
          refine th_vL (va_runV (As := [.int r66]) (rest := []) ⟨hx, hb, hml, hown, hts⟩ (q_addT l dC dI cT cf hC ad E61 H.size r66 hI) (cwV 1 hts (gi_V (in_9 _ (List.mem_of_getElem? (i := 7) rfl)) (in_9 _ (List.mem_of_getElem? (i := 8) rfl)) (in_9 _ (List.mem_of_getElem? (i := 9) rfl)) (in_8 _ (List.mem_of_getElem? (i := 14) rfl)) (in_7 _ (List.mem_of_getElem? (i := 29) rfl))) rfl rfl rfl (by decide +kernel) ⟨(show 0 + 1 ≤ 7 * n + 11 by omega), (show 8 + (2 + 11) + 40 * (0) ≤ 40 * (7 * n + 11) by omega)⟩) ⟨HWL_bl, va_recv hK hP (ci := 11) (q0 := posL 2 (LC cf)) rfl (hI.ob 2 (mF 2 rfl) rfl), (HWL_wi hP hK (WL_D hD) hS hA hEV)⟩ rfl rfl hl.1 rfl (lv_room (Nat.le_of_ble_eq_true rfl)) dX10_readUnit_42 ⟨Nat.le_of_ble_eq_true rfl, Nat.le_of_ble_eq_true rfl⟩) (WL_D hD) hS hA (fun E70 H locs hw hP hS => ?_)
          obtain ⟨hI, kq71, hw⟩ := hw
          have hKb := hKp
          have hKp := hKp.tr kq71 (wl_sub rfl rfl)
          obtain ⟨y72, ey72⟩ : ∃ y, xi (E70 2) 5 = y := ⟨_, rfl⟩
          have fy72 : xv (E70 2) 5 = .int y72 := (hI.fi 2 (mF 2 rfl) rfl (Nat.le_of_ble_eq_true rfl) rfl).trans (congrArg Value.int ey72)
          have i73 : 0 ≤ y72.toInt ∧ y72.toInt ≤ 200 := by rw [← ey72]; exact hI.iv 2 (mF 2 rfl) rfl (Nat.le_of_ble_eq_true rfl) rfl
          have f74 := hw
          try rw [(show xi (E61 2) 5 = y63 from vi_e fy63)] at f74
          try rw [(show xi (E70 2) 5 = y72 from vi_e fy72)] at f74
          refine lv_goto (tgt := 94) hx hb dX10_readUnit_45 (by decide) ?_
          rw [hQ]
          exact W.vret hx hb hr (fun t ht hW => ⟨⟨E70, rfl, ⟨hI, hKp, (by (try rw [(show xi (E70 2) 5 = y72 from vi_e fy72)]); (try rw [ey1]); all_goals omega)⟩, by show va_P (dC, dI) vwCl (WL (LC cf) ad E70) t.heap; rw [ht]; exact hP⟩, hS.F ht⟩) hS.2.2 dX10_readUnit_94
        · --24 not
          exact absurd c58 (by decide)
      · -- goDeeper, case 1
        obtain rfl := hw
        refine lv_if_ne (tgt := 28) hx hb dX10_readUnit_24 (by decide) (fun c75 => ?_) (fun c75 => ?_)
        · --24 taken
          exact absurd c75 (by decide)
        · --24 not
          rw [hQ]
          exact W.vret hx hb hr (fun t ht hW => ⟨⟨E55, rfl, ⟨hI, hKp, (by (try rw [(show xi (E55 2) 5 = y1 from vi_e ((kq56 2 5 rfl).trans ((kq8 2 5 rfl).trans fy1)))]); (try rw [ey1]); all_goals omega)⟩, by show va_P (dC, dI) vwCl (WL (LC cf) ad E55) t.heap; rw [ht]; exact hP⟩, hS.F ht⟩) hS.2.2 dX10_readUnit_27
  · --1 not
    have t76 : ¬ a1.toInt = 0 := ti_ne c3
    have i77 : 1 ≤ a1.toInt ∧ a1.toInt ≤ 1 := iv_ne_l t76 hh2 (il_ 0)
    refine lv_iconst (v := -1) hx hb dX10_readUnit_4 (by decide) ?_
    refine lv_goto (tgt := 12) hx hb dX10_readUnit_5 (by decide) ?_
    refine lv_istore_n (lv' := [(3, .int (-1)), (0, .ref (ad 2)), (1, .int a0), (2, .int a1)]) hx hb dX10_readUnit_12 rfl hl (by decide) rfl (fun ls hl => ?_)
    refine lv_iload_n hx hb dX10_readUnit_13 rfl (lv_at hl 0 rfl) ?_
    refine lv_bipush (v := 33) hx hb dX10_readUnit_14 (by decide) ?_
    refine lv_icmp_ne (tgt := 48) hx hb dX10_readUnit_16 (by decide) (fun c78 => ?_) (fun c78 => ?_)
    · --16 taken
      refine lv_iload_n hx hb dX10_readUnit_48 rfl (lv_at hl 0 rfl) ?_
      refine lv_bipush (v := 40) hx hb dX10_readUnit_49 (by decide) ?_
      refine lv_icmp_ne (tgt := 80) hx hb dX10_readUnit_51 (by decide) (fun c79 => ?_) (fun c79 => ?_)
      · --51 taken
        refine lv_iload_n hx hb dX10_readUnit_80 rfl (lv_at hl 3 rfl) ?_
        refine lv_if_ne (tgt := 89) hx hb dX10_readUnit_81 (by decide) (fun c80 => ?_) (fun c80 => ?_)
        · --81 taken
          have t81 : ¬ a1.toInt = 0 := ti_ne c80
          refine lv_aload_n hx hb dX10_readUnit_89 rfl (lv_at hl 1 rfl) ?_
          refine lv_iload_n hx hb dX10_readUnit_90 rfl (lv_at hl 2 rfl) ?_
          refine th_vL (va_runV (As := [.int a0]) (rest := []) ⟨hx, hb, hml, hown, hts⟩ (gC dC dI cT cf hC ad E s.heap.size a0 hI hh0 (by (try rw [(show xi (E 2) 5 = y1 from vi_e fy1)]); omega)) (cwV 1 hts (gi_V (in_10 _ (List.mem_of_getElem? (i := 0) rfl)) (in_10 _ (List.mem_of_getElem? (i := 1) rfl)) (in_10 _ (List.mem_of_getElem? (i := 2) rfl)) (in_8 _ (List.mem_of_getElem? (i := 14) rfl)) (in_10 _ (List.mem_of_getElem? (i := 3) rfl))) rfl rfl rfl (by decide +kernel) ⟨(show 7 * n + 10 + 1 ≤ 7 * n + 11 by omega), (show 8 + (3 + 11) + 40 * (7 * n + 10) ≤ 40 * (7 * n + 11) by omega)⟩) ⟨HWL_bl, va_recv hK hP (ci := 11) (q0 := posL 2 (LC cf)) rfl (hI.ob 2 (mF 2 rfl) rfl), (HWL_wi hP hK (WL_D hD) hS hA hEV)⟩ rfl rfl hl.1 rfl (lv_room (Nat.le_of_ble_eq_true rfl)) dX10_readUnit_91 ⟨Nat.le_of_ble_eq_true rfl, Nat.le_of_ble_eq_true rfl⟩) (WL_D hD) hS hA (fun E83 H locs hw hP hS => ?_)
          obtain ⟨hI, kq84, hw⟩ := hw
          have hKb := hKp
          have hKp := hKp.tr kq84 (wl_sub rfl rfl)
          obtain ⟨y85, ey85⟩ : ∃ y, xi (E83 2) 5 = y := ⟨_, rfl⟩
          have fy85 : xv (E83 2) 5 = .int y85 := (hI.fi 2 (mF 2 rfl) rfl (Nat.le_of_ble_eq_true rfl) rfl).trans (congrArg Value.int ey85)
          have i86 : 0 ≤ y85.toInt ∧ y85.toInt ≤ 200 := by rw [← ey85]; exact hI.iv 2 (mF 2 rfl) rfl (Nat.le_of_ble_eq_true rfl) rfl
          have f87 := hw
          try rw [(show xi (E 2) 5 = y1 from vi_e fy1)] at f87
          try rw [(show xi (E83 2) 5 = y85 from vi_e fy85)] at f87
          rw [hQ]
          exact W.vret hx hb hr (fun t ht hW => ⟨⟨E83, rfl, ⟨hI, hKp, (by (try rw [(show xi (E83 2) 5 = y85 from vi_e fy85)]); (try rw [ey1]); all_goals omega)⟩, by show va_P (dC, dI) vwCl (WL (LC cf) ad E83) t.heap; rw [ht]; exact hP⟩, hS.F ht⟩) hS.2.2 dX10_readUnit_94
        · --81 not
          have t88 : a1.toInt = 0 := ti_eq c80
          have i89 : 1 ≤ a1.toInt ∧ a1.toInt ≤ 0 := iv_eqi t88 i77 (il_ 0) (by decide)
          exact iv_no i89 (by decide)
      · --51 not
        exact absurd c79 (by decide)
    · --16 not
      exact absurd c78 (by decide)
set_option maxHeartbeats 4000000 in
set_option maxRecDepth 100000 in
theorem q_readPart (l : Launch) (n : Nat) (gU : C_readUnit l n) : C_readPart l n := by
  intro dC dI cT cf hC ad E sz a0 a1 hI0 hh0 hh1 hh2
  obtain ⟨⟨hc0, hc1, hc2, hc3, hc4, hc5⟩, hcr⟩ := id hC
  refine Met.ofW (cc := cX10_readPart) (maxL := 4) (ret := none) (by decide) rfl ?_
  intro p e s m args below meth c s₁ B hml hv
  obtain ⟨hargs, hsz, hP, hK, hD0, hEV⟩ := hv
  subst hsz
  have hx := B.exec
  have hb := B.bytes
  have hr := B.returns
  have hts := atoms_spec (ws := v_readPart) B.pre
  have hown : s.vm.findClass RX10 = some m.cls := findClass_of_methodNamed B.named
  have hlocks := B.notSynchronized
  have hinX10 : ∀ w ∈ u_ws RX10 TX10 10, w ∈ v_readPart := fun w h => vA_in _ w (in_X10 w h)
  generalize hAe : va_A (WL (LC cf) ad E) s.heap.size = A at hEV ⊢
  have hA : ∀ q : Nat, s.heap.size ≤ q → A q := fun q h => by rw [← hAe]; exact Or.inr h
  have hD : va_D A (WL (LC cf) ad E) := by rw [← hAe]; exact hD0.self
  have hS : va_S A s.heap s.heap [] := va_S.rf
  have hI := hI0
  have hKp : Kp w_readPart E E := Kp.rf
  have hl := lv_entry ([.ref (ad 2), .int a0, .int a1]) (n := 4) (Nat.le_of_ble_eq_true rfl)
  obtain ⟨Q, hQ⟩ : ∃ Q, Q = MQ below (va_Qv (S := Nat → va_E) (fun u => IXL cT (shC cf) (spC cf) (LC cf) ad u ∧ Kp w_readPart E u ∧ (((xi (E 2) 5).toInt ≤ (xi (u 2) 5).toInt))) (HBL dC dI (LC cf) ad) (A)) args s 0 0 (A) := ⟨_, rfl⟩
  rw [← hQ, show entryFrame m args 4 = _ from (congrArg (fun z => entryFrame m z 4) hargs).trans (lg_entry_eq _ _ _)]
  generalize (lg_sl ([.ref (ad 2), .int a0, .int a1]) ++ List.replicate (4 - (lg_sl ([.ref (ad 2), .int a0, .int a1])).length) Slot.unset).toArray = ls at hl ⊢
  have hl : lv_has ls 4 [(0, .ref (ad 2)), (1, .int a0), (2, .int a1)] := hl
  obtain ⟨y1, ey1⟩ : ∃ y, xi (E 2) 5 = y := ⟨_, rfl⟩
  have fy1 : xv (E 2) 5 = .int y1 := (hI.fi 2 (mF 2 rfl) rfl (Nat.le_of_ble_eq_true rfl) rfl).trans (congrArg Value.int ey1)
  have i2 : 0 ≤ y1.toInt ∧ y1.toInt ≤ 200 := by rw [← ey1]; exact hI.iv 2 (mF 2 rfl) rfl (Nat.le_of_ble_eq_true rfl) rfl
  refine lv_aload_n hx hb dX10_readPart_0 rfl (lv_at hl 0 rfl) ?_
  refine lv_iload_n hx hb dX10_readPart_1 rfl (lv_at hl 1 rfl) ?_
  refine lv_iload_n hx hb dX10_readPart_2 rfl (lv_at hl 2 rfl) ?_
  refine th_vL (va_runV (As := [.int a0, .int a1]) (rest := []) ⟨hx, hb, hml, hown, hts⟩ (gU dC dI cT cf hC ad E s.heap.size a0 a1 hI hh0 (by (try rw [(show xi (E 2) 5 = y1 from vi_e fy1)]); omega) hh2) (cwV 2 hts (gi_V (in_9 _ (List.mem_of_getElem? (i := 36) rfl)) (in_9 _ (List.mem_of_getElem? (i := 37) rfl)) (in_9 _ (List.mem_of_getElem? (i := 38) rfl)) (in_8 _ (List.mem_of_getElem? (i := 14) rfl)) (in_9 _ (List.mem_of_getElem? (i := 39) rfl))) rfl rfl rfl (by decide +kernel) ⟨(show 7 * n + 11 + 1 ≤ 7 * n + 12 by omega), (show 8 + (4 + 11) + 40 * (7 * n + 11) ≤ 40 * (7 * n + 12) by omega)⟩) ⟨HWL_bl, va_recv hK hP (ci := 11) (q0 := posL 2 (LC cf)) rfl (hI.ob 2 (mF 2 rfl) rfl), (HWL_wi hP hK (WL_D hD) hS hA hEV)⟩ rfl rfl hl.1 rfl (lv_room (Nat.le_of_ble_eq_true rfl)) dX10_readPart_3 ⟨Nat.le_of_ble_eq_true rfl, Nat.le_of_ble_eq_true rfl⟩) (WL_D hD) hS hA (fun E4 H locs hw hP hS => ?_)
  obtain ⟨hI, kq5, hw⟩ := hw
  have hKb := hKp
  have hKp := hKp.tr kq5 (wl_sub rfl rfl)
  obtain ⟨y6, ey6⟩ : ∃ y, xi (E4 2) 5 = y := ⟨_, rfl⟩
  have fy6 : xv (E4 2) 5 = .int y6 := (hI.fi 2 (mF 2 rfl) rfl (Nat.le_of_ble_eq_true rfl) rfl).trans (congrArg Value.int ey6)
  have i7 : 0 ≤ y6.toInt ∧ y6.toInt ≤ 200 := by rw [← ey6]; exact hI.iv 2 (mF 2 rfl) rfl (Nat.le_of_ble_eq_true rfl) rfl
  have f8 := hw
  try rw [(show xi (E 2) 5 = y1 from vi_e fy1)] at f8
  try rw [(show xi (E4 2) 5 = y6 from vi_e fy6)] at f8
  refine lv_iconst (v := 0) hx hb dX10_readPart_6 (by decide) ?_
  refine lv_istore_n (lv' := [(3, .int 0), (0, .ref (ad 2)), (1, .int a0), (2, .int a1)]) hx hb dX10_readPart_7 rfl hl (by decide) rfl (fun ls hl => ?_)
  have hL8 : ∀ d : Nat, ∀ (w8_2_5 : Int32) (v8_3 : Int32) (E8_ : Nat → va_E) (H : Heap) (locs : List Loc) (ls : Array Slot), 0 ≤ w8_2_5.toInt ∧ w8_2_5.toInt ≤ 200 → 0 ≤ v8_3.toInt ∧ v8_3.toInt ≤ 200 → y1.toInt ≤ w8_2_5.toInt → 200 - v8_3.toInt < (d : Int) → IXL cT (shC cf) (spC cf) (LC cf) ad E8_ → Kp w_readPart E E8_ → xv (E8_ 2) 5 = .int w8_2_5 → va_P (dC, dI) vwCl (WL (LC cf) ad E8_) H → va_S A s.heap H locs → lv_has ls 4 [(3, .int v8_3), (0, .ref (ad 2)), (1, .int a0), (2, .int a1)] → W p l e (headSpec v_readPart (rm_readPart n)).room s m args below meth c H locs 0 0 Q (F0 m 8 ls []) := by
    intro d
    induction d with
    | zero =>
      intro w8_2_5 v8_3 E8_ H locs ls hw8_2_5 hv8_3 hx8_0 hx8_1 hI hKp hs8_2_5 hP hS hl
      exact absurd hx8_1 (by omega)
    | succ d ih8 =>
      intro w8_2_5 v8_3 E8_ H locs ls hw8_2_5 hv8_3 hx8_0 hx8_1 hI hKp hs8_2_5 hP hS hl
      refine lv_iload_n hx hb dX10_readPart_8 rfl (lv_at hl 0 rfl) ?_
      refine lv_sipush (v := 200) hx hb dX10_readPart_9 (by decide) ?_
      refine lv_icmp_ge (tgt := 55) hx hb dX10_readPart_12 (by decide) (fun c9 => ?_) (fun c9 => ?_)
      · --12 taken
        have t10 : (200 : Int) ≤ v8_3.toInt := ti_le c9
        have i11 : 200 ≤ v8_3.toInt ∧ v8_3.toInt ≤ 200 := iv_le_r t10 (il_ 200) hv8_3 (by decide)
        rw [hQ]
        exact W.vret hx hb hr (fun t ht hW => ⟨⟨E8_, rfl, ⟨hI, hKp, (by (try rw [(show xi (E8_ 2) 5 = w8_2_5 from vi_e hs8_2_5)]); (try rw [ey1]); all_goals omega)⟩, by show va_P (dC, dI) vwCl (WL (LC cf) ad E8_) t.heap; rw [ht]; exact hP⟩, hS.F ht⟩) hS.2.2 dX10_readPart_55
      · --12 not
        have t12 : v8_3.toInt < 200 := ti_nle c9
        have i13 : 0 ≤ v8_3.toInt ∧ v8_3.toInt ≤ 199 := iv_lt_l t12 hv8_3 (il_ 200) (by decide)
        refine lv_aload_n hx hb dX10_readPart_15 rfl (lv_at hl 1 rfl) ?_
        refine th_iL (va_runV (As := []) (rest := []) ⟨hx, hb, hml, hown, hts⟩ (q_next l dC dI cT cf hC ad E8_ H.size hI) (cwV 0 hts (gi_V (in_8 _ (List.mem_of_getElem? (i := 27) rfl)) (in_8 _ (List.mem_of_getElem? (i := 28) rfl)) (in_8 _ (List.mem_of_getElem? (i := 29) rfl)) (in_8 _ (List.mem_of_getElem? (i := 14) rfl)) (in_8 _ (List.mem_of_getElem? (i := 19) rfl))) rfl rfl rfl (by decide +kernel) ⟨(show 0 + 1 ≤ 7 * n + 12 by omega), (show 8 + (1 + 11) + 40 * (0) ≤ 40 * (7 * n + 12) by omega)⟩) ⟨HWL_bl, va_recv hK hP (ci := 11) (q0 := posL 2 (LC cf)) rfl (hI.ob 2 (mF 2 rfl) rfl), (HWL_wi hP hK (WL_D hD) hS hA hEV)⟩ rfl rfl hl.1 rfl (lv_room (Nat.le_of_ble_eq_true rfl)) dX10_readPart_16 ⟨Nat.le_of_ble_eq_true rfl, Nat.le_of_ble_eq_true rfl⟩) (WL_D hD) hS hA (fun r14 E15 H locs hw hP hS => ?_)
        obtain ⟨hI, kq16, hw⟩ := hw
        have hKb := hKp
        have hKp := hKp.tr kq16 (wl_sub rfl rfl)
        obtain ⟨y17, ey17⟩ : ∃ y, xi (E15 2) 2 = y := ⟨_, rfl⟩
        have fy17 : xv (E15 2) 2 = .int y17 := (hI.fi 2 (mF 2 rfl) rfl (Nat.le_of_ble_eq_true rfl) rfl).trans (congrArg Value.int ey17)
        have i18 : 0 ≤ y17.toInt ∧ y17.toInt ≤ 200 := by rw [← ey17]; exact hI.iv 2 (mF 2 rfl) rfl (Nat.le_of_ble_eq_true rfl) rfl
        obtain ⟨f19, f20⟩ := hw
        have i21 : 0 ≤ (xi (E 2) 1).toInt ∧ (xi (E 2) 1).toInt ≤ 200 := hI0.iv 2 (mF 2 rfl) rfl (Nat.le_of_ble_eq_true rfl) rfl
        try rw [hKb.ei 2 1 rfl] at f20
        try rw [(show xi (E15 2) 2 = y17 from vi_e fy17)] at f20
        refine lv_bipush (v := 38) hx hb dX10_readPart_19 (by decide) ?_
        refine lv_icmp_ne (tgt := 55) hx hb dX10_readPart_21 (by decide) (fun c22 => ?_) (fun c22 => ?_)
        · --21 taken
          have t23 : ¬ r14.toInt = 38 := ti_ne c22
          rw [hQ]
          exact W.vret hx hb hr (fun t ht hW => ⟨⟨E15, rfl, ⟨hI, hKp, (by (try rw [(show xi (E15 2) 5 = w8_2_5 from vi_e ((kq16 2 5 rfl).trans hs8_2_5))]); (try rw [ey1]); all_goals omega)⟩, by show va_P (dC, dI) vwCl (WL (LC cf) ad E15) t.heap; rw [ht]; exact hP⟩, hS.F ht⟩) hS.2.2 dX10_readPart_55
        · --21 not
          have t24 : r14.toInt = 38 := ti_eq c22
          have i25 : 38 ≤ r14.toInt ∧ r14.toInt ≤ 38 := iv_eqi t24 f19 (il_ 38) (by decide)
          refine lv_aload_n hx hb dX10_readPart_24 rfl (lv_at hl 1 rfl) ?_
          refine lv_dup hx hb dX10_readPart_25 rfl ?_
          refine th_getL (ci := 11) (C := RX10) (T := TX10) (N := 10) (v := .int y17) hx hb hts hinX10 hown hK hP hI 2 (mF 2 rfl) rfl rfl 2 (Nat.le_of_ble_eq_true rfl) (hts _ (vA_in _ _ (in_8 _ (List.mem_of_getElem? (i := 9) rfl)))) (fun _ h9 => h9) fy17 dX10_readPart_26 ?_
          refine lv_iconst (v := 1) hx hb dX10_readPart_29 (by decide) ?_
          refine lv_iadd hx hb dX10_readPart_30 ?_
          refine lv_topi (fun y26 ey26 => ?_)
          obtain ⟨ty26, iy26⟩ := ti_add (e := 1) (f := 201) i18 ln_1 ey26 (by decide)
          have ty26 : y26.toInt = y17.toInt + 1 := ty26
          have iy26 : 1 ≤ y26.toInt ∧ y26.toInt ≤ 201 := iy26
          have i27 : 1 ≤ y26.toInt ∧ y26.toInt ≤ 200 := by omega
          refine th_putL (ci := 11) (C := RX10) (T := TX10) (N := 10) (v := .int y26) (ty := .int) hx hb hts hinX10 tyX10 tyX10_ok nmX10 hown hK hP (WL_D hD) hS hI 2 (mF 2 rfl) rfl rfl 2 (Nat.le_of_ble_eq_true rfl) (hts _ (vA_in _ _ (in_8 _ (List.mem_of_getElem? (i := 9) rfl)))) (fun _ h9 => h9) rfl (by decide +kernel) rfl rfl (okI rfl (iv_w i27 (by decide))) dX10_readPart_31 (fun H locs E28 pw29 hI hP hS => ?_)
          have hKp := hKp.pw pw29 rfl
          refine lv_aload_n hx hb dX10_readPart_34 rfl (lv_at hl 1 rfl) ?_
          refine lv_iload_n hx hb dX10_readPart_35 rfl (lv_at hl 2 rfl) ?_
          refine lv_iconst (v := 0) hx hb dX10_readPart_36 (by decide) ?_
          have z0 := ln_0
          refine th_vL (va_runV (As := [.int a0, .int 0]) (rest := []) ⟨hx, hb, hml, hown, hts⟩ (gU dC dI cT cf hC ad E28 H.size a0 (0 : Int32) hI hh0 (by (try rw [(show xi (E28 2) 5 = w8_2_5 from vi_e ((pw29.2 2 5 (fun q9 => absurd q9.2 (Nat.ne_of_beq_eq_false rfl))).trans ((kq16 2 5 rfl).trans hs8_2_5)))]); omega) (iv_w ln_0 (by decide))) (cwV 2 hts (gi_V (in_9 _ (List.mem_of_getElem? (i := 36) rfl)) (in_9 _ (List.mem_of_getElem? (i := 37) rfl)) (in_9 _ (List.mem_of_getElem? (i := 38) rfl)) (in_8 _ (List.mem_of_getElem? (i := 14) rfl)) (in_9 _ (List.mem_of_getElem? (i := 39) rfl))) rfl rfl rfl (by decide +kernel) ⟨(show 7 * n + 11 + 1 ≤ 7 * n + 12 by omega), (show 8 + (4 + 11) + 40 * (7 * n + 11) ≤ 40 * (7 * n + 12) by omega)⟩) ⟨HWL_bl, va_recv hK hP (ci := 11) (q0 := posL 2 (LC cf)) rfl (hI.ob 2 (mF 2 rfl) rfl), (HWL_wi hP hK (WL_D hD) hS hA hEV)⟩ rfl rfl hl.1 rfl (lv_room (Nat.le_of_ble_eq_true rfl)) dX10_readPart_37 ⟨Nat.le_of_ble_eq_true rfl, Nat.le_of_ble_eq_true rfl⟩) (WL_D hD) hS hA (fun E31 H locs hw hP hS => ?_)
          obtain ⟨hI, kq32, hw⟩ := hw
          have hKb := hKp
          have hKp := hKp.tr kq32 (wl_sub rfl rfl)
          obtain ⟨y33, ey33⟩ : ∃ y, xi (E31 2) 5 = y := ⟨_, rfl⟩
          have fy33 : xv (E31 2) 5 = .int y33 := (hI.fi 2 (mF 2 rfl) rfl (Nat.le_of_ble_eq_true rfl) rfl).trans (congrArg Value.int ey33)
          have i34 : 0 ≤ y33.toInt ∧ y33.toInt ≤ 200 := by rw [← ey33]; exact hI.iv 2 (mF 2 rfl) rfl (Nat.le_of_ble_eq_true rfl) rfl
          have f35 := hw
          try rw [(show xi (E28 2) 5 = w8_2_5 from vi_e ((pw29.2 2 5 (fun q9 => absurd q9.2 (Nat.ne_of_beq_eq_false rfl))).trans ((kq16 2 5 rfl).trans hs8_2_5)))] at f35
          try rw [(show xi (E31 2) 5 = y33 from vi_e fy33)] at f35
          refine lv_aload_n hx hb dX10_readPart_40 rfl (lv_at hl 1 rfl) ?_
          refine lv_bipush (v := 38) hx hb dX10_readPart_41 (by decide) ?_
          refine th_pi (va_runS (As := [.int 38]) (rest := [.ref (ad 2)]) ⟨hx, hb, hml, hown, hts⟩ (q_casSign l (38 : Int32) (iv_w ln_38 (by decide))) (va_cwS 1 hts (gi_S (in_9 _ (List.mem_of_getElem? (i := 6) rfl)) (in_7 _ (List.mem_of_getElem? (i := 13) rfl)) (in_7 _ (List.mem_of_getElem? (i := 2) rfl)) (in_7 _ (List.mem_of_getElem? (i := 14) rfl))) rfl rfl rfl (by decide +kernel) ⟨(show 0 + 1 ≤ 7 * n + 12 by omega), (show 8 + (1 + 11) + 40 * (0) ≤ 40 * (7 * n + 12) by omega)⟩) ⟨fun _ _ _ _ q => q, fun _ _ _ => ⟨rfl, trivial⟩⟩ rfl rfl hl.1 rfl (lv_room (Nat.le_of_ble_eq_true rfl)) dX10_readPart_43 ⟨Nat.le_of_ble_eq_true rfl, Nat.le_of_ble_eq_true rfl⟩) hS (fun r36 H1 locs1 hw hk1 hS => ?_)
          have hP := ub_keep hP hk1
          generalize H1 = H at hP hS ⊢
          generalize locs1 = locs at hS ⊢
          obtain ⟨f37, f38⟩ := hw
          refine th_vL (va_runV (As := [.int r36]) (rest := []) ⟨hx, hb, hml, hown, hts⟩ (q_addT l dC dI cT cf hC ad E31 H.size r36 hI) (cwV 1 hts (gi_V (in_9 _ (List.mem_of_getElem? (i := 7) rfl)) (in_9 _ (List.mem_of_getElem? (i := 8) rfl)) (in_9 _ (List.mem_of_getElem? (i := 9) rfl)) (in_8 _ (List.mem_of_getElem? (i := 14) rfl)) (in_7 _ (List.mem_of_getElem? (i := 29) rfl))) rfl rfl rfl (by decide +kernel) ⟨(show 0 + 1 ≤ 7 * n + 12 by omega), (show 8 + (2 + 11) + 40 * (0) ≤ 40 * (7 * n + 12) by omega)⟩) ⟨HWL_bl, va_recv hK hP (ci := 11) (q0 := posL 2 (LC cf)) rfl (hI.ob 2 (mF 2 rfl) rfl), (HWL_wi hP hK (WL_D hD) hS hA hEV)⟩ rfl rfl hl.1 rfl (lv_room (Nat.le_of_ble_eq_true rfl)) dX10_readPart_46 ⟨Nat.le_of_ble_eq_true rfl, Nat.le_of_ble_eq_true rfl⟩) (WL_D hD) hS hA (fun E40 H locs hw hP hS => ?_)
          obtain ⟨hI, kq41, hw⟩ := hw
          have hKb := hKp
          have hKp := hKp.tr kq41 (wl_sub rfl rfl)
          obtain ⟨y42, ey42⟩ : ∃ y, xi (E40 2) 5 = y := ⟨_, rfl⟩
          have fy42 : xv (E40 2) 5 = .int y42 := (hI.fi 2 (mF 2 rfl) rfl (Nat.le_of_ble_eq_true rfl) rfl).trans (congrArg Value.int ey42)
          have i43 : 0 ≤ y42.toInt ∧ y42.toInt ≤ 200 := by rw [← ey42]; exact hI.iv 2 (mF 2 rfl) rfl (Nat.le_of_ble_eq_true rfl) rfl
          have f44 := hw
          try rw [(show xi (E31 2) 5 = y33 from vi_e fy33)] at f44
          try rw [(show xi (E40 2) 5 = y42 from vi_e fy42)] at f44
          obtain ⟨y45, ey45⟩ : ∃ y : Int32, y = v8_3 + (1 : Int32) := ⟨_, rfl⟩
          obtain ⟨ty45, iy45⟩ := ti_add (e := 1) (f := 200) i13 ln_1 ey45 (by decide)
          have ty45 : y45.toInt = v8_3.toInt + 1 := ty45
          have iy45 : 1 ≤ y45.toInt ∧ y45.toInt ≤ 200 := iy45
          refine lv_iinc (v := y45) (lv' := [(3, .int y45), (0, .ref (ad 2)), (1, .int a0), (2, .int a1)]) hx hb dX10_readPart_49 hl (k := 0) rfl (by rw [ey45]; rfl) (by decide) rfl (fun ls hl => ?_)
          refine lv_goto (tgt := 8) hx hb dX10_readPart_52 (by decide) ?_
          exact ih8 y42 y45 E40 _ _ _ i43 (iv_w iy45 (by decide)) (by have h9 := i43; omega) (by omega) hI hKp fy42 hP hS (lv_sub hl [0, 1, 2, 3] rfl)
  exact hL8 (201) y6 (0 : Int32) E4 _ _ _ i7 (iv_w ln_0 (by decide)) (by have h9 := i7; omega) (by have h9 := ln_0; omega) hI hKp fy6 hP hS (lv_sub hl [0, 1, 2, 3] rfl)
set_option maxHeartbeats 4000000 in
set_option maxRecDepth 100000 in
theorem q_readCondition (l : Launch) (n : Nat) (gP : C_readPart l n) : C_readCondition l n := by
  intro dC dI cT cf hC ad E sz a0 a1 hI0 hh0 hh1 hh2
  obtain ⟨⟨hc0, hc1, hc2, hc3, hc4, hc5⟩, hcr⟩ := id hC
  refine Met.ofW (cc := cX10_readCondition) (maxL := 4) (ret := none) (by decide) rfl ?_
  intro p e s m args below meth c s₁ B hml hv
  obtain ⟨hargs, hsz, hP, hK, hD0, hEV⟩ := hv
  subst hsz
  have hx := B.exec
  have hb := B.bytes
  have hr := B.returns
  have hts := atoms_spec (ws := v_readCondition) B.pre
  have hown : s.vm.findClass RX10 = some m.cls := findClass_of_methodNamed B.named
  have hlocks := B.notSynchronized
  have hinX10 : ∀ w ∈ u_ws RX10 TX10 10, w ∈ v_readCondition := fun w h => vA_in _ w (in_X10 w h)
  generalize hAe : va_A (WL (LC cf) ad E) s.heap.size = A at hEV ⊢
  have hA : ∀ q : Nat, s.heap.size ≤ q → A q := fun q h => by rw [← hAe]; exact Or.inr h
  have hD : va_D A (WL (LC cf) ad E) := by rw [← hAe]; exact hD0.self
  have hS : va_S A s.heap s.heap [] := va_S.rf
  have hI := hI0
  have hKp : Kp w_readCondition E E := Kp.rf
  have hl := lv_entry ([.ref (ad 2), .int a0, .int a1]) (n := 4) (Nat.le_of_ble_eq_true rfl)
  obtain ⟨Q, hQ⟩ : ∃ Q, Q = MQ below (va_Qv (S := Nat → va_E) (fun u => IXL cT (shC cf) (spC cf) (LC cf) ad u ∧ Kp w_readCondition E u ∧ (((xi (E 2) 5).toInt ≤ (xi (u 2) 5).toInt))) (HBL dC dI (LC cf) ad) (A)) args s 0 0 (A) := ⟨_, rfl⟩
  rw [← hQ, show entryFrame m args 4 = _ from (congrArg (fun z => entryFrame m z 4) hargs).trans (lg_entry_eq _ _ _)]
  generalize (lg_sl ([.ref (ad 2), .int a0, .int a1]) ++ List.replicate (4 - (lg_sl ([.ref (ad 2), .int a0, .int a1])).length) Slot.unset).toArray = ls at hl ⊢
  have hl : lv_has ls 4 [(0, .ref (ad 2)), (1, .int a0), (2, .int a1)] := hl
  obtain ⟨y1, ey1⟩ : ∃ y, xi (E 2) 5 = y := ⟨_, rfl⟩
  have fy1 : xv (E 2) 5 = .int y1 := (hI.fi 2 (mF 2 rfl) rfl (Nat.le_of_ble_eq_true rfl) rfl).trans (congrArg Value.int ey1)
  have i2 : 0 ≤ y1.toInt ∧ y1.toInt ≤ 200 := by rw [← ey1]; exact hI.iv 2 (mF 2 rfl) rfl (Nat.le_of_ble_eq_true rfl) rfl
  refine lv_aload_n hx hb dX10_readCondition_0 rfl (lv_at hl 0 rfl) ?_
  refine lv_iload_n hx hb dX10_readCondition_1 rfl (lv_at hl 1 rfl) ?_
  refine lv_iload_n hx hb dX10_readCondition_2 rfl (lv_at hl 2 rfl) ?_
  refine th_vL (va_runV (As := [.int a0, .int a1]) (rest := []) ⟨hx, hb, hml, hown, hts⟩ (gP dC dI cT cf hC ad E s.heap.size a0 a1 hI hh0 (by (try rw [(show xi (E 2) 5 = y1 from vi_e fy1)]); omega) hh2) (cwV 2 hts (gi_V (in_9 _ (List.mem_of_getElem? (i := 32) rfl)) (in_9 _ (List.mem_of_getElem? (i := 33) rfl)) (in_9 _ (List.mem_of_getElem? (i := 34) rfl)) (in_8 _ (List.mem_of_getElem? (i := 14) rfl)) (in_9 _ (List.mem_of_getElem? (i := 35) rfl))) rfl rfl rfl (by decide +kernel) ⟨(show 7 * n + 12 + 1 ≤ 7 * n + 13 by omega), (show 8 + (4 + 11) + 40 * (7 * n + 12) ≤ 40 * (7 * n + 13) by omega)⟩) ⟨HWL_bl, va_recv hK hP (ci := 11) (q0 := posL 2 (LC cf)) rfl (hI.ob 2 (mF 2 rfl) rfl), (HWL_wi hP hK (WL_D hD) hS hA hEV)⟩ rfl rfl hl.1 rfl (lv_room (Nat.le_of_ble_eq_true rfl)) dX10_readCondition_3 ⟨Nat.le_of_ble_eq_true rfl, Nat.le_of_ble_eq_true rfl⟩) (WL_D hD) hS hA (fun E4 H locs hw hP hS => ?_)
  obtain ⟨hI, kq5, hw⟩ := hw
  have hKb := hKp
  have hKp := hKp.tr kq5 (wl_sub rfl rfl)
  obtain ⟨y6, ey6⟩ : ∃ y, xi (E4 2) 5 = y := ⟨_, rfl⟩
  have fy6 : xv (E4 2) 5 = .int y6 := (hI.fi 2 (mF 2 rfl) rfl (Nat.le_of_ble_eq_true rfl) rfl).trans (congrArg Value.int ey6)
  have i7 : 0 ≤ y6.toInt ∧ y6.toInt ≤ 200 := by rw [← ey6]; exact hI.iv 2 (mF 2 rfl) rfl (Nat.le_of_ble_eq_true rfl) rfl
  have f8 := hw
  try rw [(show xi (E 2) 5 = y1 from vi_e fy1)] at f8
  try rw [(show xi (E4 2) 5 = y6 from vi_e fy6)] at f8
  refine lv_iconst (v := 0) hx hb dX10_readCondition_6 (by decide) ?_
  refine lv_istore_n (lv' := [(3, .int 0), (0, .ref (ad 2)), (1, .int a0), (2, .int a1)]) hx hb dX10_readCondition_7 rfl hl (by decide) rfl (fun ls hl => ?_)
  have hL8 : ∀ d : Nat, ∀ (w8_2_5 : Int32) (v8_3 : Int32) (E8_ : Nat → va_E) (H : Heap) (locs : List Loc) (ls : Array Slot), 0 ≤ w8_2_5.toInt ∧ w8_2_5.toInt ≤ 200 → 0 ≤ v8_3.toInt ∧ v8_3.toInt ≤ 200 → y1.toInt ≤ w8_2_5.toInt → 200 - v8_3.toInt < (d : Int) → IXL cT (shC cf) (spC cf) (LC cf) ad E8_ → Kp w_readCondition E E8_ → xv (E8_ 2) 5 = .int w8_2_5 → va_P (dC, dI) vwCl (WL (LC cf) ad E8_) H → va_S A s.heap H locs → lv_has ls 4 [(3, .int v8_3), (0, .ref (ad 2)), (1, .int a0), (2, .int a1)] → W p l e (headSpec v_readCondition (rm_readCondition n)).room s m args below meth c H locs 0 0 Q (F0 m 8 ls []) := by
    intro d
    induction d with
    | zero =>
      intro w8_2_5 v8_3 E8_ H locs ls hw8_2_5 hv8_3 hx8_0 hx8_1 hI hKp hs8_2_5 hP hS hl
      exact absurd hx8_1 (by omega)
    | succ d ih8 =>
      intro w8_2_5 v8_3 E8_ H locs ls hw8_2_5 hv8_3 hx8_0 hx8_1 hI hKp hs8_2_5 hP hS hl
      refine lv_iload_n hx hb dX10_readCondition_8 rfl (lv_at hl 0 rfl) ?_
      refine lv_sipush (v := 200) hx hb dX10_readCondition_9 (by decide) ?_
      refine lv_icmp_ge (tgt := 55) hx hb dX10_readCondition_12 (by decide) (fun c9 => ?_) (fun c9 => ?_)
      · --12 taken
        have t10 : (200 : Int) ≤ v8_3.toInt := ti_le c9
        have i11 : 200 ≤ v8_3.toInt ∧ v8_3.toInt ≤ 200 := iv_le_r t10 (il_ 200) hv8_3 (by decide)
        rw [hQ]
        exact W.vret hx hb hr (fun t ht hW => ⟨⟨E8_, rfl, ⟨hI, hKp, (by (try rw [(show xi (E8_ 2) 5 = w8_2_5 from vi_e hs8_2_5)]); (try rw [ey1]); all_goals omega)⟩, by show va_P (dC, dI) vwCl (WL (LC cf) ad E8_) t.heap; rw [ht]; exact hP⟩, hS.F ht⟩) hS.2.2 dX10_readCondition_55
      · --12 not
        have t12 : v8_3.toInt < 200 := ti_nle c9
        have i13 : 0 ≤ v8_3.toInt ∧ v8_3.toInt ≤ 199 := iv_lt_l t12 hv8_3 (il_ 200) (by decide)
        refine lv_aload_n hx hb dX10_readCondition_15 rfl (lv_at hl 1 rfl) ?_
        refine th_iL (va_runV (As := []) (rest := []) ⟨hx, hb, hml, hown, hts⟩ (q_next l dC dI cT cf hC ad E8_ H.size hI) (cwV 0 hts (gi_V (in_8 _ (List.mem_of_getElem? (i := 27) rfl)) (in_8 _ (List.mem_of_getElem? (i := 28) rfl)) (in_8 _ (List.mem_of_getElem? (i := 29) rfl)) (in_8 _ (List.mem_of_getElem? (i := 14) rfl)) (in_8 _ (List.mem_of_getElem? (i := 19) rfl))) rfl rfl rfl (by decide +kernel) ⟨(show 0 + 1 ≤ 7 * n + 13 by omega), (show 8 + (1 + 11) + 40 * (0) ≤ 40 * (7 * n + 13) by omega)⟩) ⟨HWL_bl, va_recv hK hP (ci := 11) (q0 := posL 2 (LC cf)) rfl (hI.ob 2 (mF 2 rfl) rfl), (HWL_wi hP hK (WL_D hD) hS hA hEV)⟩ rfl rfl hl.1 rfl (lv_room (Nat.le_of_ble_eq_true rfl)) dX10_readCondition_16 ⟨Nat.le_of_ble_eq_true rfl, Nat.le_of_ble_eq_true rfl⟩) (WL_D hD) hS hA (fun r14 E15 H locs hw hP hS => ?_)
        obtain ⟨hI, kq16, hw⟩ := hw
        have hKb := hKp
        have hKp := hKp.tr kq16 (wl_sub rfl rfl)
        obtain ⟨y17, ey17⟩ : ∃ y, xi (E15 2) 2 = y := ⟨_, rfl⟩
        have fy17 : xv (E15 2) 2 = .int y17 := (hI.fi 2 (mF 2 rfl) rfl (Nat.le_of_ble_eq_true rfl) rfl).trans (congrArg Value.int ey17)
        have i18 : 0 ≤ y17.toInt ∧ y17.toInt ≤ 200 := by rw [← ey17]; exact hI.iv 2 (mF 2 rfl) rfl (Nat.le_of_ble_eq_true rfl) rfl
        obtain ⟨f19, f20⟩ := hw
        have i21 : 0 ≤ (xi (E 2) 1).toInt ∧ (xi (E 2) 1).toInt ≤ 200 := hI0.iv 2 (mF 2 rfl) rfl (Nat.le_of_ble_eq_true rfl) rfl
        try rw [hKb.ei 2 1 rfl] at f20
        try rw [(show xi (E15 2) 2 = y17 from vi_e fy17)] at f20
        refine lv_bipush (v := 124) hx hb dX10_readCondition_19 (by decide) ?_
        refine lv_icmp_ne (tgt := 55) hx hb dX10_readCondition_21 (by decide) (fun c22 => ?_) (fun c22 => ?_)
        · --21 taken
          have t23 : ¬ r14.toInt = 124 := ti_ne c22
          rw [hQ]
          exact W.vret hx hb hr (fun t ht hW => ⟨⟨E15, rfl, ⟨hI, hKp, (by (try rw [(show xi (E15 2) 5 = w8_2_5 from vi_e ((kq16 2 5 rfl).trans hs8_2_5))]); (try rw [ey1]); all_goals omega)⟩, by show va_P (dC, dI) vwCl (WL (LC cf) ad E15) t.heap; rw [ht]; exact hP⟩, hS.F ht⟩) hS.2.2 dX10_readCondition_55
        · --21 not
          have t24 : r14.toInt = 124 := ti_eq c22
          have i25 : 124 ≤ r14.toInt ∧ r14.toInt ≤ 124 := iv_eqi t24 f19 (il_ 124) (by decide)
          refine lv_aload_n hx hb dX10_readCondition_24 rfl (lv_at hl 1 rfl) ?_
          refine lv_dup hx hb dX10_readCondition_25 rfl ?_
          refine th_getL (ci := 11) (C := RX10) (T := TX10) (N := 10) (v := .int y17) hx hb hts hinX10 hown hK hP hI 2 (mF 2 rfl) rfl rfl 2 (Nat.le_of_ble_eq_true rfl) (hts _ (vA_in _ _ (in_8 _ (List.mem_of_getElem? (i := 9) rfl)))) (fun _ h9 => h9) fy17 dX10_readCondition_26 ?_
          refine lv_iconst (v := 1) hx hb dX10_readCondition_29 (by decide) ?_
          refine lv_iadd hx hb dX10_readCondition_30 ?_
          refine lv_topi (fun y26 ey26 => ?_)
          obtain ⟨ty26, iy26⟩ := ti_add (e := 1) (f := 201) i18 ln_1 ey26 (by decide)
          have ty26 : y26.toInt = y17.toInt + 1 := ty26
          have iy26 : 1 ≤ y26.toInt ∧ y26.toInt ≤ 201 := iy26
          have i27 : 1 ≤ y26.toInt ∧ y26.toInt ≤ 200 := by omega
          refine th_putL (ci := 11) (C := RX10) (T := TX10) (N := 10) (v := .int y26) (ty := .int) hx hb hts hinX10 tyX10 tyX10_ok nmX10 hown hK hP (WL_D hD) hS hI 2 (mF 2 rfl) rfl rfl 2 (Nat.le_of_ble_eq_true rfl) (hts _ (vA_in _ _ (in_8 _ (List.mem_of_getElem? (i := 9) rfl)))) (fun _ h9 => h9) rfl (by decide +kernel) rfl rfl (okI rfl (iv_w i27 (by decide))) dX10_readCondition_31 (fun H locs E28 pw29 hI hP hS => ?_)
          have hKp := hKp.pw pw29 rfl
          refine lv_aload_n hx hb dX10_readCondition_34 rfl (lv_at hl 1 rfl) ?_
          refine lv_iload_n hx hb dX10_readCondition_35 rfl (lv_at hl 2 rfl) ?_
          refine lv_iconst (v := 0) hx hb dX10_readCondition_36 (by decide) ?_
          have z0 := ln_0
          refine th_vL (va_runV (As := [.int a0, .int 0]) (rest := []) ⟨hx, hb, hml, hown, hts⟩ (gP dC dI cT cf hC ad E28 H.size a0 (0 : Int32) hI hh0 (by (try rw [(show xi (E28 2) 5 = w8_2_5 from vi_e ((pw29.2 2 5 (fun q9 => absurd q9.2 (Nat.ne_of_beq_eq_false rfl))).trans ((kq16 2 5 rfl).trans hs8_2_5)))]); omega) (iv_w ln_0 (by decide))) (cwV 2 hts (gi_V (in_9 _ (List.mem_of_getElem? (i := 32) rfl)) (in_9 _ (List.mem_of_getElem? (i := 33) rfl)) (in_9 _ (List.mem_of_getElem? (i := 34) rfl)) (in_8 _ (List.mem_of_getElem? (i := 14) rfl)) (in_9 _ (List.mem_of_getElem? (i := 35) rfl))) rfl rfl rfl (by decide +kernel) ⟨(show 7 * n + 12 + 1 ≤ 7 * n + 13 by omega), (show 8 + (4 + 11) + 40 * (7 * n + 12) ≤ 40 * (7 * n + 13) by omega)⟩) ⟨HWL_bl, va_recv hK hP (ci := 11) (q0 := posL 2 (LC cf)) rfl (hI.ob 2 (mF 2 rfl) rfl), (HWL_wi hP hK (WL_D hD) hS hA hEV)⟩ rfl rfl hl.1 rfl (lv_room (Nat.le_of_ble_eq_true rfl)) dX10_readCondition_37 ⟨Nat.le_of_ble_eq_true rfl, Nat.le_of_ble_eq_true rfl⟩) (WL_D hD) hS hA (fun E31 H locs hw hP hS => ?_)
          obtain ⟨hI, kq32, hw⟩ := hw
          have hKb := hKp
          have hKp := hKp.tr kq32 (wl_sub rfl rfl)
          obtain ⟨y33, ey33⟩ : ∃ y, xi (E31 2) 5 = y := ⟨_, rfl⟩
          have fy33 : xv (E31 2) 5 = .int y33 := (hI.fi 2 (mF 2 rfl) rfl (Nat.le_of_ble_eq_true rfl) rfl).trans (congrArg Value.int ey33)
          have i34 : 0 ≤ y33.toInt ∧ y33.toInt ≤ 200 := by rw [← ey33]; exact hI.iv 2 (mF 2 rfl) rfl (Nat.le_of_ble_eq_true rfl) rfl
          have f35 := hw
          try rw [(show xi (E28 2) 5 = w8_2_5 from vi_e ((pw29.2 2 5 (fun q9 => absurd q9.2 (Nat.ne_of_beq_eq_false rfl))).trans ((kq16 2 5 rfl).trans hs8_2_5)))] at f35
          try rw [(show xi (E31 2) 5 = y33 from vi_e fy33)] at f35
          refine lv_aload_n hx hb dX10_readCondition_40 rfl (lv_at hl 1 rfl) ?_
          refine lv_bipush (v := 124) hx hb dX10_readCondition_41 (by decide) ?_
          refine th_pi (va_runS (As := [.int 124]) (rest := [.ref (ad 2)]) ⟨hx, hb, hml, hown, hts⟩ (q_casSign l (124 : Int32) (iv_w ln_124 (by decide))) (va_cwS 1 hts (gi_S (in_9 _ (List.mem_of_getElem? (i := 6) rfl)) (in_7 _ (List.mem_of_getElem? (i := 13) rfl)) (in_7 _ (List.mem_of_getElem? (i := 2) rfl)) (in_7 _ (List.mem_of_getElem? (i := 14) rfl))) rfl rfl rfl (by decide +kernel) ⟨(show 0 + 1 ≤ 7 * n + 13 by omega), (show 8 + (1 + 11) + 40 * (0) ≤ 40 * (7 * n + 13) by omega)⟩) ⟨fun _ _ _ _ q => q, fun _ _ _ => ⟨rfl, trivial⟩⟩ rfl rfl hl.1 rfl (lv_room (Nat.le_of_ble_eq_true rfl)) dX10_readCondition_43 ⟨Nat.le_of_ble_eq_true rfl, Nat.le_of_ble_eq_true rfl⟩) hS (fun r36 H1 locs1 hw hk1 hS => ?_)
          have hP := ub_keep hP hk1
          generalize H1 = H at hP hS ⊢
          generalize locs1 = locs at hS ⊢
          obtain ⟨f37, f38⟩ := hw
          refine th_vL (va_runV (As := [.int r36]) (rest := []) ⟨hx, hb, hml, hown, hts⟩ (q_addT l dC dI cT cf hC ad E31 H.size r36 hI) (cwV 1 hts (gi_V (in_9 _ (List.mem_of_getElem? (i := 7) rfl)) (in_9 _ (List.mem_of_getElem? (i := 8) rfl)) (in_9 _ (List.mem_of_getElem? (i := 9) rfl)) (in_8 _ (List.mem_of_getElem? (i := 14) rfl)) (in_7 _ (List.mem_of_getElem? (i := 29) rfl))) rfl rfl rfl (by decide +kernel) ⟨(show 0 + 1 ≤ 7 * n + 13 by omega), (show 8 + (2 + 11) + 40 * (0) ≤ 40 * (7 * n + 13) by omega)⟩) ⟨HWL_bl, va_recv hK hP (ci := 11) (q0 := posL 2 (LC cf)) rfl (hI.ob 2 (mF 2 rfl) rfl), (HWL_wi hP hK (WL_D hD) hS hA hEV)⟩ rfl rfl hl.1 rfl (lv_room (Nat.le_of_ble_eq_true rfl)) dX10_readCondition_46 ⟨Nat.le_of_ble_eq_true rfl, Nat.le_of_ble_eq_true rfl⟩) (WL_D hD) hS hA (fun E40 H locs hw hP hS => ?_)
          obtain ⟨hI, kq41, hw⟩ := hw
          have hKb := hKp
          have hKp := hKp.tr kq41 (wl_sub rfl rfl)
          obtain ⟨y42, ey42⟩ : ∃ y, xi (E40 2) 5 = y := ⟨_, rfl⟩
          have fy42 : xv (E40 2) 5 = .int y42 := (hI.fi 2 (mF 2 rfl) rfl (Nat.le_of_ble_eq_true rfl) rfl).trans (congrArg Value.int ey42)
          have i43 : 0 ≤ y42.toInt ∧ y42.toInt ≤ 200 := by rw [← ey42]; exact hI.iv 2 (mF 2 rfl) rfl (Nat.le_of_ble_eq_true rfl) rfl
          have f44 := hw
          try rw [(show xi (E31 2) 5 = y33 from vi_e fy33)] at f44
          try rw [(show xi (E40 2) 5 = y42 from vi_e fy42)] at f44
          obtain ⟨y45, ey45⟩ : ∃ y : Int32, y = v8_3 + (1 : Int32) := ⟨_, rfl⟩
          obtain ⟨ty45, iy45⟩ := ti_add (e := 1) (f := 200) i13 ln_1 ey45 (by decide)
          have ty45 : y45.toInt = v8_3.toInt + 1 := ty45
          have iy45 : 1 ≤ y45.toInt ∧ y45.toInt ≤ 200 := iy45
          refine lv_iinc (v := y45) (lv' := [(3, .int y45), (0, .ref (ad 2)), (1, .int a0), (2, .int a1)]) hx hb dX10_readCondition_49 hl (k := 0) rfl (by rw [ey45]; rfl) (by decide) rfl (fun ls hl => ?_)
          refine lv_goto (tgt := 8) hx hb dX10_readCondition_52 (by decide) ?_
          exact ih8 y42 y45 E40 _ _ _ i43 (iv_w iy45 (by decide)) (by have h9 := i43; omega) (by omega) hI hKp fy42 hP hS (lv_sub hl [0, 1, 2, 3] rfl)
  exact hL8 (201) y6 (0 : Int32) E4 _ _ _ i7 (iv_w ln_0 (by decide)) (by have h9 := i7; omega) (by have h9 := ln_0; omega) hI hKp fy6 hP hS (lv_sub hl [0, 1, 2, 3] rfl)
theorem q_cgroup (l : Launch) : ∀ n, C_readSum l n ∧ C_readUnit l n ∧ C_readCondition l n := by
  have key : ∀ n, ∀ k, k < n → C_readSum l k ∧ C_readUnit l k ∧ C_readCondition l k := by
    intro n
    induction n with
    | zero => intro k hk; exact absurd hk (by omega)
    | succ n ih =>
      intro k hk
      have h1 := q_readAtom l k (fun j hj => (ih j (by omega)).1)
      have h3 := q_readSum l k (q_readTerm l k h1)
      have h4 := q_readComparison l k h3
      have h5 := q_readUnit l k h3 h4 (fun j hj => (ih j (by omega)).2.1) (fun j hj => (ih j (by omega)).2.2)
      exact ⟨h3, h5, q_readCondition l k (q_readPart l k h5)⟩
  exact fun n => key (n + 1) n (by omega)
