def tyX3 : Nat → FieldType := fun k => match k with
  | 0 => .object "UnlikeBoats$Book"
  | 1 => .object "UnlikeBoats$Sheet"
  | 2 => .array .boolean
  | 3 => .array .int
  | 4 => .array .int
  | 5 => .array .int
  | 6 => .array .int
  | 7 => .array .int
  | 8 => .array .int
  | 9 => .array .int
  | 10 => .array .int
  | 11 => .array .int
  | 12 => .array .int
  | 13 => .array .int
  | 14 => .array .int
  | 15 => .int
  | 16 => .int
  | _ => .array .int
theorem nmX3 : ∀ a, a < 18 → ∀ b, b < 18 → a ≠ b → (TX3 a).2.1 ≠ (TX3 b).2.1 := by decide +kernel
theorem tyX3_ok : ∀ k, k < 18 → parseFieldDescriptor (TX3 k).2.2.1 = some (tyX3 k) := by decide +kernel
set_option maxRecDepth 100000 in
theorem zh_dX3_loadAll_0_0 : zc cX3_loadAll 0 [3, 60, 27, 42, 180, 0, 55, 180, 0, 63, 182, 0, 69, 162, 0, 14] = true := by decide +kernel
set_option maxRecDepth 100000 in
theorem zh_dX3_loadAll_16_16 : zc cX3_loadAll 16 [42, 27, 182, 0, 75, 132, 1, 1, 167, 255, 234, 177] = true := by decide +kernel
set_option maxRecDepth 100000 in
theorem zh_dX3_load_0_0 : zc cX3_load 0 [42, 180, 0, 59, 27, 42, 180, 0, 55, 180, 0, 79, 182, 0, 83, 3] = true := by decide +kernel
set_option maxRecDepth 100000 in
theorem zh_dX3_load_16_16 : zc cX3_load 16 [61, 28, 16, 16, 162, 0, 83, 27, 28, 184, 0, 89, 62, 42, 180, 0] = true := by decide +kernel
set_option maxRecDepth 100000 in
theorem zh_dX3_load_30_32 : zc cX3_load 32 [11, 29, 42, 180, 0, 59, 180, 0, 93, 28, 46, 154, 0, 7, 4, 167] = true := by decide +kernel
set_option maxRecDepth 100000 in
theorem zh_dX3_load_47_48 : zc cX3_load 48 [0, 4, 3, 84, 42, 180, 0, 15, 29, 42, 180, 0, 59, 180, 0, 96] = true := by decide +kernel
set_option maxRecDepth 100000 in
theorem zh_dX3_load_64_64 : zc cX3_load 64 [28, 46, 79, 42, 180, 0, 19, 29, 42, 180, 0, 59, 180, 0, 97, 28] = true := by decide +kernel
set_option maxRecDepth 100000 in
theorem zh_dX3_load_80_80 : zc cX3_load 80 [46, 79, 42, 180, 0, 22, 29, 42, 180, 0, 59, 180, 0, 98, 28, 46] = true := by decide +kernel
set_option maxRecDepth 100000 in
theorem zh_dX3_load_96_96 : zc cX3_load 96 [79, 132, 2, 1, 167, 255, 173, 177] = true := by decide +kernel
set_option maxRecDepth 100000 in
theorem zh_dX3_evenOut_0_0 : zc cX3_evenOut 0 [3, 61, 3, 62, 29, 16, 16, 162, 0, 35, 27, 29, 122, 4, 126, 153] = true := by decide +kernel
set_option maxRecDepth 100000 in
theorem zh_dX3_evenOut_15_16 : zc cX3_evenOut 16 [0, 21, 28, 7, 161, 0, 6, 167, 0, 13, 42, 180, 0, 43, 28, 29] = true := by decide +kernel
set_option maxRecDepth 100000 in
theorem zh_dX3_evenOut_32_32 : zc cX3_evenOut 32 [79, 132, 2, 1, 132, 3, 1, 167, 255, 221, 42, 28, 182, 0, 143, 4] = true := by decide +kernel
set_option maxRecDepth 100000 in
theorem zh_dX3_evenOut_48_48 : zc cX3_evenOut 48 [62, 3, 54, 4, 21, 4, 28, 162, 0, 14, 29, 16, 7, 104, 62, 132] = true := by decide +kernel
set_option maxRecDepth 100000 in
theorem zh_dX3_evenOut_63_64 : zc cX3_evenOut 64 [4, 1, 167, 255, 242, 42, 18, 125, 181, 0, 146, 3, 54, 4, 3, 54] = true := by decide +kernel
set_option maxRecDepth 100000 in
theorem zh_dX3_evenOut_79_80 : zc cX3_evenOut 80 [5, 21, 5, 29, 162, 0, 126, 21, 5, 54, 6, 3, 54, 7, 28, 4] = true := by decide +kernel
set_option maxRecDepth 100000 in
theorem zh_dX3_evenOut_96_96 : zc cX3_evenOut 96 [100, 54, 8, 21, 8, 155, 0, 44, 42, 180, 0, 46, 21, 8, 21, 6] = true := by decide +kernel
set_option maxRecDepth 100000 in
theorem zh_dX3_evenOut_112_112 : zc cX3_evenOut 112 [16, 7, 112, 79, 21, 6, 16, 7, 108, 54, 6, 21, 7, 42, 180, 0] = true := by decide +kernel
set_option maxRecDepth 100000 in
theorem zh_dX3_evenOut_126_128 : zc cX3_evenOut 128 [46, 21, 8, 46, 6, 184, 0, 126, 96, 54, 7, 132, 8, 255, 167, 255] = true := by decide +kernel
set_option maxRecDepth 100000 in
theorem zh_dX3_evenOut_142_144 : zc cX3_evenOut 144 [213, 42, 28, 182, 0, 149, 54, 8, 21, 8, 42, 180, 0, 146, 163, 0] = true := by decide +kernel
set_option maxRecDepth 100000 in
theorem zh_dX3_evenOut_158_160 : zc cX3_evenOut 160 [46, 21, 8, 42, 180, 0, 146, 160, 0, 13, 21, 7, 21, 4, 161, 0] = true := by decide +kernel
set_option maxRecDepth 100000 in
theorem zh_dX3_evenOut_174_176 : zc cX3_evenOut 176 [6, 167, 0, 27, 42, 21, 8, 181, 0, 146, 21, 7, 54, 4, 42, 180] = true := by decide +kernel
set_option maxRecDepth 100000 in
theorem zh_dX3_evenOut_191_192 : zc cX3_evenOut 192 [0, 46, 3, 42, 180, 0, 49, 3, 7, 184, 0, 152, 132, 5, 1, 167] = true := by decide +kernel
set_option maxRecDepth 100000 in
theorem zh_dX3_evenOut_207_208 : zc cX3_evenOut 208 [255, 130, 177] = true := by decide +kernel
set_option maxRecDepth 100000 in
theorem zh_dX3_gatherChanged_0_0 : zc cX3_gatherChanged 0 [42, 3, 181, 0, 158, 3, 61, 28, 42, 180, 0, 55, 180, 0, 63, 182] = true := by decide +kernel
set_option maxRecDepth 100000 in
theorem zh_dX3_gatherChanged_15_16 : zc cX3_gatherChanged 16 [0, 69, 162, 0, 169, 42, 180, 0, 55, 180, 0, 63, 28, 182, 0, 99] = true := by decide +kernel
set_option maxRecDepth 100000 in
theorem zh_dX3_gatherChanged_32_32 : zc cX3_gatherChanged 32 [192, 0, 103, 180, 0, 105, 153, 0, 6, 167, 0, 140, 3, 62, 3, 54] = true := by decide +kernel
set_option maxRecDepth 100000 in
theorem zh_dX3_gatherChanged_47_48 : zc cX3_gatherChanged 48 [4, 21, 4, 27, 162, 0, 114, 28, 42, 180, 0, 43, 21, 4, 46, 184] = true := by decide +kernel
set_option maxRecDepth 100000 in
theorem zh_dX3_gatherChanged_63_64 : zc cX3_gatherChanged 64 [0, 89, 54, 5, 42, 180, 0, 11, 21, 5, 51, 153, 0, 6, 132, 3] = true := by decide +kernel
set_option maxRecDepth 100000 in
theorem zh_dX3_gatherChanged_78_80 : zc cX3_gatherChanged 80 [1, 3, 54, 6, 21, 6, 16, 7, 162, 0, 72, 4, 42, 180, 0, 19] = true := by decide +kernel
set_option maxRecDepth 100000 in
theorem zh_dX3_gatherChanged_96_96 : zc cX3_gatherChanged 96 [21, 5, 46, 21, 6, 96, 6, 100, 184, 0, 129, 54, 7, 42, 180, 0] = true := by decide +kernel
set_option maxRecDepth 100000 in
theorem zh_dX3_gatherChanged_110_112 : zc cX3_gatherChanged 112 [40, 42, 180, 0, 158, 21, 4, 184, 0, 161, 21, 6, 96, 42, 180, 0] = true := by decide +kernel
set_option maxRecDepth 100000 in
theorem zh_dX3_gatherChanged_126_128 : zc cX3_gatherChanged 128 [11, 21, 5, 51, 153, 0, 20, 42, 180, 0, 15, 21, 5, 46, 21, 7] = true := by decide +kernel
set_option maxRecDepth 100000 in
theorem zh_dX3_gatherChanged_144_144 : zc cX3_gatherChanged 144 [104, 17, 3, 232, 108, 167, 0, 4, 2, 79, 132, 6, 1, 167, 255, 183] = true := by decide +kernel
set_option maxRecDepth 100000 in
theorem zh_dX3_gatherChanged_160_160 : zc cX3_gatherChanged 160 [132, 4, 1, 167, 255, 142, 29, 5, 161, 0, 13, 42, 89, 180, 0, 158] = true := by decide +kernel
set_option maxRecDepth 100000 in
theorem zh_dX3_gatherChanged_176_176 : zc cX3_gatherChanged 176 [4, 96, 181, 0, 158, 132, 2, 1, 167, 255, 79, 177] = true := by decide +kernel
set_option maxRecDepth 100000 in
theorem zh_dX3_spreadTried_0_0 : zc cX3_spreadTried 0 [3, 61, 3, 62, 29, 42, 180, 0, 158, 162, 0, 99, 28, 42, 180, 0] = true := by decide +kernel
set_option maxRecDepth 100000 in
theorem zh_dX3_spreadTried_14_16 : zc cX3_spreadTried 16 [146, 163, 0, 91, 18, 125, 54, 4, 3, 54, 5, 3, 54, 6, 21, 6] = true := by decide +kernel
set_option maxRecDepth 100000 in
theorem zh_dX3_spreadTried_32_32 : zc cX3_spreadTried 32 [27, 162, 0, 61, 42, 180, 0, 40, 29, 21, 6, 184, 0, 161, 42, 180] = true := by decide +kernel
set_option maxRecDepth 100000 in
theorem zh_dX3_spreadTried_47_48 : zc cX3_spreadTried 48 [0, 46, 21, 6, 46, 96, 46, 54, 7, 21, 7, 2, 160, 0, 6, 167] = true := by decide +kernel
set_option maxRecDepth 100000 in
theorem zh_dX3_spreadTried_63_64 : zc cX3_spreadTried 64 [0, 25, 21, 7, 21, 4, 162, 0, 7, 21, 7, 54, 4, 21, 7, 21] = true := by decide +kernel
set_option maxRecDepth 100000 in
theorem zh_dX3_spreadTried_79_80 : zc cX3_spreadTried 80 [5, 164, 0, 7, 21, 7, 54, 5, 132, 6, 1, 167, 255, 195, 28, 21] = true := by decide +kernel
set_option maxRecDepth 100000 in
theorem zh_dX3_spreadTried_95_96 : zc cX3_spreadTried 96 [5, 21, 4, 100, 96, 61, 132, 3, 1, 167, 255, 155, 28, 172] = true := by decide +kernel
set_option maxRecDepth 100000 in
theorem zh_dX3_bestChangeOf_0_0 : zc cX3_bestChangeOf 0 [3, 61, 28, 7, 162, 0, 28, 42, 180, 0, 43, 28, 46, 27, 160, 0] = true := by decide +kernel
set_option maxRecDepth 100000 in
theorem zh_dX3_bestChangeOf_14_16 : zc cX3_bestChangeOf 16 [12, 42, 180, 0, 49, 28, 46, 6, 100, 172, 132, 2, 1, 167, 255, 229] = true := by decide +kernel
set_option maxRecDepth 100000 in
theorem zh_dX3_bestChangeOf_32_32 : zc cX3_bestChangeOf 32 [18, 108, 172] = true := by decide +kernel
theorem dX3_loadAll_0 : decode cX3_loadAll 0 = .ok (.iconst 0, 1) := zo_3 (zi_at zh_dX3_loadAll_0_0 0 rfl)
theorem dX3_loadAll_1 : decode cX3_loadAll 1 = .ok (.istore_n 1, 1) := zo_60 (zi_at zh_dX3_loadAll_0_0 1 rfl)
theorem dX3_loadAll_2 : decode cX3_loadAll 2 = .ok (.iload_n 1, 1) := zo_27 (zi_at zh_dX3_loadAll_0_0 2 rfl)
theorem dX3_loadAll_3 : decode cX3_loadAll 3 = .ok (.aload_n 0, 1) := zo_42 (zi_at zh_dX3_loadAll_0_0 3 rfl)
theorem dX3_loadAll_4 : decode cX3_loadAll 4 = .ok (.getfield 55, 3) := zo_180 (zi_at zh_dX3_loadAll_0_0 4 rfl) (zi_at zh_dX3_loadAll_0_0 5 rfl) (zi_at zh_dX3_loadAll_0_0 6 rfl) rfl
theorem dX3_loadAll_7 : decode cX3_loadAll 7 = .ok (.getfield 63, 3) := zo_180 (zi_at zh_dX3_loadAll_0_0 7 rfl) (zi_at zh_dX3_loadAll_0_0 8 rfl) (zi_at zh_dX3_loadAll_0_0 9 rfl) rfl
theorem dX3_loadAll_10 : decode cX3_loadAll 10 = .ok (.invokevirtual 69, 3) := zo_182 (zi_at zh_dX3_loadAll_0_0 10 rfl) (zi_at zh_dX3_loadAll_0_0 11 rfl) (zi_at zh_dX3_loadAll_0_0 12 rfl) rfl
theorem dX3_loadAll_13 : decode cX3_loadAll 13 = .ok (.if_icmp .ge 14, 3) := zo_162 (zi_at zh_dX3_loadAll_0_0 13 rfl) (zi_at zh_dX3_loadAll_0_0 14 rfl) (zi_at zh_dX3_loadAll_0_0 15 rfl) rfl
theorem dX3_loadAll_16 : decode cX3_loadAll 16 = .ok (.aload_n 0, 1) := zo_42 (zi_at zh_dX3_loadAll_16_16 0 rfl)
theorem dX3_loadAll_17 : decode cX3_loadAll 17 = .ok (.iload_n 1, 1) := zo_27 (zi_at zh_dX3_loadAll_16_16 1 rfl)
theorem dX3_loadAll_18 : decode cX3_loadAll 18 = .ok (.invokevirtual 75, 3) := zo_182 (zi_at zh_dX3_loadAll_16_16 2 rfl) (zi_at zh_dX3_loadAll_16_16 3 rfl) (zi_at zh_dX3_loadAll_16_16 4 rfl) rfl
theorem dX3_loadAll_21 : decode cX3_loadAll 21 = .ok (.iinc 1 1, 3) := zo_132 (zi_at zh_dX3_loadAll_16_16 5 rfl) (zi_at zh_dX3_loadAll_16_16 6 rfl) (zi_at zh_dX3_loadAll_16_16 7 rfl) rfl
theorem dX3_loadAll_24 : decode cX3_loadAll 24 = .ok (.goto (-22), 3) := zo_167 (zi_at zh_dX3_loadAll_16_16 8 rfl) (zi_at zh_dX3_loadAll_16_16 9 rfl) (zi_at zh_dX3_loadAll_16_16 10 rfl) rfl
theorem dX3_loadAll_27 : decode cX3_loadAll 27 = .ok (.return_, 1) := zo_177 (zi_at zh_dX3_loadAll_16_16 11 rfl)
theorem dX3_load_0 : decode cX3_load 0 = .ok (.aload_n 0, 1) := zo_42 (zi_at zh_dX3_load_0_0 0 rfl)
theorem dX3_load_1 : decode cX3_load 1 = .ok (.getfield 59, 3) := zo_180 (zi_at zh_dX3_load_0_0 1 rfl) (zi_at zh_dX3_load_0_0 2 rfl) (zi_at zh_dX3_load_0_0 3 rfl) rfl
theorem dX3_load_4 : decode cX3_load 4 = .ok (.iload_n 1, 1) := zo_27 (zi_at zh_dX3_load_0_0 4 rfl)
theorem dX3_load_5 : decode cX3_load 5 = .ok (.aload_n 0, 1) := zo_42 (zi_at zh_dX3_load_0_0 5 rfl)
theorem dX3_load_6 : decode cX3_load 6 = .ok (.getfield 55, 3) := zo_180 (zi_at zh_dX3_load_0_0 6 rfl) (zi_at zh_dX3_load_0_0 7 rfl) (zi_at zh_dX3_load_0_0 8 rfl) rfl
theorem dX3_load_9 : decode cX3_load 9 = .ok (.getfield 79, 3) := zo_180 (zi_at zh_dX3_load_0_0 9 rfl) (zi_at zh_dX3_load_0_0 10 rfl) (zi_at zh_dX3_load_0_0 11 rfl) rfl
theorem dX3_load_12 : decode cX3_load 12 = .ok (.invokevirtual 83, 3) := zo_182 (zi_at zh_dX3_load_0_0 12 rfl) (zi_at zh_dX3_load_0_0 13 rfl) (zi_at zh_dX3_load_0_0 14 rfl) rfl
theorem dX3_load_15 : decode cX3_load 15 = .ok (.iconst 0, 1) := zo_3 (zi_at zh_dX3_load_0_0 15 rfl)
theorem dX3_load_16 : decode cX3_load 16 = .ok (.istore_n 2, 1) := zo_61 (zi_at zh_dX3_load_16_16 0 rfl)
theorem dX3_load_17 : decode cX3_load 17 = .ok (.iload_n 2, 1) := zo_28 (zi_at zh_dX3_load_16_16 1 rfl)
theorem dX3_load_18 : decode cX3_load 18 = .ok (.bipush 16, 2) := zo_16 (zi_at zh_dX3_load_16_16 2 rfl) (zi_at zh_dX3_load_16_16 3 rfl) rfl
theorem dX3_load_20 : decode cX3_load 20 = .ok (.if_icmp .ge 83, 3) := zo_162 (zi_at zh_dX3_load_16_16 4 rfl) (zi_at zh_dX3_load_16_16 5 rfl) (zi_at zh_dX3_load_16_16 6 rfl) rfl
theorem dX3_load_23 : decode cX3_load 23 = .ok (.iload_n 1, 1) := zo_27 (zi_at zh_dX3_load_16_16 7 rfl)
theorem dX3_load_24 : decode cX3_load 24 = .ok (.iload_n 2, 1) := zo_28 (zi_at zh_dX3_load_16_16 8 rfl)
theorem dX3_load_25 : decode cX3_load 25 = .ok (.invokestatic 89, 3) := zo_184 (zi_at zh_dX3_load_16_16 9 rfl) (zi_at zh_dX3_load_16_16 10 rfl) (zi_at zh_dX3_load_16_16 11 rfl) rfl
theorem dX3_load_28 : decode cX3_load 28 = .ok (.istore_n 3, 1) := zo_62 (zi_at zh_dX3_load_16_16 12 rfl)
theorem dX3_load_29 : decode cX3_load 29 = .ok (.aload_n 0, 1) := zo_42 (zi_at zh_dX3_load_16_16 13 rfl)
theorem dX3_load_30 : decode cX3_load 30 = .ok (.getfield 11, 3) := zo_180 (zi_at zh_dX3_load_16_16 14 rfl) (zi_at zh_dX3_load_16_16 15 rfl) (zi_at zh_dX3_load_30_32 0 rfl) rfl
theorem dX3_load_33 : decode cX3_load 33 = .ok (.iload_n 3, 1) := zo_29 (zi_at zh_dX3_load_30_32 1 rfl)
theorem dX3_load_34 : decode cX3_load 34 = .ok (.aload_n 0, 1) := zo_42 (zi_at zh_dX3_load_30_32 2 rfl)
theorem dX3_load_35 : decode cX3_load 35 = .ok (.getfield 59, 3) := zo_180 (zi_at zh_dX3_load_30_32 3 rfl) (zi_at zh_dX3_load_30_32 4 rfl) (zi_at zh_dX3_load_30_32 5 rfl) rfl
theorem dX3_load_38 : decode cX3_load 38 = .ok (.getfield 93, 3) := zo_180 (zi_at zh_dX3_load_30_32 6 rfl) (zi_at zh_dX3_load_30_32 7 rfl) (zi_at zh_dX3_load_30_32 8 rfl) rfl
theorem dX3_load_41 : decode cX3_load 41 = .ok (.iload_n 2, 1) := zo_28 (zi_at zh_dX3_load_30_32 9 rfl)
theorem dX3_load_42 : decode cX3_load 42 = .ok (.iaload, 1) := zo_46 (zi_at zh_dX3_load_30_32 10 rfl)
theorem dX3_load_43 : decode cX3_load 43 = .ok (.ifCond .ne 7, 3) := zo_154 (zi_at zh_dX3_load_30_32 11 rfl) (zi_at zh_dX3_load_30_32 12 rfl) (zi_at zh_dX3_load_30_32 13 rfl) rfl
theorem dX3_load_46 : decode cX3_load 46 = .ok (.iconst 1, 1) := zo_4 (zi_at zh_dX3_load_30_32 14 rfl)
theorem dX3_load_47 : decode cX3_load 47 = .ok (.goto 4, 3) := zo_167 (zi_at zh_dX3_load_30_32 15 rfl) (zi_at zh_dX3_load_47_48 0 rfl) (zi_at zh_dX3_load_47_48 1 rfl) rfl
theorem dX3_load_50 : decode cX3_load 50 = .ok (.iconst 0, 1) := zo_3 (zi_at zh_dX3_load_47_48 2 rfl)
theorem dX3_load_51 : decode cX3_load 51 = .ok (.bastore, 1) := zo_84 (zi_at zh_dX3_load_47_48 3 rfl)
theorem dX3_load_52 : decode cX3_load 52 = .ok (.aload_n 0, 1) := zo_42 (zi_at zh_dX3_load_47_48 4 rfl)
theorem dX3_load_53 : decode cX3_load 53 = .ok (.getfield 15, 3) := zo_180 (zi_at zh_dX3_load_47_48 5 rfl) (zi_at zh_dX3_load_47_48 6 rfl) (zi_at zh_dX3_load_47_48 7 rfl) rfl
theorem dX3_load_56 : decode cX3_load 56 = .ok (.iload_n 3, 1) := zo_29 (zi_at zh_dX3_load_47_48 8 rfl)
theorem dX3_load_57 : decode cX3_load 57 = .ok (.aload_n 0, 1) := zo_42 (zi_at zh_dX3_load_47_48 9 rfl)
theorem dX3_load_58 : decode cX3_load 58 = .ok (.getfield 59, 3) := zo_180 (zi_at zh_dX3_load_47_48 10 rfl) (zi_at zh_dX3_load_47_48 11 rfl) (zi_at zh_dX3_load_47_48 12 rfl) rfl
theorem dX3_load_61 : decode cX3_load 61 = .ok (.getfield 96, 3) := zo_180 (zi_at zh_dX3_load_47_48 13 rfl) (zi_at zh_dX3_load_47_48 14 rfl) (zi_at zh_dX3_load_47_48 15 rfl) rfl
theorem dX3_load_64 : decode cX3_load 64 = .ok (.iload_n 2, 1) := zo_28 (zi_at zh_dX3_load_64_64 0 rfl)
theorem dX3_load_65 : decode cX3_load 65 = .ok (.iaload, 1) := zo_46 (zi_at zh_dX3_load_64_64 1 rfl)
theorem dX3_load_66 : decode cX3_load 66 = .ok (.iastore, 1) := zo_79 (zi_at zh_dX3_load_64_64 2 rfl)
theorem dX3_load_67 : decode cX3_load 67 = .ok (.aload_n 0, 1) := zo_42 (zi_at zh_dX3_load_64_64 3 rfl)
theorem dX3_load_68 : decode cX3_load 68 = .ok (.getfield 19, 3) := zo_180 (zi_at zh_dX3_load_64_64 4 rfl) (zi_at zh_dX3_load_64_64 5 rfl) (zi_at zh_dX3_load_64_64 6 rfl) rfl
theorem dX3_load_71 : decode cX3_load 71 = .ok (.iload_n 3, 1) := zo_29 (zi_at zh_dX3_load_64_64 7 rfl)
theorem dX3_load_72 : decode cX3_load 72 = .ok (.aload_n 0, 1) := zo_42 (zi_at zh_dX3_load_64_64 8 rfl)
theorem dX3_load_73 : decode cX3_load 73 = .ok (.getfield 59, 3) := zo_180 (zi_at zh_dX3_load_64_64 9 rfl) (zi_at zh_dX3_load_64_64 10 rfl) (zi_at zh_dX3_load_64_64 11 rfl) rfl
theorem dX3_load_76 : decode cX3_load 76 = .ok (.getfield 97, 3) := zo_180 (zi_at zh_dX3_load_64_64 12 rfl) (zi_at zh_dX3_load_64_64 13 rfl) (zi_at zh_dX3_load_64_64 14 rfl) rfl
theorem dX3_load_79 : decode cX3_load 79 = .ok (.iload_n 2, 1) := zo_28 (zi_at zh_dX3_load_64_64 15 rfl)
theorem dX3_load_80 : decode cX3_load 80 = .ok (.iaload, 1) := zo_46 (zi_at zh_dX3_load_80_80 0 rfl)
theorem dX3_load_81 : decode cX3_load 81 = .ok (.iastore, 1) := zo_79 (zi_at zh_dX3_load_80_80 1 rfl)
theorem dX3_load_82 : decode cX3_load 82 = .ok (.aload_n 0, 1) := zo_42 (zi_at zh_dX3_load_80_80 2 rfl)
theorem dX3_load_83 : decode cX3_load 83 = .ok (.getfield 22, 3) := zo_180 (zi_at zh_dX3_load_80_80 3 rfl) (zi_at zh_dX3_load_80_80 4 rfl) (zi_at zh_dX3_load_80_80 5 rfl) rfl
theorem dX3_load_86 : decode cX3_load 86 = .ok (.iload_n 3, 1) := zo_29 (zi_at zh_dX3_load_80_80 6 rfl)
theorem dX3_load_87 : decode cX3_load 87 = .ok (.aload_n 0, 1) := zo_42 (zi_at zh_dX3_load_80_80 7 rfl)
theorem dX3_load_88 : decode cX3_load 88 = .ok (.getfield 59, 3) := zo_180 (zi_at zh_dX3_load_80_80 8 rfl) (zi_at zh_dX3_load_80_80 9 rfl) (zi_at zh_dX3_load_80_80 10 rfl) rfl
theorem dX3_load_91 : decode cX3_load 91 = .ok (.getfield 98, 3) := zo_180 (zi_at zh_dX3_load_80_80 11 rfl) (zi_at zh_dX3_load_80_80 12 rfl) (zi_at zh_dX3_load_80_80 13 rfl) rfl
theorem dX3_load_94 : decode cX3_load 94 = .ok (.iload_n 2, 1) := zo_28 (zi_at zh_dX3_load_80_80 14 rfl)
theorem dX3_load_95 : decode cX3_load 95 = .ok (.iaload, 1) := zo_46 (zi_at zh_dX3_load_80_80 15 rfl)
theorem dX3_load_96 : decode cX3_load 96 = .ok (.iastore, 1) := zo_79 (zi_at zh_dX3_load_96_96 0 rfl)
theorem dX3_load_97 : decode cX3_load 97 = .ok (.iinc 2 1, 3) := zo_132 (zi_at zh_dX3_load_96_96 1 rfl) (zi_at zh_dX3_load_96_96 2 rfl) (zi_at zh_dX3_load_96_96 3 rfl) rfl
theorem dX3_load_100 : decode cX3_load 100 = .ok (.goto (-83), 3) := zo_167 (zi_at zh_dX3_load_96_96 4 rfl) (zi_at zh_dX3_load_96_96 5 rfl) (zi_at zh_dX3_load_96_96 6 rfl) rfl
theorem dX3_load_103 : decode cX3_load 103 = .ok (.return_, 1) := zo_177 (zi_at zh_dX3_load_96_96 7 rfl)
theorem dX3_evenOut_0 : decode cX3_evenOut 0 = .ok (.iconst 0, 1) := zo_3 (zi_at zh_dX3_evenOut_0_0 0 rfl)
theorem dX3_evenOut_1 : decode cX3_evenOut 1 = .ok (.istore_n 2, 1) := zo_61 (zi_at zh_dX3_evenOut_0_0 1 rfl)
theorem dX3_evenOut_2 : decode cX3_evenOut 2 = .ok (.iconst 0, 1) := zo_3 (zi_at zh_dX3_evenOut_0_0 2 rfl)
theorem dX3_evenOut_3 : decode cX3_evenOut 3 = .ok (.istore_n 3, 1) := zo_62 (zi_at zh_dX3_evenOut_0_0 3 rfl)
theorem dX3_evenOut_4 : decode cX3_evenOut 4 = .ok (.iload_n 3, 1) := zo_29 (zi_at zh_dX3_evenOut_0_0 4 rfl)
theorem dX3_evenOut_5 : decode cX3_evenOut 5 = .ok (.bipush 16, 2) := zo_16 (zi_at zh_dX3_evenOut_0_0 5 rfl) (zi_at zh_dX3_evenOut_0_0 6 rfl) rfl
theorem dX3_evenOut_7 : decode cX3_evenOut 7 = .ok (.if_icmp .ge 35, 3) := zo_162 (zi_at zh_dX3_evenOut_0_0 7 rfl) (zi_at zh_dX3_evenOut_0_0 8 rfl) (zi_at zh_dX3_evenOut_0_0 9 rfl) rfl
theorem dX3_evenOut_10 : decode cX3_evenOut 10 = .ok (.iload_n 1, 1) := zo_27 (zi_at zh_dX3_evenOut_0_0 10 rfl)
theorem dX3_evenOut_11 : decode cX3_evenOut 11 = .ok (.iload_n 3, 1) := zo_29 (zi_at zh_dX3_evenOut_0_0 11 rfl)
theorem dX3_evenOut_12 : decode cX3_evenOut 12 = .ok (.ishr, 1) := zo_122 (zi_at zh_dX3_evenOut_0_0 12 rfl)
theorem dX3_evenOut_13 : decode cX3_evenOut 13 = .ok (.iconst 1, 1) := zo_4 (zi_at zh_dX3_evenOut_0_0 13 rfl)
theorem dX3_evenOut_14 : decode cX3_evenOut 14 = .ok (.iand, 1) := zo_126 (zi_at zh_dX3_evenOut_0_0 14 rfl)
theorem dX3_evenOut_15 : decode cX3_evenOut 15 = .ok (.ifCond .eq 21, 3) := zo_153 (zi_at zh_dX3_evenOut_0_0 15 rfl) (zi_at zh_dX3_evenOut_15_16 0 rfl) (zi_at zh_dX3_evenOut_15_16 1 rfl) rfl
theorem dX3_evenOut_18 : decode cX3_evenOut 18 = .ok (.iload_n 2, 1) := zo_28 (zi_at zh_dX3_evenOut_15_16 2 rfl)
theorem dX3_evenOut_19 : decode cX3_evenOut 19 = .ok (.iconst 4, 1) := zo_7 (zi_at zh_dX3_evenOut_15_16 3 rfl)
theorem dX3_evenOut_20 : decode cX3_evenOut 20 = .ok (.if_icmp .lt 6, 3) := zo_161 (zi_at zh_dX3_evenOut_15_16 4 rfl) (zi_at zh_dX3_evenOut_15_16 5 rfl) (zi_at zh_dX3_evenOut_15_16 6 rfl) rfl
theorem dX3_evenOut_23 : decode cX3_evenOut 23 = .ok (.goto 13, 3) := zo_167 (zi_at zh_dX3_evenOut_15_16 7 rfl) (zi_at zh_dX3_evenOut_15_16 8 rfl) (zi_at zh_dX3_evenOut_15_16 9 rfl) rfl
theorem dX3_evenOut_26 : decode cX3_evenOut 26 = .ok (.aload_n 0, 1) := zo_42 (zi_at zh_dX3_evenOut_15_16 10 rfl)
theorem dX3_evenOut_27 : decode cX3_evenOut 27 = .ok (.getfield 43, 3) := zo_180 (zi_at zh_dX3_evenOut_15_16 11 rfl) (zi_at zh_dX3_evenOut_15_16 12 rfl) (zi_at zh_dX3_evenOut_15_16 13 rfl) rfl
theorem dX3_evenOut_30 : decode cX3_evenOut 30 = .ok (.iload_n 2, 1) := zo_28 (zi_at zh_dX3_evenOut_15_16 14 rfl)
theorem dX3_evenOut_31 : decode cX3_evenOut 31 = .ok (.iload_n 3, 1) := zo_29 (zi_at zh_dX3_evenOut_15_16 15 rfl)
theorem dX3_evenOut_32 : decode cX3_evenOut 32 = .ok (.iastore, 1) := zo_79 (zi_at zh_dX3_evenOut_32_32 0 rfl)
theorem dX3_evenOut_33 : decode cX3_evenOut 33 = .ok (.iinc 2 1, 3) := zo_132 (zi_at zh_dX3_evenOut_32_32 1 rfl) (zi_at zh_dX3_evenOut_32_32 2 rfl) (zi_at zh_dX3_evenOut_32_32 3 rfl) rfl
theorem dX3_evenOut_36 : decode cX3_evenOut 36 = .ok (.iinc 3 1, 3) := zo_132 (zi_at zh_dX3_evenOut_32_32 4 rfl) (zi_at zh_dX3_evenOut_32_32 5 rfl) (zi_at zh_dX3_evenOut_32_32 6 rfl) rfl
theorem dX3_evenOut_39 : decode cX3_evenOut 39 = .ok (.goto (-35), 3) := zo_167 (zi_at zh_dX3_evenOut_32_32 7 rfl) (zi_at zh_dX3_evenOut_32_32 8 rfl) (zi_at zh_dX3_evenOut_32_32 9 rfl) rfl
theorem dX3_evenOut_42 : decode cX3_evenOut 42 = .ok (.aload_n 0, 1) := zo_42 (zi_at zh_dX3_evenOut_32_32 10 rfl)
theorem dX3_evenOut_43 : decode cX3_evenOut 43 = .ok (.iload_n 2, 1) := zo_28 (zi_at zh_dX3_evenOut_32_32 11 rfl)
theorem dX3_evenOut_44 : decode cX3_evenOut 44 = .ok (.invokevirtual 143, 3) := zo_182 (zi_at zh_dX3_evenOut_32_32 12 rfl) (zi_at zh_dX3_evenOut_32_32 13 rfl) (zi_at zh_dX3_evenOut_32_32 14 rfl) rfl
theorem dX3_evenOut_47 : decode cX3_evenOut 47 = .ok (.iconst 1, 1) := zo_4 (zi_at zh_dX3_evenOut_32_32 15 rfl)
theorem dX3_evenOut_48 : decode cX3_evenOut 48 = .ok (.istore_n 3, 1) := zo_62 (zi_at zh_dX3_evenOut_48_48 0 rfl)
theorem dX3_evenOut_49 : decode cX3_evenOut 49 = .ok (.iconst 0, 1) := zo_3 (zi_at zh_dX3_evenOut_48_48 1 rfl)
theorem dX3_evenOut_50 : decode cX3_evenOut 50 = .ok (.istore 4, 2) := zo_54 (zi_at zh_dX3_evenOut_48_48 2 rfl) (zi_at zh_dX3_evenOut_48_48 3 rfl)
theorem dX3_evenOut_52 : decode cX3_evenOut 52 = .ok (.iload 4, 2) := zo_21 (zi_at zh_dX3_evenOut_48_48 4 rfl) (zi_at zh_dX3_evenOut_48_48 5 rfl)
theorem dX3_evenOut_54 : decode cX3_evenOut 54 = .ok (.iload_n 2, 1) := zo_28 (zi_at zh_dX3_evenOut_48_48 6 rfl)
theorem dX3_evenOut_55 : decode cX3_evenOut 55 = .ok (.if_icmp .ge 14, 3) := zo_162 (zi_at zh_dX3_evenOut_48_48 7 rfl) (zi_at zh_dX3_evenOut_48_48 8 rfl) (zi_at zh_dX3_evenOut_48_48 9 rfl) rfl
theorem dX3_evenOut_58 : decode cX3_evenOut 58 = .ok (.iload_n 3, 1) := zo_29 (zi_at zh_dX3_evenOut_48_48 10 rfl)
theorem dX3_evenOut_59 : decode cX3_evenOut 59 = .ok (.bipush 7, 2) := zo_16 (zi_at zh_dX3_evenOut_48_48 11 rfl) (zi_at zh_dX3_evenOut_48_48 12 rfl) rfl
theorem dX3_evenOut_61 : decode cX3_evenOut 61 = .ok (.imul, 1) := zo_104 (zi_at zh_dX3_evenOut_48_48 13 rfl)
theorem dX3_evenOut_62 : decode cX3_evenOut 62 = .ok (.istore_n 3, 1) := zo_62 (zi_at zh_dX3_evenOut_48_48 14 rfl)
theorem dX3_evenOut_63 : decode cX3_evenOut 63 = .ok (.iinc 4 1, 3) := zo_132 (zi_at zh_dX3_evenOut_48_48 15 rfl) (zi_at zh_dX3_evenOut_63_64 0 rfl) (zi_at zh_dX3_evenOut_63_64 1 rfl) rfl
theorem dX3_evenOut_66 : decode cX3_evenOut 66 = .ok (.goto (-14), 3) := zo_167 (zi_at zh_dX3_evenOut_63_64 2 rfl) (zi_at zh_dX3_evenOut_63_64 3 rfl) (zi_at zh_dX3_evenOut_63_64 4 rfl) rfl
theorem dX3_evenOut_69 : decode cX3_evenOut 69 = .ok (.aload_n 0, 1) := zo_42 (zi_at zh_dX3_evenOut_63_64 5 rfl)
theorem dX3_evenOut_70 : decode cX3_evenOut 70 = .ok (.ldc 125, 2) := zo_18 (zi_at zh_dX3_evenOut_63_64 6 rfl) (zi_at zh_dX3_evenOut_63_64 7 rfl)
theorem dX3_evenOut_72 : decode cX3_evenOut 72 = .ok (.putfield 146, 3) := zo_181 (zi_at zh_dX3_evenOut_63_64 8 rfl) (zi_at zh_dX3_evenOut_63_64 9 rfl) (zi_at zh_dX3_evenOut_63_64 10 rfl) rfl
theorem dX3_evenOut_75 : decode cX3_evenOut 75 = .ok (.iconst 0, 1) := zo_3 (zi_at zh_dX3_evenOut_63_64 11 rfl)
theorem dX3_evenOut_76 : decode cX3_evenOut 76 = .ok (.istore 4, 2) := zo_54 (zi_at zh_dX3_evenOut_63_64 12 rfl) (zi_at zh_dX3_evenOut_63_64 13 rfl)
theorem dX3_evenOut_78 : decode cX3_evenOut 78 = .ok (.iconst 0, 1) := zo_3 (zi_at zh_dX3_evenOut_63_64 14 rfl)
theorem dX3_evenOut_79 : decode cX3_evenOut 79 = .ok (.istore 5, 2) := zo_54 (zi_at zh_dX3_evenOut_63_64 15 rfl) (zi_at zh_dX3_evenOut_79_80 0 rfl)
theorem dX3_evenOut_81 : decode cX3_evenOut 81 = .ok (.iload 5, 2) := zo_21 (zi_at zh_dX3_evenOut_79_80 1 rfl) (zi_at zh_dX3_evenOut_79_80 2 rfl)
theorem dX3_evenOut_83 : decode cX3_evenOut 83 = .ok (.iload_n 3, 1) := zo_29 (zi_at zh_dX3_evenOut_79_80 3 rfl)
theorem dX3_evenOut_84 : decode cX3_evenOut 84 = .ok (.if_icmp .ge 126, 3) := zo_162 (zi_at zh_dX3_evenOut_79_80 4 rfl) (zi_at zh_dX3_evenOut_79_80 5 rfl) (zi_at zh_dX3_evenOut_79_80 6 rfl) rfl
theorem dX3_evenOut_87 : decode cX3_evenOut 87 = .ok (.iload 5, 2) := zo_21 (zi_at zh_dX3_evenOut_79_80 7 rfl) (zi_at zh_dX3_evenOut_79_80 8 rfl)
theorem dX3_evenOut_89 : decode cX3_evenOut 89 = .ok (.istore 6, 2) := zo_54 (zi_at zh_dX3_evenOut_79_80 9 rfl) (zi_at zh_dX3_evenOut_79_80 10 rfl)
theorem dX3_evenOut_91 : decode cX3_evenOut 91 = .ok (.iconst 0, 1) := zo_3 (zi_at zh_dX3_evenOut_79_80 11 rfl)
theorem dX3_evenOut_92 : decode cX3_evenOut 92 = .ok (.istore 7, 2) := zo_54 (zi_at zh_dX3_evenOut_79_80 12 rfl) (zi_at zh_dX3_evenOut_79_80 13 rfl)
theorem dX3_evenOut_94 : decode cX3_evenOut 94 = .ok (.iload_n 2, 1) := zo_28 (zi_at zh_dX3_evenOut_79_80 14 rfl)
theorem dX3_evenOut_95 : decode cX3_evenOut 95 = .ok (.iconst 1, 1) := zo_4 (zi_at zh_dX3_evenOut_79_80 15 rfl)
theorem dX3_evenOut_96 : decode cX3_evenOut 96 = .ok (.isub, 1) := zo_100 (zi_at zh_dX3_evenOut_96_96 0 rfl)
theorem dX3_evenOut_97 : decode cX3_evenOut 97 = .ok (.istore 8, 2) := zo_54 (zi_at zh_dX3_evenOut_96_96 1 rfl) (zi_at zh_dX3_evenOut_96_96 2 rfl)
theorem dX3_evenOut_99 : decode cX3_evenOut 99 = .ok (.iload 8, 2) := zo_21 (zi_at zh_dX3_evenOut_96_96 3 rfl) (zi_at zh_dX3_evenOut_96_96 4 rfl)
theorem dX3_evenOut_101 : decode cX3_evenOut 101 = .ok (.ifCond .lt 44, 3) := zo_155 (zi_at zh_dX3_evenOut_96_96 5 rfl) (zi_at zh_dX3_evenOut_96_96 6 rfl) (zi_at zh_dX3_evenOut_96_96 7 rfl) rfl
theorem dX3_evenOut_104 : decode cX3_evenOut 104 = .ok (.aload_n 0, 1) := zo_42 (zi_at zh_dX3_evenOut_96_96 8 rfl)
theorem dX3_evenOut_105 : decode cX3_evenOut 105 = .ok (.getfield 46, 3) := zo_180 (zi_at zh_dX3_evenOut_96_96 9 rfl) (zi_at zh_dX3_evenOut_96_96 10 rfl) (zi_at zh_dX3_evenOut_96_96 11 rfl) rfl
theorem dX3_evenOut_108 : decode cX3_evenOut 108 = .ok (.iload 8, 2) := zo_21 (zi_at zh_dX3_evenOut_96_96 12 rfl) (zi_at zh_dX3_evenOut_96_96 13 rfl)
theorem dX3_evenOut_110 : decode cX3_evenOut 110 = .ok (.iload 6, 2) := zo_21 (zi_at zh_dX3_evenOut_96_96 14 rfl) (zi_at zh_dX3_evenOut_96_96 15 rfl)
theorem dX3_evenOut_112 : decode cX3_evenOut 112 = .ok (.bipush 7, 2) := zo_16 (zi_at zh_dX3_evenOut_112_112 0 rfl) (zi_at zh_dX3_evenOut_112_112 1 rfl) rfl
theorem dX3_evenOut_114 : decode cX3_evenOut 114 = .ok (.irem, 1) := zo_112 (zi_at zh_dX3_evenOut_112_112 2 rfl)
theorem dX3_evenOut_115 : decode cX3_evenOut 115 = .ok (.iastore, 1) := zo_79 (zi_at zh_dX3_evenOut_112_112 3 rfl)
theorem dX3_evenOut_116 : decode cX3_evenOut 116 = .ok (.iload 6, 2) := zo_21 (zi_at zh_dX3_evenOut_112_112 4 rfl) (zi_at zh_dX3_evenOut_112_112 5 rfl)
theorem dX3_evenOut_118 : decode cX3_evenOut 118 = .ok (.bipush 7, 2) := zo_16 (zi_at zh_dX3_evenOut_112_112 6 rfl) (zi_at zh_dX3_evenOut_112_112 7 rfl) rfl
theorem dX3_evenOut_120 : decode cX3_evenOut 120 = .ok (.idiv, 1) := zo_108 (zi_at zh_dX3_evenOut_112_112 8 rfl)
theorem dX3_evenOut_121 : decode cX3_evenOut 121 = .ok (.istore 6, 2) := zo_54 (zi_at zh_dX3_evenOut_112_112 9 rfl) (zi_at zh_dX3_evenOut_112_112 10 rfl)
theorem dX3_evenOut_123 : decode cX3_evenOut 123 = .ok (.iload 7, 2) := zo_21 (zi_at zh_dX3_evenOut_112_112 11 rfl) (zi_at zh_dX3_evenOut_112_112 12 rfl)
theorem dX3_evenOut_125 : decode cX3_evenOut 125 = .ok (.aload_n 0, 1) := zo_42 (zi_at zh_dX3_evenOut_112_112 13 rfl)
theorem dX3_evenOut_126 : decode cX3_evenOut 126 = .ok (.getfield 46, 3) := zo_180 (zi_at zh_dX3_evenOut_112_112 14 rfl) (zi_at zh_dX3_evenOut_112_112 15 rfl) (zi_at zh_dX3_evenOut_126_128 0 rfl) rfl
theorem dX3_evenOut_129 : decode cX3_evenOut 129 = .ok (.iload 8, 2) := zo_21 (zi_at zh_dX3_evenOut_126_128 1 rfl) (zi_at zh_dX3_evenOut_126_128 2 rfl)
theorem dX3_evenOut_131 : decode cX3_evenOut 131 = .ok (.iaload, 1) := zo_46 (zi_at zh_dX3_evenOut_126_128 3 rfl)
theorem dX3_evenOut_132 : decode cX3_evenOut 132 = .ok (.iconst 3, 1) := zo_6 (zi_at zh_dX3_evenOut_126_128 4 rfl)
theorem dX3_evenOut_133 : decode cX3_evenOut 133 = .ok (.invokestatic 126, 3) := zo_184 (zi_at zh_dX3_evenOut_126_128 5 rfl) (zi_at zh_dX3_evenOut_126_128 6 rfl) (zi_at zh_dX3_evenOut_126_128 7 rfl) rfl
theorem dX3_evenOut_136 : decode cX3_evenOut 136 = .ok (.iadd, 1) := zo_96 (zi_at zh_dX3_evenOut_126_128 8 rfl)
theorem dX3_evenOut_137 : decode cX3_evenOut 137 = .ok (.istore 7, 2) := zo_54 (zi_at zh_dX3_evenOut_126_128 9 rfl) (zi_at zh_dX3_evenOut_126_128 10 rfl)
theorem dX3_evenOut_139 : decode cX3_evenOut 139 = .ok (.iinc 8 (-1), 3) := zo_132 (zi_at zh_dX3_evenOut_126_128 11 rfl) (zi_at zh_dX3_evenOut_126_128 12 rfl) (zi_at zh_dX3_evenOut_126_128 13 rfl) rfl
theorem dX3_evenOut_142 : decode cX3_evenOut 142 = .ok (.goto (-43), 3) := zo_167 (zi_at zh_dX3_evenOut_126_128 14 rfl) (zi_at zh_dX3_evenOut_126_128 15 rfl) (zi_at zh_dX3_evenOut_142_144 0 rfl) rfl
theorem dX3_evenOut_145 : decode cX3_evenOut 145 = .ok (.aload_n 0, 1) := zo_42 (zi_at zh_dX3_evenOut_142_144 1 rfl)
theorem dX3_evenOut_146 : decode cX3_evenOut 146 = .ok (.iload_n 2, 1) := zo_28 (zi_at zh_dX3_evenOut_142_144 2 rfl)
theorem dX3_evenOut_147 : decode cX3_evenOut 147 = .ok (.invokevirtual 149, 3) := zo_182 (zi_at zh_dX3_evenOut_142_144 3 rfl) (zi_at zh_dX3_evenOut_142_144 4 rfl) (zi_at zh_dX3_evenOut_142_144 5 rfl) rfl
theorem dX3_evenOut_150 : decode cX3_evenOut 150 = .ok (.istore 8, 2) := zo_54 (zi_at zh_dX3_evenOut_142_144 6 rfl) (zi_at zh_dX3_evenOut_142_144 7 rfl)
theorem dX3_evenOut_152 : decode cX3_evenOut 152 = .ok (.iload 8, 2) := zo_21 (zi_at zh_dX3_evenOut_142_144 8 rfl) (zi_at zh_dX3_evenOut_142_144 9 rfl)
theorem dX3_evenOut_154 : decode cX3_evenOut 154 = .ok (.aload_n 0, 1) := zo_42 (zi_at zh_dX3_evenOut_142_144 10 rfl)
theorem dX3_evenOut_155 : decode cX3_evenOut 155 = .ok (.getfield 146, 3) := zo_180 (zi_at zh_dX3_evenOut_142_144 11 rfl) (zi_at zh_dX3_evenOut_142_144 12 rfl) (zi_at zh_dX3_evenOut_142_144 13 rfl) rfl
theorem dX3_evenOut_158 : decode cX3_evenOut 158 = .ok (.if_icmp .gt 46, 3) := zo_163 (zi_at zh_dX3_evenOut_142_144 14 rfl) (zi_at zh_dX3_evenOut_142_144 15 rfl) (zi_at zh_dX3_evenOut_158_160 0 rfl) rfl
theorem dX3_evenOut_161 : decode cX3_evenOut 161 = .ok (.iload 8, 2) := zo_21 (zi_at zh_dX3_evenOut_158_160 1 rfl) (zi_at zh_dX3_evenOut_158_160 2 rfl)
theorem dX3_evenOut_163 : decode cX3_evenOut 163 = .ok (.aload_n 0, 1) := zo_42 (zi_at zh_dX3_evenOut_158_160 3 rfl)
theorem dX3_evenOut_164 : decode cX3_evenOut 164 = .ok (.getfield 146, 3) := zo_180 (zi_at zh_dX3_evenOut_158_160 4 rfl) (zi_at zh_dX3_evenOut_158_160 5 rfl) (zi_at zh_dX3_evenOut_158_160 6 rfl) rfl
theorem dX3_evenOut_167 : decode cX3_evenOut 167 = .ok (.if_icmp .ne 13, 3) := zo_160 (zi_at zh_dX3_evenOut_158_160 7 rfl) (zi_at zh_dX3_evenOut_158_160 8 rfl) (zi_at zh_dX3_evenOut_158_160 9 rfl) rfl
theorem dX3_evenOut_170 : decode cX3_evenOut 170 = .ok (.iload 7, 2) := zo_21 (zi_at zh_dX3_evenOut_158_160 10 rfl) (zi_at zh_dX3_evenOut_158_160 11 rfl)
theorem dX3_evenOut_172 : decode cX3_evenOut 172 = .ok (.iload 4, 2) := zo_21 (zi_at zh_dX3_evenOut_158_160 12 rfl) (zi_at zh_dX3_evenOut_158_160 13 rfl)
theorem dX3_evenOut_174 : decode cX3_evenOut 174 = .ok (.if_icmp .lt 6, 3) := zo_161 (zi_at zh_dX3_evenOut_158_160 14 rfl) (zi_at zh_dX3_evenOut_158_160 15 rfl) (zi_at zh_dX3_evenOut_174_176 0 rfl) rfl
theorem dX3_evenOut_177 : decode cX3_evenOut 177 = .ok (.goto 27, 3) := zo_167 (zi_at zh_dX3_evenOut_174_176 1 rfl) (zi_at zh_dX3_evenOut_174_176 2 rfl) (zi_at zh_dX3_evenOut_174_176 3 rfl) rfl
theorem dX3_evenOut_180 : decode cX3_evenOut 180 = .ok (.aload_n 0, 1) := zo_42 (zi_at zh_dX3_evenOut_174_176 4 rfl)
theorem dX3_evenOut_181 : decode cX3_evenOut 181 = .ok (.iload 8, 2) := zo_21 (zi_at zh_dX3_evenOut_174_176 5 rfl) (zi_at zh_dX3_evenOut_174_176 6 rfl)
theorem dX3_evenOut_183 : decode cX3_evenOut 183 = .ok (.putfield 146, 3) := zo_181 (zi_at zh_dX3_evenOut_174_176 7 rfl) (zi_at zh_dX3_evenOut_174_176 8 rfl) (zi_at zh_dX3_evenOut_174_176 9 rfl) rfl
theorem dX3_evenOut_186 : decode cX3_evenOut 186 = .ok (.iload 7, 2) := zo_21 (zi_at zh_dX3_evenOut_174_176 10 rfl) (zi_at zh_dX3_evenOut_174_176 11 rfl)
theorem dX3_evenOut_188 : decode cX3_evenOut 188 = .ok (.istore 4, 2) := zo_54 (zi_at zh_dX3_evenOut_174_176 12 rfl) (zi_at zh_dX3_evenOut_174_176 13 rfl)
theorem dX3_evenOut_190 : decode cX3_evenOut 190 = .ok (.aload_n 0, 1) := zo_42 (zi_at zh_dX3_evenOut_174_176 14 rfl)
theorem dX3_evenOut_191 : decode cX3_evenOut 191 = .ok (.getfield 46, 3) := zo_180 (zi_at zh_dX3_evenOut_174_176 15 rfl) (zi_at zh_dX3_evenOut_191_192 0 rfl) (zi_at zh_dX3_evenOut_191_192 1 rfl) rfl
theorem dX3_evenOut_194 : decode cX3_evenOut 194 = .ok (.iconst 0, 1) := zo_3 (zi_at zh_dX3_evenOut_191_192 2 rfl)
theorem dX3_evenOut_195 : decode cX3_evenOut 195 = .ok (.aload_n 0, 1) := zo_42 (zi_at zh_dX3_evenOut_191_192 3 rfl)
theorem dX3_evenOut_196 : decode cX3_evenOut 196 = .ok (.getfield 49, 3) := zo_180 (zi_at zh_dX3_evenOut_191_192 4 rfl) (zi_at zh_dX3_evenOut_191_192 5 rfl) (zi_at zh_dX3_evenOut_191_192 6 rfl) rfl
theorem dX3_evenOut_199 : decode cX3_evenOut 199 = .ok (.iconst 0, 1) := zo_3 (zi_at zh_dX3_evenOut_191_192 7 rfl)
theorem dX3_evenOut_200 : decode cX3_evenOut 200 = .ok (.iconst 4, 1) := zo_7 (zi_at zh_dX3_evenOut_191_192 8 rfl)
theorem dX3_evenOut_201 : decode cX3_evenOut 201 = .ok (.invokestatic 152, 3) := zo_184 (zi_at zh_dX3_evenOut_191_192 9 rfl) (zi_at zh_dX3_evenOut_191_192 10 rfl) (zi_at zh_dX3_evenOut_191_192 11 rfl) rfl
theorem dX3_evenOut_204 : decode cX3_evenOut 204 = .ok (.iinc 5 1, 3) := zo_132 (zi_at zh_dX3_evenOut_191_192 12 rfl) (zi_at zh_dX3_evenOut_191_192 13 rfl) (zi_at zh_dX3_evenOut_191_192 14 rfl) rfl
theorem dX3_evenOut_207 : decode cX3_evenOut 207 = .ok (.goto (-126), 3) := zo_167 (zi_at zh_dX3_evenOut_191_192 15 rfl) (zi_at zh_dX3_evenOut_207_208 0 rfl) (zi_at zh_dX3_evenOut_207_208 1 rfl) rfl
theorem dX3_evenOut_210 : decode cX3_evenOut 210 = .ok (.return_, 1) := zo_177 (zi_at zh_dX3_evenOut_207_208 2 rfl)
theorem dX3_gatherChanged_0 : decode cX3_gatherChanged 0 = .ok (.aload_n 0, 1) := zo_42 (zi_at zh_dX3_gatherChanged_0_0 0 rfl)
theorem dX3_gatherChanged_1 : decode cX3_gatherChanged 1 = .ok (.iconst 0, 1) := zo_3 (zi_at zh_dX3_gatherChanged_0_0 1 rfl)
theorem dX3_gatherChanged_2 : decode cX3_gatherChanged 2 = .ok (.putfield 158, 3) := zo_181 (zi_at zh_dX3_gatherChanged_0_0 2 rfl) (zi_at zh_dX3_gatherChanged_0_0 3 rfl) (zi_at zh_dX3_gatherChanged_0_0 4 rfl) rfl
theorem dX3_gatherChanged_5 : decode cX3_gatherChanged 5 = .ok (.iconst 0, 1) := zo_3 (zi_at zh_dX3_gatherChanged_0_0 5 rfl)
theorem dX3_gatherChanged_6 : decode cX3_gatherChanged 6 = .ok (.istore_n 2, 1) := zo_61 (zi_at zh_dX3_gatherChanged_0_0 6 rfl)
theorem dX3_gatherChanged_7 : decode cX3_gatherChanged 7 = .ok (.iload_n 2, 1) := zo_28 (zi_at zh_dX3_gatherChanged_0_0 7 rfl)
theorem dX3_gatherChanged_8 : decode cX3_gatherChanged 8 = .ok (.aload_n 0, 1) := zo_42 (zi_at zh_dX3_gatherChanged_0_0 8 rfl)
theorem dX3_gatherChanged_9 : decode cX3_gatherChanged 9 = .ok (.getfield 55, 3) := zo_180 (zi_at zh_dX3_gatherChanged_0_0 9 rfl) (zi_at zh_dX3_gatherChanged_0_0 10 rfl) (zi_at zh_dX3_gatherChanged_0_0 11 rfl) rfl
theorem dX3_gatherChanged_12 : decode cX3_gatherChanged 12 = .ok (.getfield 63, 3) := zo_180 (zi_at zh_dX3_gatherChanged_0_0 12 rfl) (zi_at zh_dX3_gatherChanged_0_0 13 rfl) (zi_at zh_dX3_gatherChanged_0_0 14 rfl) rfl
theorem dX3_gatherChanged_15 : decode cX3_gatherChanged 15 = .ok (.invokevirtual 69, 3) := zo_182 (zi_at zh_dX3_gatherChanged_0_0 15 rfl) (zi_at zh_dX3_gatherChanged_15_16 0 rfl) (zi_at zh_dX3_gatherChanged_15_16 1 rfl) rfl
theorem dX3_gatherChanged_18 : decode cX3_gatherChanged 18 = .ok (.if_icmp .ge 169, 3) := zo_162 (zi_at zh_dX3_gatherChanged_15_16 2 rfl) (zi_at zh_dX3_gatherChanged_15_16 3 rfl) (zi_at zh_dX3_gatherChanged_15_16 4 rfl) rfl
theorem dX3_gatherChanged_21 : decode cX3_gatherChanged 21 = .ok (.aload_n 0, 1) := zo_42 (zi_at zh_dX3_gatherChanged_15_16 5 rfl)
theorem dX3_gatherChanged_22 : decode cX3_gatherChanged 22 = .ok (.getfield 55, 3) := zo_180 (zi_at zh_dX3_gatherChanged_15_16 6 rfl) (zi_at zh_dX3_gatherChanged_15_16 7 rfl) (zi_at zh_dX3_gatherChanged_15_16 8 rfl) rfl
theorem dX3_gatherChanged_25 : decode cX3_gatherChanged 25 = .ok (.getfield 63, 3) := zo_180 (zi_at zh_dX3_gatherChanged_15_16 9 rfl) (zi_at zh_dX3_gatherChanged_15_16 10 rfl) (zi_at zh_dX3_gatherChanged_15_16 11 rfl) rfl
theorem dX3_gatherChanged_28 : decode cX3_gatherChanged 28 = .ok (.iload_n 2, 1) := zo_28 (zi_at zh_dX3_gatherChanged_15_16 12 rfl)
theorem dX3_gatherChanged_29 : decode cX3_gatherChanged 29 = .ok (.invokevirtual 99, 3) := zo_182 (zi_at zh_dX3_gatherChanged_15_16 13 rfl) (zi_at zh_dX3_gatherChanged_15_16 14 rfl) (zi_at zh_dX3_gatherChanged_15_16 15 rfl) rfl
theorem dX3_gatherChanged_32 : decode cX3_gatherChanged 32 = .ok (.checkcast 103, 3) := zo_192 (zi_at zh_dX3_gatherChanged_32_32 0 rfl) (zi_at zh_dX3_gatherChanged_32_32 1 rfl) (zi_at zh_dX3_gatherChanged_32_32 2 rfl) rfl
theorem dX3_gatherChanged_35 : decode cX3_gatherChanged 35 = .ok (.getfield 105, 3) := zo_180 (zi_at zh_dX3_gatherChanged_32_32 3 rfl) (zi_at zh_dX3_gatherChanged_32_32 4 rfl) (zi_at zh_dX3_gatherChanged_32_32 5 rfl) rfl
theorem dX3_gatherChanged_38 : decode cX3_gatherChanged 38 = .ok (.ifCond .eq 6, 3) := zo_153 (zi_at zh_dX3_gatherChanged_32_32 6 rfl) (zi_at zh_dX3_gatherChanged_32_32 7 rfl) (zi_at zh_dX3_gatherChanged_32_32 8 rfl) rfl
theorem dX3_gatherChanged_41 : decode cX3_gatherChanged 41 = .ok (.goto 140, 3) := zo_167 (zi_at zh_dX3_gatherChanged_32_32 9 rfl) (zi_at zh_dX3_gatherChanged_32_32 10 rfl) (zi_at zh_dX3_gatherChanged_32_32 11 rfl) rfl
theorem dX3_gatherChanged_44 : decode cX3_gatherChanged 44 = .ok (.iconst 0, 1) := zo_3 (zi_at zh_dX3_gatherChanged_32_32 12 rfl)
theorem dX3_gatherChanged_45 : decode cX3_gatherChanged 45 = .ok (.istore_n 3, 1) := zo_62 (zi_at zh_dX3_gatherChanged_32_32 13 rfl)
theorem dX3_gatherChanged_46 : decode cX3_gatherChanged 46 = .ok (.iconst 0, 1) := zo_3 (zi_at zh_dX3_gatherChanged_32_32 14 rfl)
theorem dX3_gatherChanged_47 : decode cX3_gatherChanged 47 = .ok (.istore 4, 2) := zo_54 (zi_at zh_dX3_gatherChanged_32_32 15 rfl) (zi_at zh_dX3_gatherChanged_47_48 0 rfl)
theorem dX3_gatherChanged_49 : decode cX3_gatherChanged 49 = .ok (.iload 4, 2) := zo_21 (zi_at zh_dX3_gatherChanged_47_48 1 rfl) (zi_at zh_dX3_gatherChanged_47_48 2 rfl)
theorem dX3_gatherChanged_51 : decode cX3_gatherChanged 51 = .ok (.iload_n 1, 1) := zo_27 (zi_at zh_dX3_gatherChanged_47_48 3 rfl)
theorem dX3_gatherChanged_52 : decode cX3_gatherChanged 52 = .ok (.if_icmp .ge 114, 3) := zo_162 (zi_at zh_dX3_gatherChanged_47_48 4 rfl) (zi_at zh_dX3_gatherChanged_47_48 5 rfl) (zi_at zh_dX3_gatherChanged_47_48 6 rfl) rfl
theorem dX3_gatherChanged_55 : decode cX3_gatherChanged 55 = .ok (.iload_n 2, 1) := zo_28 (zi_at zh_dX3_gatherChanged_47_48 7 rfl)
theorem dX3_gatherChanged_56 : decode cX3_gatherChanged 56 = .ok (.aload_n 0, 1) := zo_42 (zi_at zh_dX3_gatherChanged_47_48 8 rfl)
theorem dX3_gatherChanged_57 : decode cX3_gatherChanged 57 = .ok (.getfield 43, 3) := zo_180 (zi_at zh_dX3_gatherChanged_47_48 9 rfl) (zi_at zh_dX3_gatherChanged_47_48 10 rfl) (zi_at zh_dX3_gatherChanged_47_48 11 rfl) rfl
theorem dX3_gatherChanged_60 : decode cX3_gatherChanged 60 = .ok (.iload 4, 2) := zo_21 (zi_at zh_dX3_gatherChanged_47_48 12 rfl) (zi_at zh_dX3_gatherChanged_47_48 13 rfl)
theorem dX3_gatherChanged_62 : decode cX3_gatherChanged 62 = .ok (.iaload, 1) := zo_46 (zi_at zh_dX3_gatherChanged_47_48 14 rfl)
theorem dX3_gatherChanged_63 : decode cX3_gatherChanged 63 = .ok (.invokestatic 89, 3) := zo_184 (zi_at zh_dX3_gatherChanged_47_48 15 rfl) (zi_at zh_dX3_gatherChanged_63_64 0 rfl) (zi_at zh_dX3_gatherChanged_63_64 1 rfl) rfl
theorem dX3_gatherChanged_66 : decode cX3_gatherChanged 66 = .ok (.istore 5, 2) := zo_54 (zi_at zh_dX3_gatherChanged_63_64 2 rfl) (zi_at zh_dX3_gatherChanged_63_64 3 rfl)
theorem dX3_gatherChanged_68 : decode cX3_gatherChanged 68 = .ok (.aload_n 0, 1) := zo_42 (zi_at zh_dX3_gatherChanged_63_64 4 rfl)
theorem dX3_gatherChanged_69 : decode cX3_gatherChanged 69 = .ok (.getfield 11, 3) := zo_180 (zi_at zh_dX3_gatherChanged_63_64 5 rfl) (zi_at zh_dX3_gatherChanged_63_64 6 rfl) (zi_at zh_dX3_gatherChanged_63_64 7 rfl) rfl
theorem dX3_gatherChanged_72 : decode cX3_gatherChanged 72 = .ok (.iload 5, 2) := zo_21 (zi_at zh_dX3_gatherChanged_63_64 8 rfl) (zi_at zh_dX3_gatherChanged_63_64 9 rfl)
theorem dX3_gatherChanged_74 : decode cX3_gatherChanged 74 = .ok (.baload, 1) := zo_51 (zi_at zh_dX3_gatherChanged_63_64 10 rfl)
theorem dX3_gatherChanged_75 : decode cX3_gatherChanged 75 = .ok (.ifCond .eq 6, 3) := zo_153 (zi_at zh_dX3_gatherChanged_63_64 11 rfl) (zi_at zh_dX3_gatherChanged_63_64 12 rfl) (zi_at zh_dX3_gatherChanged_63_64 13 rfl) rfl
theorem dX3_gatherChanged_78 : decode cX3_gatherChanged 78 = .ok (.iinc 3 1, 3) := zo_132 (zi_at zh_dX3_gatherChanged_63_64 14 rfl) (zi_at zh_dX3_gatherChanged_63_64 15 rfl) (zi_at zh_dX3_gatherChanged_78_80 0 rfl) rfl
theorem dX3_gatherChanged_81 : decode cX3_gatherChanged 81 = .ok (.iconst 0, 1) := zo_3 (zi_at zh_dX3_gatherChanged_78_80 1 rfl)
theorem dX3_gatherChanged_82 : decode cX3_gatherChanged 82 = .ok (.istore 6, 2) := zo_54 (zi_at zh_dX3_gatherChanged_78_80 2 rfl) (zi_at zh_dX3_gatherChanged_78_80 3 rfl)
theorem dX3_gatherChanged_84 : decode cX3_gatherChanged 84 = .ok (.iload 6, 2) := zo_21 (zi_at zh_dX3_gatherChanged_78_80 4 rfl) (zi_at zh_dX3_gatherChanged_78_80 5 rfl)
theorem dX3_gatherChanged_86 : decode cX3_gatherChanged 86 = .ok (.bipush 7, 2) := zo_16 (zi_at zh_dX3_gatherChanged_78_80 6 rfl) (zi_at zh_dX3_gatherChanged_78_80 7 rfl) rfl
theorem dX3_gatherChanged_88 : decode cX3_gatherChanged 88 = .ok (.if_icmp .ge 72, 3) := zo_162 (zi_at zh_dX3_gatherChanged_78_80 8 rfl) (zi_at zh_dX3_gatherChanged_78_80 9 rfl) (zi_at zh_dX3_gatherChanged_78_80 10 rfl) rfl
theorem dX3_gatherChanged_91 : decode cX3_gatherChanged 91 = .ok (.iconst 1, 1) := zo_4 (zi_at zh_dX3_gatherChanged_78_80 11 rfl)
theorem dX3_gatherChanged_92 : decode cX3_gatherChanged 92 = .ok (.aload_n 0, 1) := zo_42 (zi_at zh_dX3_gatherChanged_78_80 12 rfl)
theorem dX3_gatherChanged_93 : decode cX3_gatherChanged 93 = .ok (.getfield 19, 3) := zo_180 (zi_at zh_dX3_gatherChanged_78_80 13 rfl) (zi_at zh_dX3_gatherChanged_78_80 14 rfl) (zi_at zh_dX3_gatherChanged_78_80 15 rfl) rfl
theorem dX3_gatherChanged_96 : decode cX3_gatherChanged 96 = .ok (.iload 5, 2) := zo_21 (zi_at zh_dX3_gatherChanged_96_96 0 rfl) (zi_at zh_dX3_gatherChanged_96_96 1 rfl)
theorem dX3_gatherChanged_98 : decode cX3_gatherChanged 98 = .ok (.iaload, 1) := zo_46 (zi_at zh_dX3_gatherChanged_96_96 2 rfl)
theorem dX3_gatherChanged_99 : decode cX3_gatherChanged 99 = .ok (.iload 6, 2) := zo_21 (zi_at zh_dX3_gatherChanged_96_96 3 rfl) (zi_at zh_dX3_gatherChanged_96_96 4 rfl)
theorem dX3_gatherChanged_101 : decode cX3_gatherChanged 101 = .ok (.iadd, 1) := zo_96 (zi_at zh_dX3_gatherChanged_96_96 5 rfl)
theorem dX3_gatherChanged_102 : decode cX3_gatherChanged 102 = .ok (.iconst 3, 1) := zo_6 (zi_at zh_dX3_gatherChanged_96_96 6 rfl)
theorem dX3_gatherChanged_103 : decode cX3_gatherChanged 103 = .ok (.isub, 1) := zo_100 (zi_at zh_dX3_gatherChanged_96_96 7 rfl)
theorem dX3_gatherChanged_104 : decode cX3_gatherChanged 104 = .ok (.invokestatic 129, 3) := zo_184 (zi_at zh_dX3_gatherChanged_96_96 8 rfl) (zi_at zh_dX3_gatherChanged_96_96 9 rfl) (zi_at zh_dX3_gatherChanged_96_96 10 rfl) rfl
theorem dX3_gatherChanged_107 : decode cX3_gatherChanged 107 = .ok (.istore 7, 2) := zo_54 (zi_at zh_dX3_gatherChanged_96_96 11 rfl) (zi_at zh_dX3_gatherChanged_96_96 12 rfl)
theorem dX3_gatherChanged_109 : decode cX3_gatherChanged 109 = .ok (.aload_n 0, 1) := zo_42 (zi_at zh_dX3_gatherChanged_96_96 13 rfl)
theorem dX3_gatherChanged_110 : decode cX3_gatherChanged 110 = .ok (.getfield 40, 3) := zo_180 (zi_at zh_dX3_gatherChanged_96_96 14 rfl) (zi_at zh_dX3_gatherChanged_96_96 15 rfl) (zi_at zh_dX3_gatherChanged_110_112 0 rfl) rfl
theorem dX3_gatherChanged_113 : decode cX3_gatherChanged 113 = .ok (.aload_n 0, 1) := zo_42 (zi_at zh_dX3_gatherChanged_110_112 1 rfl)
theorem dX3_gatherChanged_114 : decode cX3_gatherChanged 114 = .ok (.getfield 158, 3) := zo_180 (zi_at zh_dX3_gatherChanged_110_112 2 rfl) (zi_at zh_dX3_gatherChanged_110_112 3 rfl) (zi_at zh_dX3_gatherChanged_110_112 4 rfl) rfl
theorem dX3_gatherChanged_117 : decode cX3_gatherChanged 117 = .ok (.iload 4, 2) := zo_21 (zi_at zh_dX3_gatherChanged_110_112 5 rfl) (zi_at zh_dX3_gatherChanged_110_112 6 rfl)
theorem dX3_gatherChanged_119 : decode cX3_gatherChanged 119 = .ok (.invokestatic 161, 3) := zo_184 (zi_at zh_dX3_gatherChanged_110_112 7 rfl) (zi_at zh_dX3_gatherChanged_110_112 8 rfl) (zi_at zh_dX3_gatherChanged_110_112 9 rfl) rfl
theorem dX3_gatherChanged_122 : decode cX3_gatherChanged 122 = .ok (.iload 6, 2) := zo_21 (zi_at zh_dX3_gatherChanged_110_112 10 rfl) (zi_at zh_dX3_gatherChanged_110_112 11 rfl)
theorem dX3_gatherChanged_124 : decode cX3_gatherChanged 124 = .ok (.iadd, 1) := zo_96 (zi_at zh_dX3_gatherChanged_110_112 12 rfl)
theorem dX3_gatherChanged_125 : decode cX3_gatherChanged 125 = .ok (.aload_n 0, 1) := zo_42 (zi_at zh_dX3_gatherChanged_110_112 13 rfl)
theorem dX3_gatherChanged_126 : decode cX3_gatherChanged 126 = .ok (.getfield 11, 3) := zo_180 (zi_at zh_dX3_gatherChanged_110_112 14 rfl) (zi_at zh_dX3_gatherChanged_110_112 15 rfl) (zi_at zh_dX3_gatherChanged_126_128 0 rfl) rfl
theorem dX3_gatherChanged_129 : decode cX3_gatherChanged 129 = .ok (.iload 5, 2) := zo_21 (zi_at zh_dX3_gatherChanged_126_128 1 rfl) (zi_at zh_dX3_gatherChanged_126_128 2 rfl)
theorem dX3_gatherChanged_131 : decode cX3_gatherChanged 131 = .ok (.baload, 1) := zo_51 (zi_at zh_dX3_gatherChanged_126_128 3 rfl)
theorem dX3_gatherChanged_132 : decode cX3_gatherChanged 132 = .ok (.ifCond .eq 20, 3) := zo_153 (zi_at zh_dX3_gatherChanged_126_128 4 rfl) (zi_at zh_dX3_gatherChanged_126_128 5 rfl) (zi_at zh_dX3_gatherChanged_126_128 6 rfl) rfl
theorem dX3_gatherChanged_135 : decode cX3_gatherChanged 135 = .ok (.aload_n 0, 1) := zo_42 (zi_at zh_dX3_gatherChanged_126_128 7 rfl)
theorem dX3_gatherChanged_136 : decode cX3_gatherChanged 136 = .ok (.getfield 15, 3) := zo_180 (zi_at zh_dX3_gatherChanged_126_128 8 rfl) (zi_at zh_dX3_gatherChanged_126_128 9 rfl) (zi_at zh_dX3_gatherChanged_126_128 10 rfl) rfl
theorem dX3_gatherChanged_139 : decode cX3_gatherChanged 139 = .ok (.iload 5, 2) := zo_21 (zi_at zh_dX3_gatherChanged_126_128 11 rfl) (zi_at zh_dX3_gatherChanged_126_128 12 rfl)
theorem dX3_gatherChanged_141 : decode cX3_gatherChanged 141 = .ok (.iaload, 1) := zo_46 (zi_at zh_dX3_gatherChanged_126_128 13 rfl)
theorem dX3_gatherChanged_142 : decode cX3_gatherChanged 142 = .ok (.iload 7, 2) := zo_21 (zi_at zh_dX3_gatherChanged_126_128 14 rfl) (zi_at zh_dX3_gatherChanged_126_128 15 rfl)
theorem dX3_gatherChanged_144 : decode cX3_gatherChanged 144 = .ok (.imul, 1) := zo_104 (zi_at zh_dX3_gatherChanged_144_144 0 rfl)
theorem dX3_gatherChanged_145 : decode cX3_gatherChanged 145 = .ok (.sipush 1000, 3) := zo_17 (zi_at zh_dX3_gatherChanged_144_144 1 rfl) (zi_at zh_dX3_gatherChanged_144_144 2 rfl) (zi_at zh_dX3_gatherChanged_144_144 3 rfl) rfl
theorem dX3_gatherChanged_148 : decode cX3_gatherChanged 148 = .ok (.idiv, 1) := zo_108 (zi_at zh_dX3_gatherChanged_144_144 4 rfl)
theorem dX3_gatherChanged_149 : decode cX3_gatherChanged 149 = .ok (.goto 4, 3) := zo_167 (zi_at zh_dX3_gatherChanged_144_144 5 rfl) (zi_at zh_dX3_gatherChanged_144_144 6 rfl) (zi_at zh_dX3_gatherChanged_144_144 7 rfl) rfl
theorem dX3_gatherChanged_152 : decode cX3_gatherChanged 152 = .ok (.iconst (-1), 1) := zo_2 (zi_at zh_dX3_gatherChanged_144_144 8 rfl)
theorem dX3_gatherChanged_153 : decode cX3_gatherChanged 153 = .ok (.iastore, 1) := zo_79 (zi_at zh_dX3_gatherChanged_144_144 9 rfl)
theorem dX3_gatherChanged_154 : decode cX3_gatherChanged 154 = .ok (.iinc 6 1, 3) := zo_132 (zi_at zh_dX3_gatherChanged_144_144 10 rfl) (zi_at zh_dX3_gatherChanged_144_144 11 rfl) (zi_at zh_dX3_gatherChanged_144_144 12 rfl) rfl
theorem dX3_gatherChanged_157 : decode cX3_gatherChanged 157 = .ok (.goto (-73), 3) := zo_167 (zi_at zh_dX3_gatherChanged_144_144 13 rfl) (zi_at zh_dX3_gatherChanged_144_144 14 rfl) (zi_at zh_dX3_gatherChanged_144_144 15 rfl) rfl
theorem dX3_gatherChanged_160 : decode cX3_gatherChanged 160 = .ok (.iinc 4 1, 3) := zo_132 (zi_at zh_dX3_gatherChanged_160_160 0 rfl) (zi_at zh_dX3_gatherChanged_160_160 1 rfl) (zi_at zh_dX3_gatherChanged_160_160 2 rfl) rfl
theorem dX3_gatherChanged_163 : decode cX3_gatherChanged 163 = .ok (.goto (-114), 3) := zo_167 (zi_at zh_dX3_gatherChanged_160_160 3 rfl) (zi_at zh_dX3_gatherChanged_160_160 4 rfl) (zi_at zh_dX3_gatherChanged_160_160 5 rfl) rfl
theorem dX3_gatherChanged_166 : decode cX3_gatherChanged 166 = .ok (.iload_n 3, 1) := zo_29 (zi_at zh_dX3_gatherChanged_160_160 6 rfl)
theorem dX3_gatherChanged_167 : decode cX3_gatherChanged 167 = .ok (.iconst 2, 1) := zo_5 (zi_at zh_dX3_gatherChanged_160_160 7 rfl)
theorem dX3_gatherChanged_168 : decode cX3_gatherChanged 168 = .ok (.if_icmp .lt 13, 3) := zo_161 (zi_at zh_dX3_gatherChanged_160_160 8 rfl) (zi_at zh_dX3_gatherChanged_160_160 9 rfl) (zi_at zh_dX3_gatherChanged_160_160 10 rfl) rfl
theorem dX3_gatherChanged_171 : decode cX3_gatherChanged 171 = .ok (.aload_n 0, 1) := zo_42 (zi_at zh_dX3_gatherChanged_160_160 11 rfl)
theorem dX3_gatherChanged_172 : decode cX3_gatherChanged 172 = .ok (.dup, 1) := zo_89 (zi_at zh_dX3_gatherChanged_160_160 12 rfl)
theorem dX3_gatherChanged_173 : decode cX3_gatherChanged 173 = .ok (.getfield 158, 3) := zo_180 (zi_at zh_dX3_gatherChanged_160_160 13 rfl) (zi_at zh_dX3_gatherChanged_160_160 14 rfl) (zi_at zh_dX3_gatherChanged_160_160 15 rfl) rfl
theorem dX3_gatherChanged_176 : decode cX3_gatherChanged 176 = .ok (.iconst 1, 1) := zo_4 (zi_at zh_dX3_gatherChanged_176_176 0 rfl)
theorem dX3_gatherChanged_177 : decode cX3_gatherChanged 177 = .ok (.iadd, 1) := zo_96 (zi_at zh_dX3_gatherChanged_176_176 1 rfl)
theorem dX3_gatherChanged_178 : decode cX3_gatherChanged 178 = .ok (.putfield 158, 3) := zo_181 (zi_at zh_dX3_gatherChanged_176_176 2 rfl) (zi_at zh_dX3_gatherChanged_176_176 3 rfl) (zi_at zh_dX3_gatherChanged_176_176 4 rfl) rfl
theorem dX3_gatherChanged_181 : decode cX3_gatherChanged 181 = .ok (.iinc 2 1, 3) := zo_132 (zi_at zh_dX3_gatherChanged_176_176 5 rfl) (zi_at zh_dX3_gatherChanged_176_176 6 rfl) (zi_at zh_dX3_gatherChanged_176_176 7 rfl) rfl
theorem dX3_gatherChanged_184 : decode cX3_gatherChanged 184 = .ok (.goto (-177), 3) := zo_167 (zi_at zh_dX3_gatherChanged_176_176 8 rfl) (zi_at zh_dX3_gatherChanged_176_176 9 rfl) (zi_at zh_dX3_gatherChanged_176_176 10 rfl) rfl
theorem dX3_gatherChanged_187 : decode cX3_gatherChanged 187 = .ok (.return_, 1) := zo_177 (zi_at zh_dX3_gatherChanged_176_176 11 rfl)
theorem dX3_spreadTried_0 : decode cX3_spreadTried 0 = .ok (.iconst 0, 1) := zo_3 (zi_at zh_dX3_spreadTried_0_0 0 rfl)
theorem dX3_spreadTried_1 : decode cX3_spreadTried 1 = .ok (.istore_n 2, 1) := zo_61 (zi_at zh_dX3_spreadTried_0_0 1 rfl)
theorem dX3_spreadTried_2 : decode cX3_spreadTried 2 = .ok (.iconst 0, 1) := zo_3 (zi_at zh_dX3_spreadTried_0_0 2 rfl)
theorem dX3_spreadTried_3 : decode cX3_spreadTried 3 = .ok (.istore_n 3, 1) := zo_62 (zi_at zh_dX3_spreadTried_0_0 3 rfl)
theorem dX3_spreadTried_4 : decode cX3_spreadTried 4 = .ok (.iload_n 3, 1) := zo_29 (zi_at zh_dX3_spreadTried_0_0 4 rfl)
theorem dX3_spreadTried_5 : decode cX3_spreadTried 5 = .ok (.aload_n 0, 1) := zo_42 (zi_at zh_dX3_spreadTried_0_0 5 rfl)
theorem dX3_spreadTried_6 : decode cX3_spreadTried 6 = .ok (.getfield 158, 3) := zo_180 (zi_at zh_dX3_spreadTried_0_0 6 rfl) (zi_at zh_dX3_spreadTried_0_0 7 rfl) (zi_at zh_dX3_spreadTried_0_0 8 rfl) rfl
theorem dX3_spreadTried_9 : decode cX3_spreadTried 9 = .ok (.if_icmp .ge 99, 3) := zo_162 (zi_at zh_dX3_spreadTried_0_0 9 rfl) (zi_at zh_dX3_spreadTried_0_0 10 rfl) (zi_at zh_dX3_spreadTried_0_0 11 rfl) rfl
theorem dX3_spreadTried_12 : decode cX3_spreadTried 12 = .ok (.iload_n 2, 1) := zo_28 (zi_at zh_dX3_spreadTried_0_0 12 rfl)
theorem dX3_spreadTried_13 : decode cX3_spreadTried 13 = .ok (.aload_n 0, 1) := zo_42 (zi_at zh_dX3_spreadTried_0_0 13 rfl)
theorem dX3_spreadTried_14 : decode cX3_spreadTried 14 = .ok (.getfield 146, 3) := zo_180 (zi_at zh_dX3_spreadTried_0_0 14 rfl) (zi_at zh_dX3_spreadTried_0_0 15 rfl) (zi_at zh_dX3_spreadTried_14_16 0 rfl) rfl
theorem dX3_spreadTried_17 : decode cX3_spreadTried 17 = .ok (.if_icmp .gt 91, 3) := zo_163 (zi_at zh_dX3_spreadTried_14_16 1 rfl) (zi_at zh_dX3_spreadTried_14_16 2 rfl) (zi_at zh_dX3_spreadTried_14_16 3 rfl) rfl
theorem dX3_spreadTried_20 : decode cX3_spreadTried 20 = .ok (.ldc 125, 2) := zo_18 (zi_at zh_dX3_spreadTried_14_16 4 rfl) (zi_at zh_dX3_spreadTried_14_16 5 rfl)
theorem dX3_spreadTried_22 : decode cX3_spreadTried 22 = .ok (.istore 4, 2) := zo_54 (zi_at zh_dX3_spreadTried_14_16 6 rfl) (zi_at zh_dX3_spreadTried_14_16 7 rfl)
theorem dX3_spreadTried_24 : decode cX3_spreadTried 24 = .ok (.iconst 0, 1) := zo_3 (zi_at zh_dX3_spreadTried_14_16 8 rfl)
theorem dX3_spreadTried_25 : decode cX3_spreadTried 25 = .ok (.istore 5, 2) := zo_54 (zi_at zh_dX3_spreadTried_14_16 9 rfl) (zi_at zh_dX3_spreadTried_14_16 10 rfl)
theorem dX3_spreadTried_27 : decode cX3_spreadTried 27 = .ok (.iconst 0, 1) := zo_3 (zi_at zh_dX3_spreadTried_14_16 11 rfl)
theorem dX3_spreadTried_28 : decode cX3_spreadTried 28 = .ok (.istore 6, 2) := zo_54 (zi_at zh_dX3_spreadTried_14_16 12 rfl) (zi_at zh_dX3_spreadTried_14_16 13 rfl)
theorem dX3_spreadTried_30 : decode cX3_spreadTried 30 = .ok (.iload 6, 2) := zo_21 (zi_at zh_dX3_spreadTried_14_16 14 rfl) (zi_at zh_dX3_spreadTried_14_16 15 rfl)
theorem dX3_spreadTried_32 : decode cX3_spreadTried 32 = .ok (.iload_n 1, 1) := zo_27 (zi_at zh_dX3_spreadTried_32_32 0 rfl)
theorem dX3_spreadTried_33 : decode cX3_spreadTried 33 = .ok (.if_icmp .ge 61, 3) := zo_162 (zi_at zh_dX3_spreadTried_32_32 1 rfl) (zi_at zh_dX3_spreadTried_32_32 2 rfl) (zi_at zh_dX3_spreadTried_32_32 3 rfl) rfl
theorem dX3_spreadTried_36 : decode cX3_spreadTried 36 = .ok (.aload_n 0, 1) := zo_42 (zi_at zh_dX3_spreadTried_32_32 4 rfl)
theorem dX3_spreadTried_37 : decode cX3_spreadTried 37 = .ok (.getfield 40, 3) := zo_180 (zi_at zh_dX3_spreadTried_32_32 5 rfl) (zi_at zh_dX3_spreadTried_32_32 6 rfl) (zi_at zh_dX3_spreadTried_32_32 7 rfl) rfl
theorem dX3_spreadTried_40 : decode cX3_spreadTried 40 = .ok (.iload_n 3, 1) := zo_29 (zi_at zh_dX3_spreadTried_32_32 8 rfl)
theorem dX3_spreadTried_41 : decode cX3_spreadTried 41 = .ok (.iload 6, 2) := zo_21 (zi_at zh_dX3_spreadTried_32_32 9 rfl) (zi_at zh_dX3_spreadTried_32_32 10 rfl)
theorem dX3_spreadTried_43 : decode cX3_spreadTried 43 = .ok (.invokestatic 161, 3) := zo_184 (zi_at zh_dX3_spreadTried_32_32 11 rfl) (zi_at zh_dX3_spreadTried_32_32 12 rfl) (zi_at zh_dX3_spreadTried_32_32 13 rfl) rfl
theorem dX3_spreadTried_46 : decode cX3_spreadTried 46 = .ok (.aload_n 0, 1) := zo_42 (zi_at zh_dX3_spreadTried_32_32 14 rfl)
theorem dX3_spreadTried_47 : decode cX3_spreadTried 47 = .ok (.getfield 46, 3) := zo_180 (zi_at zh_dX3_spreadTried_32_32 15 rfl) (zi_at zh_dX3_spreadTried_47_48 0 rfl) (zi_at zh_dX3_spreadTried_47_48 1 rfl) rfl
theorem dX3_spreadTried_50 : decode cX3_spreadTried 50 = .ok (.iload 6, 2) := zo_21 (zi_at zh_dX3_spreadTried_47_48 2 rfl) (zi_at zh_dX3_spreadTried_47_48 3 rfl)
theorem dX3_spreadTried_52 : decode cX3_spreadTried 52 = .ok (.iaload, 1) := zo_46 (zi_at zh_dX3_spreadTried_47_48 4 rfl)
theorem dX3_spreadTried_53 : decode cX3_spreadTried 53 = .ok (.iadd, 1) := zo_96 (zi_at zh_dX3_spreadTried_47_48 5 rfl)
theorem dX3_spreadTried_54 : decode cX3_spreadTried 54 = .ok (.iaload, 1) := zo_46 (zi_at zh_dX3_spreadTried_47_48 6 rfl)
theorem dX3_spreadTried_55 : decode cX3_spreadTried 55 = .ok (.istore 7, 2) := zo_54 (zi_at zh_dX3_spreadTried_47_48 7 rfl) (zi_at zh_dX3_spreadTried_47_48 8 rfl)
theorem dX3_spreadTried_57 : decode cX3_spreadTried 57 = .ok (.iload 7, 2) := zo_21 (zi_at zh_dX3_spreadTried_47_48 9 rfl) (zi_at zh_dX3_spreadTried_47_48 10 rfl)
theorem dX3_spreadTried_59 : decode cX3_spreadTried 59 = .ok (.iconst (-1), 1) := zo_2 (zi_at zh_dX3_spreadTried_47_48 11 rfl)
theorem dX3_spreadTried_60 : decode cX3_spreadTried 60 = .ok (.if_icmp .ne 6, 3) := zo_160 (zi_at zh_dX3_spreadTried_47_48 12 rfl) (zi_at zh_dX3_spreadTried_47_48 13 rfl) (zi_at zh_dX3_spreadTried_47_48 14 rfl) rfl
theorem dX3_spreadTried_63 : decode cX3_spreadTried 63 = .ok (.goto 25, 3) := zo_167 (zi_at zh_dX3_spreadTried_47_48 15 rfl) (zi_at zh_dX3_spreadTried_63_64 0 rfl) (zi_at zh_dX3_spreadTried_63_64 1 rfl) rfl
theorem dX3_spreadTried_66 : decode cX3_spreadTried 66 = .ok (.iload 7, 2) := zo_21 (zi_at zh_dX3_spreadTried_63_64 2 rfl) (zi_at zh_dX3_spreadTried_63_64 3 rfl)
theorem dX3_spreadTried_68 : decode cX3_spreadTried 68 = .ok (.iload 4, 2) := zo_21 (zi_at zh_dX3_spreadTried_63_64 4 rfl) (zi_at zh_dX3_spreadTried_63_64 5 rfl)
theorem dX3_spreadTried_70 : decode cX3_spreadTried 70 = .ok (.if_icmp .ge 7, 3) := zo_162 (zi_at zh_dX3_spreadTried_63_64 6 rfl) (zi_at zh_dX3_spreadTried_63_64 7 rfl) (zi_at zh_dX3_spreadTried_63_64 8 rfl) rfl
theorem dX3_spreadTried_73 : decode cX3_spreadTried 73 = .ok (.iload 7, 2) := zo_21 (zi_at zh_dX3_spreadTried_63_64 9 rfl) (zi_at zh_dX3_spreadTried_63_64 10 rfl)
theorem dX3_spreadTried_75 : decode cX3_spreadTried 75 = .ok (.istore 4, 2) := zo_54 (zi_at zh_dX3_spreadTried_63_64 11 rfl) (zi_at zh_dX3_spreadTried_63_64 12 rfl)
theorem dX3_spreadTried_77 : decode cX3_spreadTried 77 = .ok (.iload 7, 2) := zo_21 (zi_at zh_dX3_spreadTried_63_64 13 rfl) (zi_at zh_dX3_spreadTried_63_64 14 rfl)
theorem dX3_spreadTried_79 : decode cX3_spreadTried 79 = .ok (.iload 5, 2) := zo_21 (zi_at zh_dX3_spreadTried_63_64 15 rfl) (zi_at zh_dX3_spreadTried_79_80 0 rfl)
theorem dX3_spreadTried_81 : decode cX3_spreadTried 81 = .ok (.if_icmp .le 7, 3) := zo_164 (zi_at zh_dX3_spreadTried_79_80 1 rfl) (zi_at zh_dX3_spreadTried_79_80 2 rfl) (zi_at zh_dX3_spreadTried_79_80 3 rfl) rfl
theorem dX3_spreadTried_84 : decode cX3_spreadTried 84 = .ok (.iload 7, 2) := zo_21 (zi_at zh_dX3_spreadTried_79_80 4 rfl) (zi_at zh_dX3_spreadTried_79_80 5 rfl)
theorem dX3_spreadTried_86 : decode cX3_spreadTried 86 = .ok (.istore 5, 2) := zo_54 (zi_at zh_dX3_spreadTried_79_80 6 rfl) (zi_at zh_dX3_spreadTried_79_80 7 rfl)
theorem dX3_spreadTried_88 : decode cX3_spreadTried 88 = .ok (.iinc 6 1, 3) := zo_132 (zi_at zh_dX3_spreadTried_79_80 8 rfl) (zi_at zh_dX3_spreadTried_79_80 9 rfl) (zi_at zh_dX3_spreadTried_79_80 10 rfl) rfl
theorem dX3_spreadTried_91 : decode cX3_spreadTried 91 = .ok (.goto (-61), 3) := zo_167 (zi_at zh_dX3_spreadTried_79_80 11 rfl) (zi_at zh_dX3_spreadTried_79_80 12 rfl) (zi_at zh_dX3_spreadTried_79_80 13 rfl) rfl
theorem dX3_spreadTried_94 : decode cX3_spreadTried 94 = .ok (.iload_n 2, 1) := zo_28 (zi_at zh_dX3_spreadTried_79_80 14 rfl)
theorem dX3_spreadTried_95 : decode cX3_spreadTried 95 = .ok (.iload 5, 2) := zo_21 (zi_at zh_dX3_spreadTried_79_80 15 rfl) (zi_at zh_dX3_spreadTried_95_96 0 rfl)
theorem dX3_spreadTried_97 : decode cX3_spreadTried 97 = .ok (.iload 4, 2) := zo_21 (zi_at zh_dX3_spreadTried_95_96 1 rfl) (zi_at zh_dX3_spreadTried_95_96 2 rfl)
theorem dX3_spreadTried_99 : decode cX3_spreadTried 99 = .ok (.isub, 1) := zo_100 (zi_at zh_dX3_spreadTried_95_96 3 rfl)
theorem dX3_spreadTried_100 : decode cX3_spreadTried 100 = .ok (.iadd, 1) := zo_96 (zi_at zh_dX3_spreadTried_95_96 4 rfl)
theorem dX3_spreadTried_101 : decode cX3_spreadTried 101 = .ok (.istore_n 2, 1) := zo_61 (zi_at zh_dX3_spreadTried_95_96 5 rfl)
theorem dX3_spreadTried_102 : decode cX3_spreadTried 102 = .ok (.iinc 3 1, 3) := zo_132 (zi_at zh_dX3_spreadTried_95_96 6 rfl) (zi_at zh_dX3_spreadTried_95_96 7 rfl) (zi_at zh_dX3_spreadTried_95_96 8 rfl) rfl
theorem dX3_spreadTried_105 : decode cX3_spreadTried 105 = .ok (.goto (-101), 3) := zo_167 (zi_at zh_dX3_spreadTried_95_96 9 rfl) (zi_at zh_dX3_spreadTried_95_96 10 rfl) (zi_at zh_dX3_spreadTried_95_96 11 rfl) rfl
theorem dX3_spreadTried_108 : decode cX3_spreadTried 108 = .ok (.iload_n 2, 1) := zo_28 (zi_at zh_dX3_spreadTried_95_96 12 rfl)
theorem dX3_spreadTried_109 : decode cX3_spreadTried 109 = .ok (.ireturn, 1) := zo_172 (zi_at zh_dX3_spreadTried_95_96 13 rfl)
theorem dX3_bestChangeOf_0 : decode cX3_bestChangeOf 0 = .ok (.iconst 0, 1) := zo_3 (zi_at zh_dX3_bestChangeOf_0_0 0 rfl)
theorem dX3_bestChangeOf_1 : decode cX3_bestChangeOf 1 = .ok (.istore_n 2, 1) := zo_61 (zi_at zh_dX3_bestChangeOf_0_0 1 rfl)
theorem dX3_bestChangeOf_2 : decode cX3_bestChangeOf 2 = .ok (.iload_n 2, 1) := zo_28 (zi_at zh_dX3_bestChangeOf_0_0 2 rfl)
theorem dX3_bestChangeOf_3 : decode cX3_bestChangeOf 3 = .ok (.iconst 4, 1) := zo_7 (zi_at zh_dX3_bestChangeOf_0_0 3 rfl)
theorem dX3_bestChangeOf_4 : decode cX3_bestChangeOf 4 = .ok (.if_icmp .ge 28, 3) := zo_162 (zi_at zh_dX3_bestChangeOf_0_0 4 rfl) (zi_at zh_dX3_bestChangeOf_0_0 5 rfl) (zi_at zh_dX3_bestChangeOf_0_0 6 rfl) rfl
theorem dX3_bestChangeOf_7 : decode cX3_bestChangeOf 7 = .ok (.aload_n 0, 1) := zo_42 (zi_at zh_dX3_bestChangeOf_0_0 7 rfl)
theorem dX3_bestChangeOf_8 : decode cX3_bestChangeOf 8 = .ok (.getfield 43, 3) := zo_180 (zi_at zh_dX3_bestChangeOf_0_0 8 rfl) (zi_at zh_dX3_bestChangeOf_0_0 9 rfl) (zi_at zh_dX3_bestChangeOf_0_0 10 rfl) rfl
theorem dX3_bestChangeOf_11 : decode cX3_bestChangeOf 11 = .ok (.iload_n 2, 1) := zo_28 (zi_at zh_dX3_bestChangeOf_0_0 11 rfl)
theorem dX3_bestChangeOf_12 : decode cX3_bestChangeOf 12 = .ok (.iaload, 1) := zo_46 (zi_at zh_dX3_bestChangeOf_0_0 12 rfl)
theorem dX3_bestChangeOf_13 : decode cX3_bestChangeOf 13 = .ok (.iload_n 1, 1) := zo_27 (zi_at zh_dX3_bestChangeOf_0_0 13 rfl)
theorem dX3_bestChangeOf_14 : decode cX3_bestChangeOf 14 = .ok (.if_icmp .ne 12, 3) := zo_160 (zi_at zh_dX3_bestChangeOf_0_0 14 rfl) (zi_at zh_dX3_bestChangeOf_0_0 15 rfl) (zi_at zh_dX3_bestChangeOf_14_16 0 rfl) rfl
theorem dX3_bestChangeOf_17 : decode cX3_bestChangeOf 17 = .ok (.aload_n 0, 1) := zo_42 (zi_at zh_dX3_bestChangeOf_14_16 1 rfl)
theorem dX3_bestChangeOf_18 : decode cX3_bestChangeOf 18 = .ok (.getfield 49, 3) := zo_180 (zi_at zh_dX3_bestChangeOf_14_16 2 rfl) (zi_at zh_dX3_bestChangeOf_14_16 3 rfl) (zi_at zh_dX3_bestChangeOf_14_16 4 rfl) rfl
theorem dX3_bestChangeOf_21 : decode cX3_bestChangeOf 21 = .ok (.iload_n 2, 1) := zo_28 (zi_at zh_dX3_bestChangeOf_14_16 5 rfl)
theorem dX3_bestChangeOf_22 : decode cX3_bestChangeOf 22 = .ok (.iaload, 1) := zo_46 (zi_at zh_dX3_bestChangeOf_14_16 6 rfl)
theorem dX3_bestChangeOf_23 : decode cX3_bestChangeOf 23 = .ok (.iconst 3, 1) := zo_6 (zi_at zh_dX3_bestChangeOf_14_16 7 rfl)
theorem dX3_bestChangeOf_24 : decode cX3_bestChangeOf 24 = .ok (.isub, 1) := zo_100 (zi_at zh_dX3_bestChangeOf_14_16 8 rfl)
theorem dX3_bestChangeOf_25 : decode cX3_bestChangeOf 25 = .ok (.ireturn, 1) := zo_172 (zi_at zh_dX3_bestChangeOf_14_16 9 rfl)
theorem dX3_bestChangeOf_26 : decode cX3_bestChangeOf 26 = .ok (.iinc 2 1, 3) := zo_132 (zi_at zh_dX3_bestChangeOf_14_16 10 rfl) (zi_at zh_dX3_bestChangeOf_14_16 11 rfl) (zi_at zh_dX3_bestChangeOf_14_16 12 rfl) rfl
theorem dX3_bestChangeOf_29 : decode cX3_bestChangeOf 29 = .ok (.goto (-27), 3) := zo_167 (zi_at zh_dX3_bestChangeOf_14_16 13 rfl) (zi_at zh_dX3_bestChangeOf_14_16 14 rfl) (zi_at zh_dX3_bestChangeOf_14_16 15 rfl) rfl
theorem dX3_bestChangeOf_32 : decode cX3_bestChangeOf 32 = .ok (.ldc 108, 2) := zo_18 (zi_at zh_dX3_bestChangeOf_32_32 0 rfl) (zi_at zh_dX3_bestChangeOf_32_32 1 rfl)
theorem dX3_bestChangeOf_34 : decode cX3_bestChangeOf 34 = .ok (.ireturn, 1) := zo_172 (zi_at zh_dX3_bestChangeOf_32_32 2 rfl)
theorem hz_yX9_read_2 : yX9_read.cls ≠ "java/lang/invoke/MethodHandle" ∧ yX9_read.cls ≠ "java/lang/invoke/VarHandle" ∧ (parseMethodDescriptor yX9_read.desc).map (fun d => d.parameters.length) = some 2 := by decide +kernel
theorem hz_yX12_cell_2 : yX12_cell.cls ≠ "java/lang/invoke/MethodHandle" ∧ yX12_cell.cls ≠ "java/lang/invoke/VarHandle" ∧ (parseMethodDescriptor yX12_cell.desc).map (fun d => d.parameters.length) = some 2 := by decide +kernel
theorem hz_yX3_load_1 : yX3_load.cls ≠ "java/lang/invoke/MethodHandle" ∧ yX3_load.cls ≠ "java/lang/invoke/VarHandle" ∧ (parseMethodDescriptor yX3_load.desc).map (fun d => d.parameters.length) = some 1 := by decide +kernel
theorem hz_yX3_rowOf_2 : yX3_rowOf.cls ≠ "java/lang/invoke/MethodHandle" ∧ yX3_rowOf.cls ≠ "java/lang/invoke/VarHandle" ∧ (parseMethodDescriptor yX3_rowOf.desc).map (fun d => d.parameters.length) = some 2 := by decide +kernel
theorem hz_yX3_gatherChanged_1 : yX3_gatherChanged.cls ≠ "java/lang/invoke/MethodHandle" ∧ yX3_gatherChanged.cls ≠ "java/lang/invoke/VarHandle" ∧ (parseMethodDescriptor yX3_gatherChanged.desc).map (fun d => d.parameters.length) = some 1 := by decide +kernel
theorem hz_yX3_spreadTried_1 : yX3_spreadTried.cls ≠ "java/lang/invoke/MethodHandle" ∧ yX3_spreadTried.cls ≠ "java/lang/invoke/VarHandle" ∧ (parseMethodDescriptor yX3_spreadTried.desc).map (fun d => d.parameters.length) = some 1 := by decide +kernel

section THY
variable {p : Program} {l : Launch} {e : Env} {R : Room} {s : State} {m : MethodId} {args : Array Value} {below : List Frame} {meth : Method} {c : Code} {H : Heap} {locs : List Loc} {cells slots : Nat} {Q : State → Prop}
variable {pc : Nat} {ls : Array Slot} {rest : List Value} {cc : ByteArray} {dC : Nat → ClassId} {dI : Nat → Nat → Nat} {cT : Nat → ClassId} {sh : Nat → Nat × Nat × Nat} {sp : Nat → Nat → Nat × Int × Int} {L : List Nat} {ad : Nat → Nat} {E : Nat → va_E} {tys : List (ClassId × FieldType)} {A : Nat → Prop} {H0 : Heap}
/-- the first n of a row of ints to another -/
theorem th_cpyL (hx : p.tables.exec = Jvm.exec) (hb : c.code = cc) (hml : c.maxLocals = ls.size) {own : String} {index : Nat} (hown : s.vm.findClass own = some m.cls) (hlink : (Cond.methodLink own index arraycopyName).before args s = true) (hnat : (Cond.native arraycopyName).before args s = true) (hstat : (Cond.static arraycopyName).before args s = true) (hini : (Cond.initialized "java/lang/System").before args s = true)
    (hK : va_K (dC, dI) vwCl tys s) (hP : va_P (dC, dI) vwCl (WL L ad E) H) (hD : va_D A (WL L ad E)) (hS : va_S A H0 H locs) (hI : IXL cT sh sp L ad E) (o0 : Nat) (ho0 : o0 ∈ L) {n0 : Nat} (hs0 : sh o0 = (1, 0, n0)) (o1 : Nat) (ho1 : o1 ∈ L) {n1 : Nat} (hs1 : sh o1 = (1, 0, n1)) (ht : tys[0]? = some (cT 0, .int)) {lo hi : Int} (hp0 : ∀ j, sp o0 j = (0, lo, hi)) (hp1 : ∀ j, sp o1 j = (0, lo, hi)) {n : Int32} (h3 : ¬ n < 0) (h4 : n.toNatClampNeg ≤ n0) (h5 : n.toNatClampNeg ≤ n1)
    (hframes : 1 ≤ R.frames) (hlocals : (rest.map fun v => v.category).sum + (nativeFrameWords "java/lang/System" "arraycopy" 5 + 11) ≤ R.locals) (hdg : decode cc pc = .ok (.invokestatic index, 3))
    (kk : ∀ (H1 : Heap) (locs1 : List Loc) (E1 : Nat → va_E), Kp (wl [o1] []) E E1 → xi (E1 o1) = va_cpy (xi (E o0)) (xi (E o1)) 0 0 n.toNatClampNeg → IXL cT sh sp L ad E1 → va_P (dC, dI) vwCl (WL L ad E1) H1 → va_S A H0 H1 locs1 → W p l e R s m args below meth c H1 locs1 cells slots Q (F0 m (pc + 3) ls rest)) : W p l e R s m args below meth c H locs cells slots Q (F0 m pc ls (.int n :: .int 0 :: .ref (ad o1) :: .int 0 :: .ref (ad o0) :: rest)) := by
  refine va_copyi hx hb hml hown hlink hnat hstat hini hK hP hD hS (posL o0 L) (posL o1 L) 0 0 (hI.ar o0 ho0 hs0) (hI.ar o1 ho1 hs1) ht ht rfl (sp := 0) (dp := 0) (by decide) (by decide) h3 (by show 0 + _ ≤ _; omega) (by show 0 + _ ≤ _; omega) (fun _ _ => rfl) hframes hlocals hdg (fun H1 locs1 q1 _ q3 => ?_)
  rw [WL_set hI.1 ho1, show (0 : Int32).toNatClampNeg = 0 from rfl] at q1
  have e1 : ∀ j, xv (va_up E o1 (.inl (cT 0, n1, .inl (va_cpy (xi (E o0)) (xi (E o1)) 0 0 n.toNatClampNeg))) o1) j = .int (va_cpy (xi (E o0)) (xi (E o1)) 0 0 n.toNatClampNeg j) := by
    intro j
    rw [va_up_self]
    rfl
  refine kk H1 locs1 _ (fun o j hw => ?_) (funext fun j => ?_) ⟨hI.1, fun o ho => ?_⟩ q1 q3
  · have hne : o ≠ o1 := by
      intro e
      rw [e] at hw
      simp [wl] at hw
    rw [va_up_ne _ _ hne]
  · show vi (xv _ j) = _
    rw [e1]
    rfl
  · by_cases hne : o = o1
    · subst hne
      rw [hs1]
      refine ⟨?_, fun j hj => ?_⟩
      · rw [va_up_self]
        rfl
      · rw [e1, hp1]
        have hj : j < n1 := hj
        have b1 := hI.iv o ho hs1 hj (hp1 j)
        refine ⟨rfl, ?_⟩
        show lo ≤ (va_cpy (xi (E o0)) (xi (E o)) 0 0 n.toNatClampNeg j).toInt ∧ _
        unfold va_cpy
        split
        · rename_i h
          have b0 := hI.iv o0 ho0 hs0 (j := 0 + (j - 0)) (by omega) (hp0 _)
          exact b0
        · exact b1
    · rw [va_up_ne _ _ hne]
      exact hI.2 o ho
end THY
def v_load : List Cond := .code yX3_load cX3_load 4 none :: vA
abbrev rm_load : Room := { frames := 6, cells := 0, slots := 0, locals := 240 }
def w_load : Nat → Nat → Bool := wl [19, 20, 26, 27, 28, 29, 30, 43, 44, 45, 46] [(3, 6), (3, 7), (3, 8)]
set_option maxHeartbeats 4000000 in
set_option maxRecDepth 100000 in
theorem q_load (l : Launch) (dC : Nat → ClassId) (dI : Nat → Nat → Nat) (cT : Nat → ClassId) (cf : Nat → Nat) (hC : CF cf) (ad : Nat → Nat) (E : Nat → va_E) (sz : Nat) (a0 : Int32) (hI0 : IXL cT (shC cf) (spC cf) (LC cf) ad E) (hh0 : 0 ≤ a0.toInt ∧ a0.toInt ≤ 19) (hh1 : a0.toInt < ((cf 2 : Nat) : Int)) : Met l yX3_load v_load rm_load (va_Pc [.ref (ad 6), .int a0] (HWL dC dI (TYC cT) cf ad E sz)) (va_Qv (S := Nat → va_E) (fun u => IXL cT (shC cf) (spC cf) (LC cf) ad u ∧ Kp w_load E u ∧ (True)) (HBL dC dI (LC cf) ad) (va_A (WL (LC cf) ad E) sz)) 0 0 (va_A (WL (LC cf) ad E) sz) := by
  obtain ⟨⟨hc0, hc1, hc2, hc3, hc4, hc5⟩, hcr⟩ := id hC
  refine Met.ofW (cc := cX3_load) (maxL := 4) (ret := none) (by decide) rfl ?_
  intro p e s m args below meth c s₁ B hml hv
  obtain ⟨hargs, hsz, hP, hK, hD0, hEV⟩ := hv
  subst hsz
  have hx := B.exec
  have hb := B.bytes
  have hr := B.returns
  have hts := atoms_spec (ws := v_load) B.pre
  have hown : s.vm.findClass RX3 = some m.cls := findClass_of_methodNamed B.named
  have hlocks := B.notSynchronized
  have hinX0 : ∀ w ∈ u_ws RX0 TX0 11, w ∈ v_load := fun w h => vA_in _ w (in_X0 w h)
  have hinX3 : ∀ w ∈ u_ws RX3 TX3 18, w ∈ v_load := fun w h => vA_in _ w (in_X3 w h)
  have hinX9 : ∀ w ∈ u_ws RX9 TX9 9, w ∈ v_load := fun w h => vA_in _ w (in_X9 w h)
  generalize hAe : va_A (WL (LC cf) ad E) s.heap.size = A at hEV ⊢
  have hA : ∀ q : Nat, s.heap.size ≤ q → A q := fun q h => by rw [← hAe]; exact Or.inr h
  have hD : va_D A (WL (LC cf) ad E) := by rw [← hAe]; exact hD0.self
  have hS : va_S A s.heap s.heap [] := va_S.rf
  have hI := hI0
  have hKp : Kp w_load E E := Kp.rf
  have hl := lv_entry ([.ref (ad 6), .int a0]) (n := 4) (Nat.le_of_ble_eq_true rfl)
  obtain ⟨Q, hQ⟩ : ∃ Q, Q = MQ below (va_Qv (S := Nat → va_E) (fun u => IXL cT (shC cf) (spC cf) (LC cf) ad u ∧ Kp w_load E u ∧ (True)) (HBL dC dI (LC cf) ad) (A)) args s 0 0 (A) := ⟨_, rfl⟩
  rw [← hQ, show entryFrame m args 4 = _ from (congrArg (fun z => entryFrame m z 4) hargs).trans (lg_entry_eq _ _ _)]
  generalize (lg_sl ([.ref (ad 6), .int a0]) ++ List.replicate (4 - (lg_sl ([.ref (ad 6), .int a0])).length) Slot.unset).toArray = ls at hl ⊢
  have hl : lv_has ls 4 [(0, .ref (ad 6)), (1, .int a0)] := hl
  refine lv_aload_n hx hb dX3_load_0 rfl (lv_at hl 0 rfl) ?_
  refine th_getL (ci := 4) (C := RX3) (T := TX3) (N := 18) (v := .ref (ad 3)) hx hb hts hinX3 hown hK hP hI 6 (mF 6 rfl) rfl rfl 1 (Nat.le_of_ble_eq_true rfl) (hts _ (vA_in _ _ (in_11 _ (zs16 (zs4 (zs4 (zs0))))))) (fun _ h9 => h9) (hI.fr 6 (mF 6 rfl) rfl (Nat.le_of_ble_eq_true rfl) 3 rfl) dX3_load_1 ?_
  refine lv_iload_n hx hb dX3_load_4 rfl (lv_at hl 1 rfl) ?_
  refine lv_aload_n hx hb dX3_load_5 rfl (lv_at hl 0 rfl) ?_
  refine th_getL (ci := 4) (C := RX3) (T := TX3) (N := 18) (v := .ref (ad 1)) hx hb hts hinX3 hown hK hP hI 6 (mF 6 rfl) rfl rfl 0 (Nat.le_of_ble_eq_true rfl) (hts _ (vA_in _ _ (in_11 _ (zs16 (zs1 (zs0)))))) (fun _ h9 => h9) (hI.fr 6 (mF 6 rfl) rfl (Nat.le_of_ble_eq_true rfl) 1 rfl) dX3_load_6 ?_
  have i1 : 0 ≤ (xi (E 1) 0).toInt ∧ (xi (E 1) 0).toInt ≤ 400 := hI0.iv 1 (mF 1 rfl) rfl (Nat.le_of_ble_eq_true rfl) rfl
  refine th_getL (ci := 1) (C := RX0) (T := TX0) (N := 11) (v := .int (xi (E 1) 0)) hx hb hts hinX0 hown hK hP hI 1 (mF 1 rfl) rfl rfl 0 (Nat.le_of_ble_eq_true rfl) (hts _ (vA_in _ _ (in_11 _ (zs16 (zs4 (zs4 (zs1 (zs0)))))))) (fun _ h9 => h9) (th_v0L hKp hI0 1 (mF 1 rfl) rfl (Nat.le_of_ble_eq_true rfl) rfl rfl) dX3_load_9 ?_
  refine th_vL (va_runV (As := [.int a0, .int (xi (E 1) 0)]) (rest := []) ⟨hx, hb, hml, hown, hts⟩ (q_readC l dC dI cT cf hC ad E s.heap.size a0 (xi (E 1) 0) hI hh0 (by omega)) (cwV 2 hts (gi_V (in_11 _ (zs16 (zs16 (zs1 (zs1 (zs0)))))) (in_11 _ (zs16 (zs16 (zs1 (zs1 (zs1 (zs0))))))) (in_11 _ (zs16 (zs16 (zs4 (zs0))))) (in_11 _ (zs16 (zs16 (zs4 (zs1 (zs0)))))) (in_11 _ (zs16 (zs16 (zs4 (zs1 (zs1 (zs0)))))))) rfl rfl rfl ⟨rfl, hz_yX9_read_2⟩ ⟨Nat.le_of_ble_eq_true rfl, Nat.le_of_ble_eq_true rfl⟩) ⟨HWL_bl, va_recv hK hP (ci := 10) (q0 := posL 3 (LC cf)) rfl (hI.ob 3 (mF 3 rfl) rfl), (HWL_wi hP hK (WL_D hD) hS hA hEV)⟩ rfl rfl hl.1 rfl (lv_room (Nat.le_of_ble_eq_true rfl)) dX3_load_12 ⟨Nat.le_of_ble_eq_true rfl, Nat.le_of_ble_eq_true rfl⟩) (WL_D hD) hS hA (fun E3 H locs hw hP hS => ?_)
  obtain ⟨hI, kq4, hw⟩ := hw
  have hKb := hKp
  have hKp := hKp.tr kq4 (wl_sub rfl rfl)
  obtain ⟨y5, ey5⟩ : ∃ y, xi (E3 3) 6 = y := ⟨_, rfl⟩
  have fy5 : xv (E3 3) 6 = .int y5 := (hI.fi 3 (mF 3 rfl) rfl (Nat.le_of_ble_eq_true rfl) rfl).trans (congrArg Value.int ey5)
  have i6 : -1 ≤ y5.toInt ∧ y5.toInt ≤ 15 := by rw [← ey5]; exact hI.iv 3 (mF 3 rfl) rfl (Nat.le_of_ble_eq_true rfl) rfl
  have f7 := hw
  try rw [(show xi (E3 3) 6 = y5 from vi_e fy5)] at f7
  refine lv_iconst (v := 0) hx hb dX3_load_15 (by decide) ?_
  refine lv_istore_n (lv' := [(2, .int 0), (0, .ref (ad 6)), (1, .int a0)]) hx hb dX3_load_16 rfl hl (by decide) rfl (fun ls hl => ?_)
  have hL17 : ∀ d : Nat, ∀ (v17_2 : Int32) (E17_ : Nat → va_E) (H : Heap) (locs : List Loc) (ls : Array Slot), 0 ≤ v17_2.toInt ∧ v17_2.toInt ≤ 16 → 16 - v17_2.toInt < (d : Int) → IXL cT (shC cf) (spC cf) (LC cf) ad E17_ → Kp w_load E E17_ → xv (E17_ 3) 6 = .int y5 → va_P (dC, dI) vwCl (WL (LC cf) ad E17_) H → va_S A s.heap H locs → lv_has ls 4 [(2, .int v17_2), (0, .ref (ad 6)), (1, .int a0)] → W p l e (headSpec v_load rm_load).room s m args below meth c H locs 0 0 Q (F0 m 17 ls []) := by
    intro d
    induction d with
    | zero =>
      intro v17_2 E17_ H locs ls hv17_2 hx17_0 hI hKp hs17_3_6 hP hS hl
      exact absurd hx17_0 (by first | exact ms_zu hv17_2.2 | omega)
    | succ d ih17 =>
      intro v17_2 E17_ H locs ls hv17_2 hx17_0 hI hKp hs17_3_6 hP hS hl
      refine lv_iload_n hx hb dX3_load_17 rfl (lv_at hl 0 rfl) ?_
      refine lv_bipush (v := 16) hx hb dX3_load_18 (by decide) ?_
      refine lv_icmp_ge (tgt := 103) hx hb dX3_load_20 (by decide) (fun c8 => ?_) (fun c8 => ?_)
      · --20 taken
        have t9 : (16 : Int) ≤ v17_2.toInt := ti_le c8
        have i10 : 16 ≤ v17_2.toInt ∧ v17_2.toInt ≤ 16 := iv_le_r t9 (il_ 16) hv17_2 (by decide)
        rw [hQ]
        exact W.vret hx hb hr (fun t ht hW => ⟨⟨E17_, rfl, ⟨hI, hKp, trivial⟩, by show va_P (dC, dI) vwCl (WL (LC cf) ad E17_) t.heap; rw [ht]; exact hP⟩, hS.F ht⟩) hS.2.2 dX3_load_103
      · --20 not
        have t11 : v17_2.toInt < 16 := ti_nle c8
        have i12 : 0 ≤ v17_2.toInt ∧ v17_2.toInt ≤ 15 := iv_lt_l t11 hv17_2 (il_ 16) (by decide)
        refine lv_iload_n hx hb dX3_load_23 rfl (lv_at hl 2 rfl) ?_
        refine lv_iload_n hx hb dX3_load_24 rfl (lv_at hl 0 rfl) ?_
        refine th_pi (va_runSN (As := [.int a0, .int v17_2]) (rest := []) ⟨hx, hb, hml, hown, hts⟩ (q_ccell l a0 v17_2 hh0 i12) ⟨va_cnB 2 hts (gi_0 (in_10 _ (zs16 (zs4 (zs0))))) rfl rfl rfl (hEV.1.1 _ (List.mem_of_getElem? (i := 7) rfl)) (hts _ (vA_in _ _ (in_4 _ (zs16 (zs4 (zs1 (zs1 (zs1 (zs0))))))))) hz_yX12_cell_2 ⟨Nat.le_of_ble_eq_true rfl, Nat.le_of_ble_eq_true rfl⟩, (hts _ (vA_in _ _ (in_13 _ (zs1 (zs0))))), trivial⟩ ⟨fun _ _ _ _ q => q, fun _ _ _ => ⟨rfl, trivial⟩⟩ rfl rfl hl.1 rfl (lv_room (Nat.le_of_ble_eq_true rfl)) dX3_load_25 ⟨Nat.le_of_ble_eq_true rfl, Nat.le_of_ble_eq_true rfl⟩) hS (fun r13 H1 locs1 hw hk1 hS => ?_)
        have hP := ub_keep hP hk1
        generalize H1 = H at hP hS ⊢
        generalize locs1 = locs at hS ⊢
        obtain ⟨f14, f15⟩ := hw
        refine lv_istore_n (lv' := [(3, .int r13), (2, .int v17_2), (0, .ref (ad 6)), (1, .int a0)]) hx hb dX3_load_28 rfl hl (by decide) rfl (fun ls hl => ?_)
        refine lv_aload_n hx hb dX3_load_29 rfl (lv_at hl 2 rfl) ?_
        refine th_getL (ci := 4) (C := RX3) (T := TX3) (N := 18) (v := .ref (ad 43)) hx hb hts hinX3 hown hK hP hI 6 (mF 6 rfl) rfl rfl 2 (Nat.le_of_ble_eq_true rfl) (hts _ (vA_in _ _ (in_11 _ (zs16 (zs4 (zs4 (zs1 (zs1 (zs0))))))))) (fun _ h9 => h9) (hI.fr 6 (mF 6 rfl) rfl (Nat.le_of_ble_eq_true rfl) 43 rfl) dX3_load_30 ?_
        refine lv_iload_n hx hb dX3_load_33 rfl (lv_at hl 0 rfl) ?_
        refine lv_aload_n hx hb dX3_load_34 rfl (lv_at hl 2 rfl) ?_
        refine th_getL (ci := 4) (C := RX3) (T := TX3) (N := 18) (v := .ref (ad 3)) hx hb hts hinX3 hown hK hP hI 6 (mF 6 rfl) rfl rfl 1 (Nat.le_of_ble_eq_true rfl) (hts _ (vA_in _ _ (in_11 _ (zs16 (zs4 (zs4 (zs0))))))) (fun _ h9 => h9) (hI.fr 6 (mF 6 rfl) rfl (Nat.le_of_ble_eq_true rfl) 3 rfl) dX3_load_35 ?_
        refine th_getL (ci := 10) (C := RX9) (T := TX9) (N := 9) (v := .ref (ad 26)) hx hb hts hinX9 hown hK hP hI 3 (mF 3 rfl) rfl rfl 1 (Nat.le_of_ble_eq_true rfl) (hts _ (vA_in _ _ (in_11 _ (zs16 (zs4 (zs4 (zs1 (zs1 (zs1 (zs0)))))))))) (fun _ h9 => h9) (hI.fr 3 (mF 3 rfl) rfl (Nat.le_of_ble_eq_true rfl) 26 rfl) dX3_load_38 ?_
        refine lv_iload_n hx hb dX3_load_41 rfl (lv_at hl 1 rfl) ?_
        have n17 : vp_in v17_2 16 := (iv_in (n := 16) i12 (by decide))
        refine th_ialdL hx hb hK hP hI 26 (mF 26 rfl) rfl rfl n17 dX3_load_42 (fun y16 ey16 => ?_)
        have iy16 : -1 ≤ y16.toInt ∧ y16.toInt ≤ 5 := hI.el 26 (mF 26 rfl) rfl n17 (fun _ => rfl) ey16
        have hJ51 : ∀ (s51_0 : Int32) (H : Heap) (locs : List Loc) (ls : Array Slot), 0 ≤ s51_0.toInt ∧ s51_0.toInt ≤ 1 → va_P (dC, dI) vwCl (WL (LC cf) ad E17_) H → va_S A s.heap H locs → lv_has ls 4 [(3, .int r13), (2, .int v17_2), (0, .ref (ad 6)), (1, .int a0)] → W p l e (headSpec v_load rm_load).room s m args below meth c H locs 0 0 Q (F0 m 51 ls [.int s51_0, .int r13, .ref (ad 43)]) := by
          intro s51_0 H locs ls hs51_0 hP hS hl
          have n18 : vp_in r13 320 := (iv_in (n := 320) f14 (by decide))
          refine th_zastL hx hb hK hP (WL_D hD) hS hI 43 (mF 43 rfl) rfl rfl n18 hs51_0 (okI rfl hs51_0) dX3_load_51 (fun H locs E19 pw20 hI hP hS => ?_)
          have hKp := hKp.pw pw20 rfl
          refine lv_aload_n hx hb dX3_load_52 rfl (lv_at hl 2 rfl) ?_
          refine th_getL (ci := 4) (C := RX3) (T := TX3) (N := 18) (v := .ref (ad 44)) hx hb hts hinX3 hown hK hP hI 6 (mF 6 rfl) rfl rfl 3 (Nat.le_of_ble_eq_true rfl) (hts _ (vA_in _ _ (in_11 _ (zs16 (zs4 (zs4 (zs4 (zs0)))))))) (fun _ h9 => h9) (hI.fr 6 (mF 6 rfl) rfl (Nat.le_of_ble_eq_true rfl) 44 rfl) dX3_load_53 ?_
          refine lv_iload_n hx hb dX3_load_56 rfl (lv_at hl 0 rfl) ?_
          refine lv_aload_n hx hb dX3_load_57 rfl (lv_at hl 2 rfl) ?_
          refine th_getL (ci := 4) (C := RX3) (T := TX3) (N := 18) (v := .ref (ad 3)) hx hb hts hinX3 hown hK hP hI 6 (mF 6 rfl) rfl rfl 1 (Nat.le_of_ble_eq_true rfl) (hts _ (vA_in _ _ (in_11 _ (zs16 (zs4 (zs4 (zs0))))))) (fun _ h9 => h9) (hI.fr 6 (mF 6 rfl) rfl (Nat.le_of_ble_eq_true rfl) 3 rfl) dX3_load_58 ?_
          refine th_getL (ci := 10) (C := RX9) (T := TX9) (N := 9) (v := .ref (ad 27)) hx hb hts hinX9 hown hK hP hI 3 (mF 3 rfl) rfl rfl 2 (Nat.le_of_ble_eq_true rfl) (hts _ (vA_in _ _ (in_11 _ (zs16 (zs4 (zs4 (zs4 (zs1 (zs0))))))))) (fun _ h9 => h9) (hI.fr 3 (mF 3 rfl) rfl (Nat.le_of_ble_eq_true rfl) 27 rfl) dX3_load_61 ?_
          refine lv_iload_n hx hb dX3_load_64 rfl (lv_at hl 1 rfl) ?_
          have n22 : vp_in v17_2 16 := (iv_in (n := 16) i12 (by decide))
          refine th_ialdL hx hb hK hP hI 27 (mF 27 rfl) rfl rfl n22 dX3_load_65 (fun y21 ey21 => ?_)
          have iy21 : 0 ≤ y21.toInt ∧ y21.toInt ≤ 200000 := hI.el 27 (mF 27 rfl) rfl n22 (fun _ => rfl) ey21
          have n23 : vp_in r13 320 := (iv_in (n := 320) f14 (by decide))
          refine th_iastL hx hb hK hP (WL_D hD) hS hI 44 (mF 44 rfl) rfl rfl n23 (okI rfl iy21) dX3_load_66 (fun H locs E24 pw25 hI hP hS => ?_)
          have hKp := hKp.pw pw25 rfl
          refine lv_aload_n hx hb dX3_load_67 rfl (lv_at hl 2 rfl) ?_
          refine th_getL (ci := 4) (C := RX3) (T := TX3) (N := 18) (v := .ref (ad 45)) hx hb hts hinX3 hown hK hP hI 6 (mF 6 rfl) rfl rfl 4 (Nat.le_of_ble_eq_true rfl) (hts _ (vA_in _ _ (in_11 _ (zs16 (zs4 (zs4 (zs4 (zs1 (zs1 (zs0)))))))))) (fun _ h9 => h9) (hI.fr 6 (mF 6 rfl) rfl (Nat.le_of_ble_eq_true rfl) 45 rfl) dX3_load_68 ?_
          refine lv_iload_n hx hb dX3_load_71 rfl (lv_at hl 0 rfl) ?_
          refine lv_aload_n hx hb dX3_load_72 rfl (lv_at hl 2 rfl) ?_
          refine th_getL (ci := 4) (C := RX3) (T := TX3) (N := 18) (v := .ref (ad 3)) hx hb hts hinX3 hown hK hP hI 6 (mF 6 rfl) rfl rfl 1 (Nat.le_of_ble_eq_true rfl) (hts _ (vA_in _ _ (in_11 _ (zs16 (zs4 (zs4 (zs0))))))) (fun _ h9 => h9) (hI.fr 6 (mF 6 rfl) rfl (Nat.le_of_ble_eq_true rfl) 3 rfl) dX3_load_73 ?_
          refine th_getL (ci := 10) (C := RX9) (T := TX9) (N := 9) (v := .ref (ad 28)) hx hb hts hinX9 hown hK hP hI 3 (mF 3 rfl) rfl rfl 3 (Nat.le_of_ble_eq_true rfl) (hts _ (vA_in _ _ (in_11 _ (zs16 (zs4 (zs4 (zs4 (zs1 (zs1 (zs1 (zs0))))))))))) (fun _ h9 => h9) (hI.fr 3 (mF 3 rfl) rfl (Nat.le_of_ble_eq_true rfl) 28 rfl) dX3_load_76 ?_
          refine lv_iload_n hx hb dX3_load_79 rfl (lv_at hl 1 rfl) ?_
          have n27 : vp_in v17_2 16 := (iv_in (n := 16) i12 (by decide))
          refine th_ialdL hx hb hK hP hI 28 (mF 28 rfl) rfl rfl n27 dX3_load_80 (fun y26 ey26 => ?_)
          have iy26 : 0 ≤ y26.toInt ∧ y26.toInt ≤ 2000 := hI.el 28 (mF 28 rfl) rfl n27 (fun _ => rfl) ey26
          have n28 : vp_in r13 320 := (iv_in (n := 320) f14 (by decide))
          refine th_iastL hx hb hK hP (WL_D hD) hS hI 45 (mF 45 rfl) rfl rfl n28 (okI rfl iy26) dX3_load_81 (fun H locs E29 pw30 hI hP hS => ?_)
          have hKp := hKp.pw pw30 rfl
          refine lv_aload_n hx hb dX3_load_82 rfl (lv_at hl 2 rfl) ?_
          refine th_getL (ci := 4) (C := RX3) (T := TX3) (N := 18) (v := .ref (ad 46)) hx hb hts hinX3 hown hK hP hI 6 (mF 6 rfl) rfl rfl 5 (Nat.le_of_ble_eq_true rfl) (hts _ (vA_in _ _ (in_11 _ (zs16 (zs16 (zs0)))))) (fun _ h9 => h9) (hI.fr 6 (mF 6 rfl) rfl (Nat.le_of_ble_eq_true rfl) 46 rfl) dX3_load_83 ?_
          refine lv_iload_n hx hb dX3_load_86 rfl (lv_at hl 0 rfl) ?_
          refine lv_aload_n hx hb dX3_load_87 rfl (lv_at hl 2 rfl) ?_
          refine th_getL (ci := 4) (C := RX3) (T := TX3) (N := 18) (v := .ref (ad 3)) hx hb hts hinX3 hown hK hP hI 6 (mF 6 rfl) rfl rfl 1 (Nat.le_of_ble_eq_true rfl) (hts _ (vA_in _ _ (in_11 _ (zs16 (zs4 (zs4 (zs0))))))) (fun _ h9 => h9) (hI.fr 6 (mF 6 rfl) rfl (Nat.le_of_ble_eq_true rfl) 3 rfl) dX3_load_88 ?_
          refine th_getL (ci := 10) (C := RX9) (T := TX9) (N := 9) (v := .ref (ad 29)) hx hb hts hinX9 hown hK hP hI 3 (mF 3 rfl) rfl rfl 4 (Nat.le_of_ble_eq_true rfl) (hts _ (vA_in _ _ (in_11 _ (zs16 (zs16 (zs1 (zs0))))))) (fun _ h9 => h9) (hI.fr 3 (mF 3 rfl) rfl (Nat.le_of_ble_eq_true rfl) 29 rfl) dX3_load_91 ?_
          refine lv_iload_n hx hb dX3_load_94 rfl (lv_at hl 1 rfl) ?_
          have n32 : vp_in v17_2 16 := (iv_in (n := 16) i12 (by decide))
          refine th_ialdL hx hb hK hP hI 29 (mF 29 rfl) rfl rfl n32 dX3_load_95 (fun y31 ey31 => ?_)
          have iy31 : -100000 ≤ y31.toInt ∧ y31.toInt ≤ 400000 := hI.el 29 (mF 29 rfl) rfl n32 (fun _ => rfl) ey31
          have n33 : vp_in r13 320 := (iv_in (n := 320) f14 (by decide))
          refine th_iastL hx hb hK hP (WL_D hD) hS hI 46 (mF 46 rfl) rfl rfl n33 (okI rfl iy31) dX3_load_96 (fun H locs E34 pw35 hI hP hS => ?_)
          have hKp := hKp.pw pw35 rfl
          obtain ⟨y36, ey36⟩ : ∃ y : Int32, y = v17_2 + (1 : Int32) := ⟨_, rfl⟩
          obtain ⟨ty36, iy36⟩ := ti_add (e := 1) (f := 16) i12 ln_1 ey36 (by decide)
          have ty36 : y36.toInt = v17_2.toInt + 1 := ty36
          have iy36 : 1 ≤ y36.toInt ∧ y36.toInt ≤ 16 := iy36
          refine lv_iinc (v := y36) (lv' := [(2, .int y36), (3, .int r13), (0, .ref (ad 6)), (1, .int a0)]) hx hb dX3_load_97 hl (k := 1) rfl (by rw [ey36]; rfl) (by decide) rfl (fun ls hl => ?_)
          refine lv_goto (tgt := 17) hx hb dX3_load_100 (by decide) ?_
          exact ih17 y36 E34 _ _ _ (iv_w iy36 (by decide)) (by first | exact ms_su hx17_0 ty36 (by decide) | omega) hI hKp ((pw35.2 3 6 (fun q9 => absurd q9.1 (Nat.ne_of_beq_eq_false rfl))).trans ((pw30.2 3 6 (fun q9 => absurd q9.1 (Nat.ne_of_beq_eq_false rfl))).trans ((pw25.2 3 6 (fun q9 => absurd q9.1 (Nat.ne_of_beq_eq_false rfl))).trans ((pw20.2 3 6 (fun q9 => absurd q9.1 (Nat.ne_of_beq_eq_false rfl))).trans hs17_3_6)))) hP hS (lv_sub hl [0, 2, 3] rfl)
        refine lv_if_ne (tgt := 50) hx hb dX3_load_43 (by decide) (fun c37 => ?_) (fun c37 => ?_)
        · --43 taken
          have t38 : ¬ y16.toInt = 0 := ti_ne c37
          refine lv_iconst (v := 0) hx hb dX3_load_50 (by decide) ?_
          exact hJ51 (0 : Int32) _ _ _ (iv_w ln_0 (by decide)) hP hS (lv_sub hl [0, 1, 2, 3] rfl)
        · --43 not
          have t39 : y16.toInt = 0 := ti_eq c37
          have i40 : 0 ≤ y16.toInt ∧ y16.toInt ≤ 0 := iv_eqi t39 iy16 (il_ 0) (by decide)
          refine lv_iconst (v := 1) hx hb dX3_load_46 (by decide) ?_
          refine lv_goto (tgt := 51) hx hb dX3_load_47 (by decide) ?_
          exact hJ51 (1 : Int32) _ _ _ (iv_w ln_1 (by decide)) hP hS (lv_sub hl [0, 1, 2, 3] rfl)
  exact hL17 (17) (0 : Int32) E3 _ _ _ (iv_w ln_0 (by decide)) (by have h9 := ln_0; first | exact ms_bu h9.1 (by decide) | omega) hI hKp fy5 hP hS (lv_sub hl [0, 1, 2] rfl)
def v_loadAll : List Cond := .code yX3_loadAll cX3_loadAll 2 none :: vA
abbrev rm_loadAll : Room := { frames := 7, cells := 0, slots := 0, locals := 280 }
def w_loadAll : Nat → Nat → Bool := wl [19, 20, 26, 27, 28, 29, 30, 43, 44, 45, 46] [(3, 6), (3, 7), (3, 8)]
set_option maxHeartbeats 4000000 in
set_option maxRecDepth 100000 in
theorem q_loadAll (l : Launch) (dC : Nat → ClassId) (dI : Nat → Nat → Nat) (cT : Nat → ClassId) (cf : Nat → Nat) (hC : CF cf) (ad : Nat → Nat) (E : Nat → va_E) (sz : Nat)  (hI0 : IXL cT (shC cf) (spC cf) (LC cf) ad E)  : Met l yX3_loadAll v_loadAll rm_loadAll (va_Pc [.ref (ad 6)] (HWL dC dI (TYC cT) cf ad E sz)) (va_Qv (S := Nat → va_E) (fun u => IXL cT (shC cf) (spC cf) (LC cf) ad u ∧ Kp w_loadAll E u ∧ (True)) (HBL dC dI (LC cf) ad) (va_A (WL (LC cf) ad E) sz)) 0 0 (va_A (WL (LC cf) ad E) sz) := by
  obtain ⟨⟨hc0, hc1, hc2, hc3, hc4, hc5⟩, hcr⟩ := id hC
  refine Met.ofW (cc := cX3_loadAll) (maxL := 2) (ret := none) (by decide) rfl ?_
  intro p e s m args below meth c s₁ B hml hv
  obtain ⟨hargs, hsz, hP, hK, hD0, hEV⟩ := hv
  subst hsz
  have hx := B.exec
  have hb := B.bytes
  have hr := B.returns
  have hts := atoms_spec (ws := v_loadAll) B.pre
  have hown : s.vm.findClass RX3 = some m.cls := findClass_of_methodNamed B.named
  have hlocks := B.notSynchronized
  have hinX0 : ∀ w ∈ u_ws RX0 TX0 11, w ∈ v_loadAll := fun w h => vA_in _ w (in_X0 w h)
  have hinX3 : ∀ w ∈ u_ws RX3 TX3 18, w ∈ v_loadAll := fun w h => vA_in _ w (in_X3 w h)
  generalize hAe : va_A (WL (LC cf) ad E) s.heap.size = A at hEV ⊢
  have hA : ∀ q : Nat, s.heap.size ≤ q → A q := fun q h => by rw [← hAe]; exact Or.inr h
  have hD : va_D A (WL (LC cf) ad E) := by rw [← hAe]; exact hD0.self
  have hS : va_S A s.heap s.heap [] := va_S.rf
  have hI := hI0
  have hKp : Kp w_loadAll E E := Kp.rf
  have hl := lv_entry ([.ref (ad 6)]) (n := 2) (Nat.le_of_ble_eq_true rfl)
  obtain ⟨Q, hQ⟩ : ∃ Q, Q = MQ below (va_Qv (S := Nat → va_E) (fun u => IXL cT (shC cf) (spC cf) (LC cf) ad u ∧ Kp w_loadAll E u ∧ (True)) (HBL dC dI (LC cf) ad) (A)) args s 0 0 (A) := ⟨_, rfl⟩
  rw [← hQ, show entryFrame m args 2 = _ from (congrArg (fun z => entryFrame m z 2) hargs).trans (lg_entry_eq _ _ _)]
  generalize (lg_sl ([.ref (ad 6)]) ++ List.replicate (2 - (lg_sl ([.ref (ad 6)])).length) Slot.unset).toArray = ls at hl ⊢
  have hl : lv_has ls 2 [(0, .ref (ad 6))] := hl
  refine lv_iconst (v := 0) hx hb dX3_loadAll_0 (by decide) ?_
  refine lv_istore_n (lv' := [(1, .int 0), (0, .ref (ad 6))]) hx hb dX3_loadAll_1 rfl hl (by decide) rfl (fun ls hl => ?_)
  have hL2 : ∀ d : Nat, ∀ (v2_1 : Int32) (E2_ : Nat → va_E) (H : Heap) (locs : List Loc) (ls : Array Slot), 0 ≤ v2_1.toInt ∧ v2_1.toInt ≤ 20 → 20 - v2_1.toInt < (d : Int) → IXL cT (shC cf) (spC cf) (LC cf) ad E2_ → Kp w_loadAll E E2_ → va_P (dC, dI) vwCl (WL (LC cf) ad E2_) H → va_S A s.heap H locs → lv_has ls 2 [(1, .int v2_1), (0, .ref (ad 6))] → W p l e (headSpec v_loadAll rm_loadAll).room s m args below meth c H locs 0 0 Q (F0 m 2 ls []) := by
    intro d
    induction d with
    | zero =>
      intro v2_1 E2_ H locs ls hv2_1 hx2_0 hI hKp hP hS hl
      exact absurd hx2_0 (by first | exact ms_zu hv2_1.2 | omega)
    | succ d ih2 =>
      intro v2_1 E2_ H locs ls hv2_1 hx2_0 hI hKp hP hS hl
      refine lv_iload_n hx hb dX3_loadAll_2 rfl (lv_at hl 0 rfl) ?_
      refine lv_aload_n hx hb dX3_loadAll_3 rfl (lv_at hl 1 rfl) ?_
      refine th_getL (ci := 4) (C := RX3) (T := TX3) (N := 18) (v := .ref (ad 1)) hx hb hts hinX3 hown hK hP hI 6 (mF 6 rfl) rfl rfl 0 (Nat.le_of_ble_eq_true rfl) (hts _ (vA_in _ _ (in_11 _ (zs16 (zs1 (zs0)))))) (fun _ h9 => h9) (hI.fr 6 (mF 6 rfl) rfl (Nat.le_of_ble_eq_true rfl) 1 rfl) dX3_loadAll_4 ?_
      refine th_getL (ci := 1) (C := RX0) (T := TX0) (N := 11) (v := .ref (ad 9)) hx hb hts hinX0 hown hK hP hI 1 (mF 1 rfl) rfl rfl 5 (Nat.le_of_ble_eq_true rfl) (hts _ (vA_in _ _ (in_11 _ (zs16 (zs1 (zs1 (zs0))))))) (fun _ h9 => h9) (hI.fr 1 (mF 1 rfl) rfl (Nat.le_of_ble_eq_true rfl) 9 rfl) dX3_loadAll_7 ?_
      refine th_riL (va_runV (As := []) (rest := [.int v2_1]) ⟨hx, hb, hml, hown, hts⟩ (q_size2 l dC dI cT cf hC ad E2_ H.size hI) (cwV 0 hts (gi_V (in_11 _ (zs16 (zs1 (zs1 (zs1 (zs0)))))) (in_4 _ (zs16 (zs16 (zs1 (zs1 (zs1 (zs0))))))) (in_4 _ (zs16 (zs16 (zs4 (zs0))))) (in_3 _ (zs16 (zs1 (zs1 (zs0))))) (in_4 _ (zs16 (zs1 (zs1 (zs1 (zs0))))))) rfl rfl rfl ⟨rfl, hz_yJx4a65c_size_8abf5_0⟩ ⟨Nat.le_of_ble_eq_true rfl, Nat.le_of_ble_eq_true rfl⟩) ⟨HWL_bl, va_recv hK hP (ci := 0) (q0 := posL 9 (LC cf)) rfl (hI.ob 9 (mF 9 rfl) rfl), (HWL_wi hP hK (WL_D hD) hS hA hEV)⟩ rfl rfl hl.1 rfl (lv_room (Nat.le_of_ble_eq_true rfl)) dX3_loadAll_10 ⟨Nat.le_of_ble_eq_true rfl, Nat.le_of_ble_eq_true rfl⟩) hS hP (fun r1 H locs hw hP hS => ?_)
      obtain ⟨f2, f3⟩ := hw
      refine lv_icmp_ge (tgt := 27) hx hb dX3_loadAll_13 (by decide) (fun c4 => ?_) (fun c4 => ?_)
      · --13 taken
        have t5 : r1.toInt ≤ v2_1.toInt := ti_le c4
        rw [hQ]
        exact W.vret hx hb hr (fun t ht hW => ⟨⟨E2_, rfl, ⟨hI, hKp, trivial⟩, by show va_P (dC, dI) vwCl (WL (LC cf) ad E2_) t.heap; rw [ht]; exact hP⟩, hS.F ht⟩) hS.2.2 dX3_loadAll_27
      · --13 not
        have t6 : v2_1.toInt < r1.toInt := ti_nle c4
        have i7 : 0 ≤ v2_1.toInt ∧ v2_1.toInt ≤ 19 := iv_lt_l t6 hv2_1 f2 (by decide)
        have i8 : 1 ≤ r1.toInt ∧ r1.toInt ≤ 20 := iv_lt_r t6 hv2_1 f2 (by decide)
        refine lv_aload_n hx hb dX3_loadAll_16 rfl (lv_at hl 1 rfl) ?_
        refine lv_iload_n hx hb dX3_loadAll_17 rfl (lv_at hl 0 rfl) ?_
        refine th_vL (va_runV (As := [.int v2_1]) (rest := []) ⟨hx, hb, hml, hown, hts⟩ (q_load l dC dI cT cf hC ad E2_ H.size v2_1 hI i7 (by omega)) (cwV 1 hts (gi_V (in_11 _ (zs16 (zs4 (zs0)))) (in_11 _ (zs16 (zs4 (zs1 (zs0))))) (in_11 _ (zs16 (zs4 (zs1 (zs1 (zs0)))))) (in_11 _ (zs4 (zs4 (zs4 (zs1 (zs1 (zs1 (zs0)))))))) (in_11 _ (zs16 (zs4 (zs1 (zs1 (zs1 (zs0)))))))) rfl rfl rfl ⟨rfl, hz_yX3_load_1⟩ ⟨Nat.le_of_ble_eq_true rfl, Nat.le_of_ble_eq_true rfl⟩) ⟨HWL_bl, va_recv hK hP (ci := 4) (q0 := posL 6 (LC cf)) rfl (hI.ob 6 (mF 6 rfl) rfl), (HWL_wi hP hK (WL_D hD) hS hA hEV)⟩ rfl rfl hl.1 rfl (lv_room (Nat.le_of_ble_eq_true rfl)) dX3_loadAll_18 ⟨Nat.le_of_ble_eq_true rfl, Nat.le_of_ble_eq_true rfl⟩) (WL_D hD) hS hA (fun E10 H locs hw hP hS => ?_)
        obtain ⟨hI, kq11, hw⟩ := hw
        have hKb := hKp
        have hKp := hKp.tr kq11 (wl_sub rfl rfl)
        obtain ⟨y12, ey12⟩ : ∃ y : Int32, y = v2_1 + (1 : Int32) := ⟨_, rfl⟩
        obtain ⟨ty12, iy12⟩ := ti_add (e := 1) (f := 20) i7 ln_1 ey12 (by decide)
        have ty12 : y12.toInt = v2_1.toInt + 1 := ty12
        have iy12 : 1 ≤ y12.toInt ∧ y12.toInt ≤ 20 := iy12
        refine lv_iinc (v := y12) (lv' := [(1, .int y12), (0, .ref (ad 6))]) hx hb dX3_loadAll_21 hl (k := 0) rfl (by rw [ey12]; rfl) (by decide) rfl (fun ls hl => ?_)
        refine lv_goto (tgt := 2) hx hb dX3_loadAll_24 (by decide) ?_
        exact ih2 y12 E10 _ _ _ (iv_w iy12 (by decide)) (by first | exact ms_su hx2_0 ty12 (by decide) | omega) hI hKp hP hS (lv_sub hl [0, 1] rfl)
  exact hL2 (21) (0 : Int32) E _ _ _ (iv_w ln_0 (by decide)) (by have h9 := ln_0; first | exact ms_bu h9.1 (by decide) | omega) hI hKp hP hS (lv_sub hl [0, 1] rfl)
def v_gatherChanged : List Cond := .code yX3_gatherChanged cX3_gatherChanged 8 none :: vA
abbrev rm_gatherChanged : Room := { frames := 3, cells := 0, slots := 0, locals := 120 }
def w_gatherChanged : Nat → Nat → Bool := wl [52] [(6, 15)]
set_option maxHeartbeats 4000000 in
set_option maxRecDepth 100000 in
theorem q_gatherChanged (l : Launch) (dC : Nat → ClassId) (dI : Nat → Nat → Nat) (cT : Nat → ClassId) (cf : Nat → Nat) (hC : CF cf) (ad : Nat → Nat) (E : Nat → va_E) (sz : Nat) (a0 : Int32) (hI0 : IXL cT (shC cf) (spC cf) (LC cf) ad E) (hh0 : 0 ≤ a0.toInt ∧ a0.toInt ≤ 4) : Met l yX3_gatherChanged v_gatherChanged rm_gatherChanged (va_Pc [.ref (ad 6), .int a0] (HWL dC dI (TYC cT) cf ad E sz)) (va_Qv (S := Nat → va_E) (fun u => IXL cT (shC cf) (spC cf) (LC cf) ad u ∧ Kp w_gatherChanged E u ∧ (True)) (HBL dC dI (LC cf) ad) (va_A (WL (LC cf) ad E) sz)) 0 0 (va_A (WL (LC cf) ad E) sz) := by
  obtain ⟨⟨hc0, hc1, hc2, hc3, hc4, hc5⟩, hcr⟩ := id hC
  refine Met.ofW (cc := cX3_gatherChanged) (maxL := 8) (ret := none) (by decide) rfl ?_
  intro p e s m args below meth c s₁ B hml hv
  obtain ⟨hargs, hsz, hP, hK, hD0, hEV⟩ := hv
  subst hsz
  have hx := B.exec
  have hb := B.bytes
  have hr := B.returns
  have hts := atoms_spec (ws := v_gatherChanged) B.pre
  have hown : s.vm.findClass RX3 = some m.cls := findClass_of_methodNamed B.named
  have hlocks := B.notSynchronized
  have hinX0 : ∀ w ∈ u_ws RX0 TX0 11, w ∈ v_gatherChanged := fun w h => vA_in _ w (in_X0 w h)
  have hinX3 : ∀ w ∈ u_ws RX3 TX3 18, w ∈ v_gatherChanged := fun w h => vA_in _ w (in_X3 w h)
  have hinX5 : ∀ w ∈ u_ws RX5 TX5 12, w ∈ v_gatherChanged := fun w h => vA_in _ w (in_X5 w h)
  generalize hAe : va_A (WL (LC cf) ad E) s.heap.size = A at hEV ⊢
  have hA : ∀ q : Nat, s.heap.size ≤ q → A q := fun q h => by rw [← hAe]; exact Or.inr h
  have hD : va_D A (WL (LC cf) ad E) := by rw [← hAe]; exact hD0.self
  have hS : va_S A s.heap s.heap [] := va_S.rf
  have hI := hI0
  have hKp : Kp w_gatherChanged E E := Kp.rf
  have hl := lv_entry ([.ref (ad 6), .int a0]) (n := 8) (Nat.le_of_ble_eq_true rfl)
  obtain ⟨Q, hQ⟩ : ∃ Q, Q = MQ below (va_Qv (S := Nat → va_E) (fun u => IXL cT (shC cf) (spC cf) (LC cf) ad u ∧ Kp w_gatherChanged E u ∧ (True)) (HBL dC dI (LC cf) ad) (A)) args s 0 0 (A) := ⟨_, rfl⟩
  rw [← hQ, show entryFrame m args 8 = _ from (congrArg (fun z => entryFrame m z 8) hargs).trans (lg_entry_eq _ _ _)]
  generalize (lg_sl ([.ref (ad 6), .int a0]) ++ List.replicate (8 - (lg_sl ([.ref (ad 6), .int a0])).length) Slot.unset).toArray = ls at hl ⊢
  have hl : lv_has ls 8 [(0, .ref (ad 6)), (1, .int a0)] := hl
  refine lv_aload_n hx hb dX3_gatherChanged_0 rfl (lv_at hl 0 rfl) ?_
  refine lv_iconst (v := 0) hx hb dX3_gatherChanged_1 (by decide) ?_
  refine th_putL (ci := 4) (C := RX3) (T := TX3) (N := 18) (v := .int 0) (ty := .int) hx hb hts hinX3 tyX3 tyX3_ok nmX3 hown hK hP (WL_D hD) hS hI 6 (mF 6 rfl) rfl rfl 15 (Nat.le_of_ble_eq_true rfl) (hts _ (vA_in _ _ (in_13 _ (zs16 (zs0))))) (fun _ h9 => h9) rfl (by decide +kernel) rfl rfl (okI rfl (iv_w ln_0 (by decide))) dX3_gatherChanged_2 (fun H locs E1 pw2 hI hP hS => ?_)
  have hKp := hKp.pw pw2 rfl
  refine lv_iconst (v := 0) hx hb dX3_gatherChanged_5 (by decide) ?_
  refine lv_istore_n (lv' := [(2, .int 0), (0, .ref (ad 6)), (1, .int a0)]) hx hb dX3_gatherChanged_6 rfl hl (by decide) rfl (fun ls hl => ?_)
  have hL7 : ∀ d : Nat, ∀ (w7_6_15 : Int32) (v7_2 : Int32) (E7_ : Nat → va_E) (H : Heap) (locs : List Loc) (ls : Array Slot), 0 ≤ w7_6_15.toInt ∧ w7_6_15.toInt ≤ 20 → 0 ≤ v7_2.toInt ∧ v7_2.toInt ≤ 20 → w7_6_15.toInt ≤ v7_2.toInt → 20 - v7_2.toInt < (d : Int) → IXL cT (shC cf) (spC cf) (LC cf) ad E7_ → Kp w_gatherChanged E E7_ → xv (E7_ 6) 15 = .int w7_6_15 → va_P (dC, dI) vwCl (WL (LC cf) ad E7_) H → va_S A s.heap H locs → lv_has ls 8 [(2, .int v7_2), (0, .ref (ad 6)), (1, .int a0)] → W p l e (headSpec v_gatherChanged rm_gatherChanged).room s m args below meth c H locs 0 0 Q (F0 m 7 ls []) := by
    intro d
    induction d with
    | zero =>
      intro w7_6_15 v7_2 E7_ H locs ls hw7_6_15 hv7_2 hx7_0 hx7_1 hI hKp hs7_6_15 hP hS hl
      exact absurd hx7_1 (by first | exact ms_zu hv7_2.2 | omega)
    | succ d ih7 =>
      intro w7_6_15 v7_2 E7_ H locs ls hw7_6_15 hv7_2 hx7_0 hx7_1 hI hKp hs7_6_15 hP hS hl
      refine lv_iload_n hx hb dX3_gatherChanged_7 rfl (lv_at hl 0 rfl) ?_
      refine lv_aload_n hx hb dX3_gatherChanged_8 rfl (lv_at hl 1 rfl) ?_
      refine th_getL (ci := 4) (C := RX3) (T := TX3) (N := 18) (v := .ref (ad 1)) hx hb hts hinX3 hown hK hP hI 6 (mF 6 rfl) rfl rfl 0 (Nat.le_of_ble_eq_true rfl) (hts _ (vA_in _ _ (in_11 _ (zs16 (zs1 (zs0)))))) (fun _ h9 => h9) (hI.fr 6 (mF 6 rfl) rfl (Nat.le_of_ble_eq_true rfl) 1 rfl) dX3_gatherChanged_9 ?_
      refine th_getL (ci := 1) (C := RX0) (T := TX0) (N := 11) (v := .ref (ad 9)) hx hb hts hinX0 hown hK hP hI 1 (mF 1 rfl) rfl rfl 5 (Nat.le_of_ble_eq_true rfl) (hts _ (vA_in _ _ (in_11 _ (zs16 (zs1 (zs1 (zs0))))))) (fun _ h9 => h9) (hI.fr 1 (mF 1 rfl) rfl (Nat.le_of_ble_eq_true rfl) 9 rfl) dX3_gatherChanged_12 ?_
      refine th_riL (va_runV (As := []) (rest := [.int v7_2]) ⟨hx, hb, hml, hown, hts⟩ (q_size2 l dC dI cT cf hC ad E7_ H.size hI) (cwV 0 hts (gi_V (in_11 _ (zs16 (zs1 (zs1 (zs1 (zs0)))))) (in_4 _ (zs16 (zs16 (zs1 (zs1 (zs1 (zs0))))))) (in_4 _ (zs16 (zs16 (zs4 (zs0))))) (in_3 _ (zs16 (zs1 (zs1 (zs0))))) (in_4 _ (zs16 (zs1 (zs1 (zs1 (zs0))))))) rfl rfl rfl ⟨rfl, hz_yJx4a65c_size_8abf5_0⟩ ⟨Nat.le_of_ble_eq_true rfl, Nat.le_of_ble_eq_true rfl⟩) ⟨HWL_bl, va_recv hK hP (ci := 0) (q0 := posL 9 (LC cf)) rfl (hI.ob 9 (mF 9 rfl) rfl), (HWL_wi hP hK (WL_D hD) hS hA hEV)⟩ rfl rfl hl.1 rfl (lv_room (Nat.le_of_ble_eq_true rfl)) dX3_gatherChanged_15 ⟨Nat.le_of_ble_eq_true rfl, Nat.le_of_ble_eq_true rfl⟩) hS hP (fun r3 H locs hw hP hS => ?_)
      obtain ⟨f4, f5⟩ := hw
      refine lv_icmp_ge (tgt := 187) hx hb dX3_gatherChanged_18 (by decide) (fun c6 => ?_) (fun c6 => ?_)
      · --18 taken
        have t7 : r3.toInt ≤ v7_2.toInt := ti_le c6
        rw [hQ]
        exact W.vret hx hb hr (fun t ht hW => ⟨⟨E7_, rfl, ⟨hI, hKp, trivial⟩, by show va_P (dC, dI) vwCl (WL (LC cf) ad E7_) t.heap; rw [ht]; exact hP⟩, hS.F ht⟩) hS.2.2 dX3_gatherChanged_187
      · --18 not
        have t8 : v7_2.toInt < r3.toInt := ti_nle c6
        have i9 : 0 ≤ v7_2.toInt ∧ v7_2.toInt ≤ 19 := iv_lt_l t8 hv7_2 f4 (by decide)
        have i10 : 1 ≤ r3.toInt ∧ r3.toInt ≤ 20 := iv_lt_r t8 hv7_2 f4 (by decide)
        have i11 : 0 ≤ w7_6_15.toInt ∧ w7_6_15.toInt ≤ 19 := by omega
        refine lv_aload_n hx hb dX3_gatherChanged_21 rfl (lv_at hl 1 rfl) ?_
        refine th_getL (ci := 4) (C := RX3) (T := TX3) (N := 18) (v := .ref (ad 1)) hx hb hts hinX3 hown hK hP hI 6 (mF 6 rfl) rfl rfl 0 (Nat.le_of_ble_eq_true rfl) (hts _ (vA_in _ _ (in_11 _ (zs16 (zs1 (zs0)))))) (fun _ h9 => h9) (hI.fr 6 (mF 6 rfl) rfl (Nat.le_of_ble_eq_true rfl) 1 rfl) dX3_gatherChanged_22 ?_
        refine th_getL (ci := 1) (C := RX0) (T := TX0) (N := 11) (v := .ref (ad 9)) hx hb hts hinX0 hown hK hP hI 1 (mF 1 rfl) rfl rfl 5 (Nat.le_of_ble_eq_true rfl) (hts _ (vA_in _ _ (in_11 _ (zs16 (zs1 (zs1 (zs0))))))) (fun _ h9 => h9) (hI.fr 1 (mF 1 rfl) rfl (Nat.le_of_ble_eq_true rfl) 9 rfl) dX3_gatherChanged_25 ?_
        refine lv_iload_n hx hb dX3_gatherChanged_28 rfl (lv_at hl 0 rfl) ?_
        refine th_rrL (va_runV (As := [.int v7_2]) (rest := []) ⟨hx, hb, hml, hown, hts⟩ (q_get2 l dC dI cT cf hC ad E7_ H.size v7_2 hI (by omega)) (cwV 1 hts (gi_V (in_13 _ (zs16 (zs4 (zs1 (zs0))))) (in_4 _ (zs16 (zs16 (zs4 (zs1 (zs1 (zs0))))))) (in_4 _ (zs16 (zs16 (zs4 (zs1 (zs1 (zs1 (zs0)))))))) (in_3 _ (zs16 (zs1 (zs1 (zs0))))) (in_3 _ (zs16 (zs16 (zs4 (zs1 (zs1 (zs1 (zs0))))))))) rfl rfl rfl ⟨rfl, hz_yJx4a65c_get_915e3_1⟩ ⟨Nat.le_of_ble_eq_true rfl, Nat.le_of_ble_eq_true rfl⟩) ⟨HWL_bl, va_recv hK hP (ci := 0) (q0 := posL 9 (LC cf)) rfl (hI.ob 9 (mF 9 rfl) rfl), (HWL_wi hP hK (WL_D hD) hS hA hEV)⟩ rfl rfl hl.1 rfl (lv_room (Nat.le_of_ble_eq_true rfl)) dX3_gatherChanged_29 ⟨Nat.le_of_ble_eq_true rfl, Nat.le_of_ble_eq_true rfl⟩) hS hP (fun r12 H locs hw hP hS => ?_)
        obtain rfl := hw
        have lv13 : v7_2.toNatClampNeg < cf 2 := by rw [tn_]; omega
        refine va_castS (cC := dC 6) hx hb hown (hts _ (vA_in _ _ (in_13 _ (zs16 (zs1 (zs0)))))) (hK.1 6 _ rfl).2 (va_recv hK hP (ci := 6) (q0 := posL (64 * (v7_2.toNatClampNeg + 1) + 6) (LC cf)) rfl (hI.ob (64 * (v7_2.toNatClampNeg + 1) + 6) (mP 6 v7_2.toNatClampNeg (by decide) lv13 (kl_le hC 2 (by decide))) (shC_p 6 v7_2.toNatClampNeg (by decide)))) dX3_gatherChanged_32 ?_
        have i14 : 0 ≤ (xi (E (64 * (v7_2.toNatClampNeg + 1) + 6)) 3).toInt ∧ (xi (E (64 * (v7_2.toNatClampNeg + 1) + 6)) 3).toInt ≤ 1 := hI0.iv (64 * (v7_2.toNatClampNeg + 1) + 6) (mP 6 v7_2.toNatClampNeg (by decide) lv13 (kl_le hC 2 (by decide))) (shC_p 6 v7_2.toNatClampNeg (by decide)) (Nat.le_of_ble_eq_true rfl) (spC_p 6 v7_2.toNatClampNeg (by decide) 3)
        refine th_getL (ci := 6) (C := RX5) (T := TX5) (N := 12) (v := .int (xi (E (64 * (v7_2.toNatClampNeg + 1) + 6)) 3)) hx hb hts hinX5 hown hK hP hI (64 * (v7_2.toNatClampNeg + 1) + 6) (mP 6 v7_2.toNatClampNeg (by decide) lv13 (kl_le hC 2 (by decide))) (shC_p 6 v7_2.toNatClampNeg (by decide)) rfl 3 (Nat.le_of_ble_eq_true rfl) (hts _ (vA_in _ _ (in_13 _ (zs16 (zs1 (zs1 (zs0))))))) (fun _ h9 => h9) (th_v0L hKp hI0 (64 * (v7_2.toNatClampNeg + 1) + 6) (mP 6 v7_2.toNatClampNeg (by decide) lv13 (kl_le hC 2 (by decide))) (shC_p 6 v7_2.toNatClampNeg (by decide)) (Nat.le_of_ble_eq_true rfl) (spC_p 6 v7_2.toNatClampNeg (by decide) 3) (wl_p rfl rfl (by omega))) dX3_gatherChanged_35 ?_
        refine lv_if_eq (tgt := 44) hx hb dX3_gatherChanged_38 (by decide) (fun c15 => ?_) (fun c15 => ?_)
        · --38 taken
          have t16 : (xi (E (64 * (v7_2.toNatClampNeg + 1) + 6)) 3).toInt = 0 := ti_eq c15
          have i17 : 0 ≤ (xi (E (64 * (v7_2.toNatClampNeg + 1) + 6)) 3).toInt ∧ (xi (E (64 * (v7_2.toNatClampNeg + 1) + 6)) 3).toInt ≤ 0 := iv_eqi t16 i14 (il_ 0) (by decide)
          refine lv_iconst (v := 0) hx hb dX3_gatherChanged_44 (by decide) ?_
          refine lv_istore_n (lv' := [(3, .int 0), (2, .int v7_2), (0, .ref (ad 6)), (1, .int a0)]) hx hb dX3_gatherChanged_45 rfl hl (by decide) rfl (fun ls hl => ?_)
          refine lv_iconst (v := 0) hx hb dX3_gatherChanged_46 (by decide) ?_
          refine lv_istore (lv' := [(4, .int 0), (3, .int 0), (2, .int v7_2), (0, .ref (ad 6)), (1, .int a0)]) hx hb dX3_gatherChanged_47 hl (by decide) rfl (fun ls hl => ?_)
          have hL49 : ∀ d : Nat, ∀ (v49_4 : Int32) (v49_3 : Int32) (E49_ : Nat → va_E) (H : Heap) (locs : List Loc) (ls : Array Slot), 0 ≤ v49_4.toInt ∧ v49_4.toInt ≤ 4 → 4 - v49_4.toInt < (d : Int) → IXL cT (shC cf) (spC cf) (LC cf) ad E49_ → Kp w_gatherChanged E E49_ → xv (E49_ 6) 15 = .int w7_6_15 → va_P (dC, dI) vwCl (WL (LC cf) ad E49_) H → va_S A s.heap H locs → lv_has ls 8 [(4, .int v49_4), (3, .int v49_3), (2, .int v7_2), (0, .ref (ad 6)), (1, .int a0)] → W p l e (headSpec v_gatherChanged rm_gatherChanged).room s m args below meth c H locs 0 0 Q (F0 m 49 ls []) := by
            intro d
            induction d with
            | zero =>
              intro v49_4 v49_3 E49_ H locs ls hv49_4 hx49_0 hI hKp hs49_6_15 hP hS hl
              exact absurd hx49_0 (by first | exact ms_zu hv49_4.2 | omega)
            | succ d ih49 =>
              intro v49_4 v49_3 E49_ H locs ls hv49_4 hx49_0 hI hKp hs49_6_15 hP hS hl
              refine lv_iload hx hb dX3_gatherChanged_49 (lv_at hl 0 rfl) ?_
              refine lv_iload_n hx hb dX3_gatherChanged_51 rfl (lv_at hl 4 rfl) ?_
              refine lv_icmp_ge (tgt := 166) hx hb dX3_gatherChanged_52 (by decide) (fun c18 => ?_) (fun c18 => ?_)
              · --52 taken
                have t19 : a0.toInt ≤ v49_4.toInt := ti_le c18
                refine lv_iload_n hx hb dX3_gatherChanged_166 rfl (lv_at hl 1 rfl) ?_
                refine lv_iconst (v := 2) hx hb dX3_gatherChanged_167 (by decide) ?_
                refine lv_icmp_lt (tgt := 181) hx hb dX3_gatherChanged_168 (by decide) (fun c20 => ?_) (fun c20 => ?_)
                · --168 taken
                  have t21 : v49_3.toInt < 2 := ti_lt c20
                  have i22 : -2147483648 ≤ v49_3.toInt ∧ v49_3.toInt ≤ 1 := iv_lt_l t21 (iv_all _) (il_ 2) (by decide)
                  obtain ⟨y23, ey23⟩ : ∃ y : Int32, y = v7_2 + (1 : Int32) := ⟨_, rfl⟩
                  obtain ⟨ty23, iy23⟩ := ti_add (e := 1) (f := 20) i9 ln_1 ey23 (by decide)
                  have ty23 : y23.toInt = v7_2.toInt + 1 := ty23
                  have iy23 : 1 ≤ y23.toInt ∧ y23.toInt ≤ 20 := iy23
                  refine lv_iinc (v := y23) (lv' := [(2, .int y23), (4, .int v49_4), (3, .int v49_3), (0, .ref (ad 6)), (1, .int a0)]) hx hb dX3_gatherChanged_181 hl (k := 2) rfl (by rw [ey23]; rfl) (by decide) rfl (fun ls hl => ?_)
                  refine lv_goto (tgt := 7) hx hb dX3_gatherChanged_184 (by decide) ?_
                  exact ih7 w7_6_15 y23 E49_ _ _ _ (iv_w i11 (by decide)) (iv_w iy23 (by decide)) (by have h9 := i11; have h8 := iy23; omega) (by first | exact ms_su hx7_1 ty23 (by decide) | omega) hI hKp hs49_6_15 hP hS (lv_sub hl [0, 3, 4] rfl)
                · --168 not
                  have t24 : (2 : Int) ≤ v49_3.toInt := ti_nlt c20
                  have i25 : 2 ≤ v49_3.toInt ∧ v49_3.toInt ≤ 2147483647 := iv_le_r t24 (il_ 2) (iv_all _) (by decide)
                  refine lv_aload_n hx hb dX3_gatherChanged_171 rfl (lv_at hl 3 rfl) ?_
                  refine lv_dup hx hb dX3_gatherChanged_172 rfl ?_
                  refine th_getL (ci := 4) (C := RX3) (T := TX3) (N := 18) (v := .int w7_6_15) hx hb hts hinX3 hown hK hP hI 6 (mF 6 rfl) rfl rfl 15 (Nat.le_of_ble_eq_true rfl) (hts _ (vA_in _ _ (in_13 _ (zs16 (zs0))))) (fun _ h9 => h9) hs49_6_15 dX3_gatherChanged_173 ?_
                  refine lv_iconst (v := 1) hx hb dX3_gatherChanged_176 (by decide) ?_
                  refine lv_iadd hx hb dX3_gatherChanged_177 ?_
                  refine lv_topi (fun y26 ey26 => ?_)
                  obtain ⟨ty26, iy26⟩ := ti_add (e := 1) (f := 20) i11 ln_1 ey26 (by decide)
                  have ty26 : y26.toInt = w7_6_15.toInt + 1 := ty26
                  have iy26 : 1 ≤ y26.toInt ∧ y26.toInt ≤ 20 := iy26
                  refine th_putL (ci := 4) (C := RX3) (T := TX3) (N := 18) (v := .int y26) (ty := .int) hx hb hts hinX3 tyX3 tyX3_ok nmX3 hown hK hP (WL_D hD) hS hI 6 (mF 6 rfl) rfl rfl 15 (Nat.le_of_ble_eq_true rfl) (hts _ (vA_in _ _ (in_13 _ (zs16 (zs0))))) (fun _ h9 => h9) rfl (by decide +kernel) rfl rfl (okI rfl (iv_w iy26 (by decide))) dX3_gatherChanged_178 (fun H locs E27 pw28 hI hP hS => ?_)
                  have hKp := hKp.pw pw28 rfl
                  obtain ⟨y29, ey29⟩ : ∃ y : Int32, y = v7_2 + (1 : Int32) := ⟨_, rfl⟩
                  obtain ⟨ty29, iy29⟩ := ti_add (e := 1) (f := 20) i9 ln_1 ey29 (by decide)
                  have ty29 : y29.toInt = v7_2.toInt + 1 := ty29
                  have iy29 : 1 ≤ y29.toInt ∧ y29.toInt ≤ 20 := iy29
                  refine lv_iinc (v := y29) (lv' := [(2, .int y29), (4, .int v49_4), (3, .int v49_3), (0, .ref (ad 6)), (1, .int a0)]) hx hb dX3_gatherChanged_181 hl (k := 2) rfl (by rw [ey29]; rfl) (by decide) rfl (fun ls hl => ?_)
                  refine lv_goto (tgt := 7) hx hb dX3_gatherChanged_184 (by decide) ?_
                  exact ih7 y26 y29 E27 _ _ _ (iv_w iy26 (by decide)) (iv_w iy29 (by decide)) (by have h9 := iy26; have h8 := iy29; omega) (by first | exact ms_su hx7_1 ty29 (by decide) | omega) hI hKp pw28.1 hP hS (lv_sub hl [0, 3, 4] rfl)
              · --52 not
                have t30 : v49_4.toInt < a0.toInt := ti_nle c18
                have i31 : 0 ≤ v49_4.toInt ∧ v49_4.toInt ≤ 3 := iv_lt_l t30 hv49_4 hh0 (by decide)
                have i32 : 1 ≤ a0.toInt ∧ a0.toInt ≤ 4 := iv_lt_r t30 hv49_4 hh0 (by decide)
                refine lv_iload_n hx hb dX3_gatherChanged_55 rfl (lv_at hl 2 rfl) ?_
                refine lv_aload_n hx hb dX3_gatherChanged_56 rfl (lv_at hl 3 rfl) ?_
                refine th_getL (ci := 4) (C := RX3) (T := TX3) (N := 18) (v := .ref (ad 53)) hx hb hts hinX3 hown hK hP hI 6 (mF 6 rfl) rfl rfl 12 (Nat.le_of_ble_eq_true rfl) (hts _ (vA_in _ _ (in_13 _ (zs4 (zs1 (zs1 (zs0))))))) (fun _ h9 => h9) (hI.fr 6 (mF 6 rfl) rfl (Nat.le_of_ble_eq_true rfl) 53 rfl) dX3_gatherChanged_57 ?_
                refine lv_iload hx hb dX3_gatherChanged_60 (lv_at hl 0 rfl) ?_
                have n34 : vp_in v49_4 4 := (iv_in (n := 4) i31 (by decide))
                refine th_ialdL hx hb hK hP hI 53 (mF 53 rfl) rfl rfl n34 dX3_gatherChanged_62 (fun y33 ey33 => ?_)
                have iy33 : 0 ≤ y33.toInt ∧ y33.toInt ≤ 15 := hI.el 53 (mF 53 rfl) rfl n34 (fun _ => rfl) ey33
                have ey33 := ey33.trans (hKp.ei 53 _ rfl)
                refine th_pi (va_runSN (As := [.int v7_2, .int y33]) (rest := []) ⟨hx, hb, hml, hown, hts⟩ (q_ccell l v7_2 y33 i9 iy33) ⟨va_cnB 2 hts (gi_0 (in_10 _ (zs16 (zs4 (zs0))))) rfl rfl rfl (hEV.1.1 _ (List.mem_of_getElem? (i := 7) rfl)) (hts _ (vA_in _ _ (in_4 _ (zs16 (zs4 (zs1 (zs1 (zs1 (zs0))))))))) hz_yX12_cell_2 ⟨Nat.le_of_ble_eq_true rfl, Nat.le_of_ble_eq_true rfl⟩, (hts _ (vA_in _ _ (in_13 _ (zs1 (zs0))))), trivial⟩ ⟨fun _ _ _ _ q => q, fun _ _ _ => ⟨rfl, trivial⟩⟩ rfl rfl hl.1 rfl (lv_room (Nat.le_of_ble_eq_true rfl)) dX3_gatherChanged_63 ⟨Nat.le_of_ble_eq_true rfl, Nat.le_of_ble_eq_true rfl⟩) hS (fun r35 H1 locs1 hw hk1 hS => ?_)
                have hP := ub_keep hP hk1
                generalize H1 = H at hP hS ⊢
                generalize locs1 = locs at hS ⊢
                obtain ⟨f36, f37⟩ := hw
                refine lv_istore (lv' := [(5, .int r35), (4, .int v49_4), (3, .int v49_3), (2, .int v7_2), (0, .ref (ad 6)), (1, .int a0)]) hx hb dX3_gatherChanged_66 hl (by decide) rfl (fun ls hl => ?_)
                refine lv_aload_n hx hb dX3_gatherChanged_68 rfl (lv_at hl 4 rfl) ?_
                refine th_getL (ci := 4) (C := RX3) (T := TX3) (N := 18) (v := .ref (ad 43)) hx hb hts hinX3 hown hK hP hI 6 (mF 6 rfl) rfl rfl 2 (Nat.le_of_ble_eq_true rfl) (hts _ (vA_in _ _ (in_11 _ (zs16 (zs4 (zs4 (zs1 (zs1 (zs0))))))))) (fun _ h9 => h9) (hI.fr 6 (mF 6 rfl) rfl (Nat.le_of_ble_eq_true rfl) 43 rfl) dX3_gatherChanged_69 ?_
                refine lv_iload hx hb dX3_gatherChanged_72 (lv_at hl 0 rfl) ?_
                have n39 : vp_in r35 320 := (iv_in (n := 320) f36 (by decide))
                refine th_zaldL hx hb hK hP hI 43 (mF 43 rfl) rfl rfl n39 dX3_gatherChanged_74 (fun y38 ey38 => ?_)
                have iy38 : 0 ≤ y38.toInt ∧ y38.toInt ≤ 1 := hI.el 43 (mF 43 rfl) rfl n39 (fun _ => rfl) ey38
                have ey38 := ey38.trans (hKp.ei 43 _ rfl)
                have hJ81 : ∀ (v81_3 : Int32) (H : Heap) (locs : List Loc) (ls : Array Slot), va_P (dC, dI) vwCl (WL (LC cf) ad E49_) H → va_S A s.heap H locs → lv_has ls 8 [(5, .int r35), (4, .int v49_4), (3, .int v81_3), (2, .int v7_2), (0, .ref (ad 6)), (1, .int a0)] → W p l e (headSpec v_gatherChanged rm_gatherChanged).room s m args below meth c H locs 0 0 Q (F0 m 81 ls []) := by
                  intro v81_3 H locs ls hP hS hl
                  refine lv_iconst (v := 0) hx hb dX3_gatherChanged_81 (by decide) ?_
                  refine lv_istore (lv' := [(6, .int 0), (5, .int r35), (4, .int v49_4), (3, .int v81_3), (2, .int v7_2), (0, .ref (ad 6)), (1, .int a0)]) hx hb dX3_gatherChanged_82 hl (by decide) rfl (fun ls hl => ?_)
                  have hL84 : ∀ d : Nat, ∀ (v84_6 : Int32) (E84_ : Nat → va_E) (H : Heap) (locs : List Loc) (ls : Array Slot), 0 ≤ v84_6.toInt ∧ v84_6.toInt ≤ 7 → 7 - v84_6.toInt < (d : Int) → IXL cT (shC cf) (spC cf) (LC cf) ad E84_ → Kp w_gatherChanged E E84_ → xv (E84_ 6) 15 = .int w7_6_15 → va_P (dC, dI) vwCl (WL (LC cf) ad E84_) H → va_S A s.heap H locs → lv_has ls 8 [(6, .int v84_6), (5, .int r35), (4, .int v49_4), (3, .int v81_3), (2, .int v7_2), (0, .ref (ad 6)), (1, .int a0)] → W p l e (headSpec v_gatherChanged rm_gatherChanged).room s m args below meth c H locs 0 0 Q (F0 m 84 ls []) := by
                    intro d
                    induction d with
                    | zero =>
                      intro v84_6 E84_ H locs ls hv84_6 hx84_0 hI hKp hs84_6_15 hP hS hl
                      exact absurd hx84_0 (by first | exact ms_zu hv84_6.2 | omega)
                    | succ d ih84 =>
                      intro v84_6 E84_ H locs ls hv84_6 hx84_0 hI hKp hs84_6_15 hP hS hl
                      refine lv_iload hx hb dX3_gatherChanged_84 (lv_at hl 0 rfl) ?_
                      refine lv_bipush (v := 7) hx hb dX3_gatherChanged_86 (by decide) ?_
                      refine lv_icmp_ge (tgt := 160) hx hb dX3_gatherChanged_88 (by decide) (fun c40 => ?_) (fun c40 => ?_)
                      · --88 taken
                        have t41 : (7 : Int) ≤ v84_6.toInt := ti_le c40
                        have i42 : 7 ≤ v84_6.toInt ∧ v84_6.toInt ≤ 7 := iv_le_r t41 (il_ 7) hv84_6 (by decide)
                        obtain ⟨y43, ey43⟩ : ∃ y : Int32, y = v49_4 + (1 : Int32) := ⟨_, rfl⟩
                        obtain ⟨ty43, iy43⟩ := ti_add (e := 1) (f := 4) i31 ln_1 ey43 (by decide)
                        have ty43 : y43.toInt = v49_4.toInt + 1 := ty43
                        have iy43 : 1 ≤ y43.toInt ∧ y43.toInt ≤ 4 := iy43
                        refine lv_iinc (v := y43) (lv' := [(4, .int y43), (6, .int v84_6), (5, .int r35), (3, .int v81_3), (2, .int v7_2), (0, .ref (ad 6)), (1, .int a0)]) hx hb dX3_gatherChanged_160 hl (k := 2) rfl (by rw [ey43]; rfl) (by decide) rfl (fun ls hl => ?_)
                        refine lv_goto (tgt := 49) hx hb dX3_gatherChanged_163 (by decide) ?_
                        exact ih49 y43 v81_3 E84_ _ _ _ (iv_w iy43 (by decide)) (by first | exact ms_su hx49_0 ty43 (by decide) | omega) hI hKp hs84_6_15 hP hS (lv_sub hl [0, 3, 4, 5, 6] rfl)
                      · --88 not
                        have t44 : v84_6.toInt < 7 := ti_nle c40
                        have i45 : 0 ≤ v84_6.toInt ∧ v84_6.toInt ≤ 6 := iv_lt_l t44 hv84_6 (il_ 7) (by decide)
                        refine lv_iconst (v := 1) hx hb dX3_gatherChanged_91 (by decide) ?_
                        refine lv_aload_n hx hb dX3_gatherChanged_92 rfl (lv_at hl 5 rfl) ?_
                        refine th_getL (ci := 4) (C := RX3) (T := TX3) (N := 18) (v := .ref (ad 45)) hx hb hts hinX3 hown hK hP hI 6 (mF 6 rfl) rfl rfl 4 (Nat.le_of_ble_eq_true rfl) (hts _ (vA_in _ _ (in_11 _ (zs16 (zs4 (zs4 (zs4 (zs1 (zs1 (zs0)))))))))) (fun _ h9 => h9) (hI.fr 6 (mF 6 rfl) rfl (Nat.le_of_ble_eq_true rfl) 45 rfl) dX3_gatherChanged_93 ?_
                        refine lv_iload hx hb dX3_gatherChanged_96 (lv_at hl 1 rfl) ?_
                        have n47 : vp_in r35 320 := (iv_in (n := 320) f36 (by decide))
                        refine th_ialdL hx hb hK hP hI 45 (mF 45 rfl) rfl rfl n47 dX3_gatherChanged_98 (fun y46 ey46 => ?_)
                        have iy46 : 0 ≤ y46.toInt ∧ y46.toInt ≤ 2000 := hI.el 45 (mF 45 rfl) rfl n47 (fun _ => rfl) ey46
                        have ey46 := ey46.trans (hKp.ei 45 _ rfl)
                        refine lv_iload hx hb dX3_gatherChanged_99 (lv_at hl 0 rfl) ?_
                        refine lv_iadd hx hb dX3_gatherChanged_101 ?_
                        refine lv_topi (fun y48 ey48 => ?_)
                        obtain ⟨ty48, iy48⟩ := ti_add (e := 0) (f := 2006) iy46 i45 ey48 (by decide)
                        have ty48 : y48.toInt = y46.toInt + v84_6.toInt := ty48
                        have iy48 : 0 ≤ y48.toInt ∧ y48.toInt ≤ 2006 := iy48
                        refine lv_iconst (v := 3) hx hb dX3_gatherChanged_102 (by decide) ?_
                        refine lv_isub hx hb dX3_gatherChanged_103 ?_
                        refine lv_topi (fun y49 ey49 => ?_)
                        obtain ⟨ty49, iy49⟩ := ti_sub (e := (-3)) (f := 2003) iy48 ln_3 ey49 (by decide)
                        have ty49 : y49.toInt = y48.toInt - 3 := ty49
                        have iy49 : -3 ≤ y49.toInt ∧ y49.toInt ≤ 2003 := iy49
                        refine va_mmax hx hb (by rw [hml]; exact hl.1.symm) hown (hts _ (vA_in _ _ (in_13 _ (zs16 (zs1 (zs1 (zs1 (zs0)))))))) (hts _ (vA_in _ _ (in_0 _ (zs16 (zs16 (zs0)))))) (hts _ (vA_in _ _ (in_0 _ (zs16 (zs16 (zs1 (zs0))))))) (hts _ (vA_in _ _ (in_0 _ (zs16 (zs16 (zs1 (zs1 (zs0)))))))) (Nat.le_of_ble_eq_true rfl) (Nat.le_of_ble_eq_true rfl) (Nat.le_of_ble_eq_true rfl) (Nat.le_of_ble_eq_true rfl) dX3_gatherChanged_104 ?_
                        have z1 := ln_1
                        refine lv_topi (fun y50 ey50 => ?_)
                        obtain ⟨ty50, iy50⟩ := ti_max (e := 1) (f := 2003) ln_1 iy49 ey50 (by decide)
                        have iy50 : 1 ≤ y50.toInt ∧ y50.toInt ≤ 2003 := iy50
                        refine lv_istore (lv' := [(7, .int y50), (6, .int v84_6), (5, .int r35), (4, .int v49_4), (3, .int v81_3), (2, .int v7_2), (0, .ref (ad 6)), (1, .int a0)]) hx hb dX3_gatherChanged_107 hl (by decide) rfl (fun ls hl => ?_)
                        refine lv_aload_n hx hb dX3_gatherChanged_109 rfl (lv_at hl 6 rfl) ?_
                        refine th_getL (ci := 4) (C := RX3) (T := TX3) (N := 18) (v := .ref (ad 52)) hx hb hts hinX3 hown hK hP hI 6 (mF 6 rfl) rfl rfl 11 (Nat.le_of_ble_eq_true rfl) (hts _ (vA_in _ _ (in_13 _ (zs16 (zs4 (zs0)))))) (fun _ h9 => h9) (hI.fr 6 (mF 6 rfl) rfl (Nat.le_of_ble_eq_true rfl) 52 rfl) dX3_gatherChanged_110 ?_
                        refine lv_aload_n hx hb dX3_gatherChanged_113 rfl (lv_at hl 6 rfl) ?_
                        refine th_getL (ci := 4) (C := RX3) (T := TX3) (N := 18) (v := .int w7_6_15) hx hb hts hinX3 hown hK hP hI 6 (mF 6 rfl) rfl rfl 15 (Nat.le_of_ble_eq_true rfl) (hts _ (vA_in _ _ (in_13 _ (zs16 (zs0))))) (fun _ h9 => h9) hs84_6_15 dX3_gatherChanged_114 ?_
                        refine lv_iload hx hb dX3_gatherChanged_117 (lv_at hl 3 rfl) ?_
                        refine th_pi (va_runS (As := [.int w7_6_15, .int v49_4]) (rest := [.ref (ad 52)]) ⟨hx, hb, hml, hown, hts⟩ (q_crowOf l w7_6_15 v49_4 i11 i31) (va_cwS 2 hts (gi_S (in_13 _ (zs16 (zs4 (zs1 (zs1 (zs0)))))) (in_13 _ (zs16 (zs4 (zs1 (zs1 (zs1 (zs0))))))) (in_11 _ (zs4 (zs4 (zs4 (zs1 (zs1 (zs1 (zs0)))))))) (in_13 _ (zs16 (zs4 (zs4 (zs0)))))) rfl rfl rfl hz_yX3_rowOf_2 ⟨Nat.le_of_ble_eq_true rfl, Nat.le_of_ble_eq_true rfl⟩) ⟨fun _ _ _ _ q => q, fun _ _ _ => ⟨rfl, trivial⟩⟩ rfl rfl hl.1 rfl (lv_room (Nat.le_of_ble_eq_true rfl)) dX3_gatherChanged_119 ⟨Nat.le_of_ble_eq_true rfl, Nat.le_of_ble_eq_true rfl⟩) hS (fun r51 H1 locs1 hw hk1 hS => ?_)
                        have hP := ub_keep hP hk1
                        generalize H1 = H at hP hS ⊢
                        generalize locs1 = locs at hS ⊢
                        obtain ⟨f52, f53⟩ := hw
                        refine lv_iload hx hb dX3_gatherChanged_122 (lv_at hl 1 rfl) ?_
                        refine lv_iadd hx hb dX3_gatherChanged_124 ?_
                        refine lv_topi (fun y54 ey54 => ?_)
                        obtain ⟨ty54, iy54⟩ := ti_add (e := 0) (f := 559) f52 i45 ey54 (by decide)
                        have ty54 : y54.toInt = r51.toInt + v84_6.toInt := ty54
                        have iy54 : 0 ≤ y54.toInt ∧ y54.toInt ≤ 559 := iy54
                        refine lv_aload_n hx hb dX3_gatherChanged_125 rfl (lv_at hl 6 rfl) ?_
                        refine th_getL (ci := 4) (C := RX3) (T := TX3) (N := 18) (v := .ref (ad 43)) hx hb hts hinX3 hown hK hP hI 6 (mF 6 rfl) rfl rfl 2 (Nat.le_of_ble_eq_true rfl) (hts _ (vA_in _ _ (in_11 _ (zs16 (zs4 (zs4 (zs1 (zs1 (zs0))))))))) (fun _ h9 => h9) (hI.fr 6 (mF 6 rfl) rfl (Nat.le_of_ble_eq_true rfl) 43 rfl) dX3_gatherChanged_126 ?_
                        refine lv_iload hx hb dX3_gatherChanged_129 (lv_at hl 2 rfl) ?_
                        have n56 : vp_in r35 320 := (iv_in (n := 320) f36 (by decide))
                        refine th_zaldL hx hb hK hP hI 43 (mF 43 rfl) rfl rfl n56 dX3_gatherChanged_131 (fun y55 ey55 => ?_)
                        have iy55 : 0 ≤ y55.toInt ∧ y55.toInt ≤ 1 := hI.el 43 (mF 43 rfl) rfl n56 (fun _ => rfl) ey55
                        have ey55 := ey55.trans (hKp.ei 43 _ rfl)
                        refine lv_if_eq (tgt := 152) hx hb dX3_gatherChanged_132 (by decide) (fun c57 => ?_) (fun c57 => ?_)
                        · --132 taken
                          have t58 : y55.toInt = 0 := ti_eq c57
                          have i59 : 0 ≤ y55.toInt ∧ y55.toInt ≤ 0 := iv_eqi t58 iy55 (il_ 0) (by decide)
                          refine lv_iconst (v := -1) hx hb dX3_gatherChanged_152 (by decide) ?_
                          have n60 : vp_in y54 560 := (iv_in (n := 560) iy54 (by decide))
                          refine th_iastL hx hb hK hP (WL_D hD) hS hI 52 (mF 52 rfl) rfl rfl n60 (okI rfl (iv_w ln_m1 (by decide))) dX3_gatherChanged_153 (fun H locs E61 pw62 hI hP hS => ?_)
                          have hKp := hKp.pw pw62 rfl
                          obtain ⟨y63, ey63⟩ : ∃ y : Int32, y = v84_6 + (1 : Int32) := ⟨_, rfl⟩
                          obtain ⟨ty63, iy63⟩ := ti_add (e := 1) (f := 7) i45 ln_1 ey63 (by decide)
                          have ty63 : y63.toInt = v84_6.toInt + 1 := ty63
                          have iy63 : 1 ≤ y63.toInt ∧ y63.toInt ≤ 7 := iy63
                          refine lv_iinc (v := y63) (lv' := [(6, .int y63), (7, .int y50), (5, .int r35), (4, .int v49_4), (3, .int v81_3), (2, .int v7_2), (0, .ref (ad 6)), (1, .int a0)]) hx hb dX3_gatherChanged_154 hl (k := 1) rfl (by rw [ey63]; rfl) (by decide) rfl (fun ls hl => ?_)
                          refine lv_goto (tgt := 84) hx hb dX3_gatherChanged_157 (by decide) ?_
                          exact ih84 y63 E61 _ _ _ (iv_w iy63 (by decide)) (by first | exact ms_su hx84_0 ty63 (by decide) | omega) hI hKp ((pw62.2 6 15 (fun q9 => absurd q9.1 (Nat.ne_of_beq_eq_false rfl))).trans hs84_6_15) hP hS (lv_sub hl [0, 2, 3, 4, 5, 6, 7] rfl)
                        · --132 not
                          have t64 : ¬ y55.toInt = 0 := ti_ne c57
                          have i65 : 1 ≤ y55.toInt ∧ y55.toInt ≤ 1 := iv_ne_l t64 iy55 (il_ 0)
                          refine lv_aload_n hx hb dX3_gatherChanged_135 rfl (lv_at hl 6 rfl) ?_
                          refine th_getL (ci := 4) (C := RX3) (T := TX3) (N := 18) (v := .ref (ad 44)) hx hb hts hinX3 hown hK hP hI 6 (mF 6 rfl) rfl rfl 3 (Nat.le_of_ble_eq_true rfl) (hts _ (vA_in _ _ (in_11 _ (zs16 (zs4 (zs4 (zs4 (zs0)))))))) (fun _ h9 => h9) (hI.fr 6 (mF 6 rfl) rfl (Nat.le_of_ble_eq_true rfl) 44 rfl) dX3_gatherChanged_136 ?_
                          refine lv_iload hx hb dX3_gatherChanged_139 (lv_at hl 2 rfl) ?_
                          have n67 : vp_in r35 320 := (iv_in (n := 320) f36 (by decide))
                          refine th_ialdL hx hb hK hP hI 44 (mF 44 rfl) rfl rfl n67 dX3_gatherChanged_141 (fun y66 ey66 => ?_)
                          have iy66 : 0 ≤ y66.toInt ∧ y66.toInt ≤ 200000 := hI.el 44 (mF 44 rfl) rfl n67 (fun _ => rfl) ey66
                          have ey66 := ey66.trans (hKp.ei 44 _ rfl)
                          refine lv_iload hx hb dX3_gatherChanged_142 (lv_at hl 0 rfl) ?_
                          refine lv_imul hx hb dX3_gatherChanged_144 ?_
                          refine lv_topi (fun y68 ey68 => ?_)
                          obtain ⟨ty68, iy68⟩ := ti_mul (e := 0) (f := 400600000) iy66 iy50 ey68 (by decide)
                          have ty68 : y68.toInt = y66.toInt * y50.toInt := ty68
                          have iy68 : 0 ≤ y68.toInt ∧ y68.toInt ≤ 400600000 := iy68
                          refine lv_sipush (v := 1000) hx hb dX3_gatherChanged_145 (by decide) ?_
                          refine lv_idiv hx hb dX3_gatherChanged_148 (by decide) ?_
                          refine lv_topi (fun y69 ey69 => ?_)
                          obtain ⟨ty69, iy69⟩ := ti_div (e := 0) (f := 400600) iy68 ln_1000 ey69 (by decide)
                          have iy69 : 0 ≤ y69.toInt ∧ y69.toInt ≤ 400600 := iy69
                          refine lv_goto (tgt := 153) hx hb dX3_gatherChanged_149 (by decide) ?_
                          have n70 : vp_in y54 560 := (iv_in (n := 560) iy54 (by decide))
                          refine th_iastL hx hb hK hP (WL_D hD) hS hI 52 (mF 52 rfl) rfl rfl n70 (okI rfl (iv_w iy69 (by decide))) dX3_gatherChanged_153 (fun H locs E71 pw72 hI hP hS => ?_)
                          have hKp := hKp.pw pw72 rfl
                          obtain ⟨y73, ey73⟩ : ∃ y : Int32, y = v84_6 + (1 : Int32) := ⟨_, rfl⟩
                          obtain ⟨ty73, iy73⟩ := ti_add (e := 1) (f := 7) i45 ln_1 ey73 (by decide)
                          have ty73 : y73.toInt = v84_6.toInt + 1 := ty73
                          have iy73 : 1 ≤ y73.toInt ∧ y73.toInt ≤ 7 := iy73
                          refine lv_iinc (v := y73) (lv' := [(6, .int y73), (7, .int y50), (5, .int r35), (4, .int v49_4), (3, .int v81_3), (2, .int v7_2), (0, .ref (ad 6)), (1, .int a0)]) hx hb dX3_gatherChanged_154 hl (k := 1) rfl (by rw [ey73]; rfl) (by decide) rfl (fun ls hl => ?_)
                          refine lv_goto (tgt := 84) hx hb dX3_gatherChanged_157 (by decide) ?_
                          exact ih84 y73 E71 _ _ _ (iv_w iy73 (by decide)) (by first | exact ms_su hx84_0 ty73 (by decide) | omega) hI hKp ((pw72.2 6 15 (fun q9 => absurd q9.1 (Nat.ne_of_beq_eq_false rfl))).trans hs84_6_15) hP hS (lv_sub hl [0, 2, 3, 4, 5, 6, 7] rfl)
                  exact hL84 (8) (0 : Int32) E49_ _ _ _ (iv_w ln_0 (by decide)) (by have h9 := ln_0; first | exact ms_bu h9.1 (by decide) | omega) hI hKp hs49_6_15 hP hS (lv_sub hl [0, 1, 2, 3, 4, 5, 6] rfl)
                refine lv_if_eq (tgt := 81) hx hb dX3_gatherChanged_75 (by decide) (fun c74 => ?_) (fun c74 => ?_)
                · --75 taken
                  have t75 : y38.toInt = 0 := ti_eq c74
                  have i76 : 0 ≤ y38.toInt ∧ y38.toInt ≤ 0 := iv_eqi t75 iy38 (il_ 0) (by decide)
                  exact hJ81 v49_3 _ _ _ hP hS (lv_sub hl [0, 1, 2, 3, 4, 5] rfl)
                · --75 not
                  have t77 : ¬ y38.toInt = 0 := ti_ne c74
                  have i78 : 1 ≤ y38.toInt ∧ y38.toInt ≤ 1 := iv_ne_l t77 iy38 (il_ 0)
                  obtain ⟨y79, ey79⟩ : ∃ y : Int32, y = v49_3 + (1 : Int32) := ⟨_, rfl⟩
                  refine lv_iinc (v := y79) (lv' := [(3, .int y79), (5, .int r35), (4, .int v49_4), (2, .int v7_2), (0, .ref (ad 6)), (1, .int a0)]) hx hb dX3_gatherChanged_78 hl (k := 2) rfl (by rw [ey79]; rfl) (by decide) rfl (fun ls hl => ?_)
                  exact hJ81 y79 _ _ _ hP hS (lv_sub hl [1, 2, 0, 3, 4, 5] rfl)
          exact hL49 (5) (0 : Int32) (0 : Int32) E7_ _ _ _ (iv_w ln_0 (by decide)) (by have h9 := ln_0; first | exact ms_bu h9.1 (by decide) | omega) hI hKp hs7_6_15 hP hS (lv_sub hl [0, 1, 2, 3, 4] rfl)
        · --38 not
          have t80 : ¬ (xi (E (64 * (v7_2.toNatClampNeg + 1) + 6)) 3).toInt = 0 := ti_ne c15
          have i81 : 1 ≤ (xi (E (64 * (v7_2.toNatClampNeg + 1) + 6)) 3).toInt ∧ (xi (E (64 * (v7_2.toNatClampNeg + 1) + 6)) 3).toInt ≤ 1 := iv_ne_l t80 i14 (il_ 0)
          refine lv_goto (tgt := 181) hx hb dX3_gatherChanged_41 (by decide) ?_
          obtain ⟨y82, ey82⟩ : ∃ y : Int32, y = v7_2 + (1 : Int32) := ⟨_, rfl⟩
          obtain ⟨ty82, iy82⟩ := ti_add (e := 1) (f := 20) i9 ln_1 ey82 (by decide)
          have ty82 : y82.toInt = v7_2.toInt + 1 := ty82
          have iy82 : 1 ≤ y82.toInt ∧ y82.toInt ≤ 20 := iy82
          refine lv_iinc (v := y82) (lv' := [(2, .int y82), (0, .ref (ad 6)), (1, .int a0)]) hx hb dX3_gatherChanged_181 hl (k := 0) rfl (by rw [ey82]; rfl) (by decide) rfl (fun ls hl => ?_)
          refine lv_goto (tgt := 7) hx hb dX3_gatherChanged_184 (by decide) ?_
          exact ih7 w7_6_15 y82 E7_ _ _ _ (iv_w i11 (by decide)) (iv_w iy82 (by decide)) (by have h9 := i11; have h8 := iy82; omega) (by first | exact ms_su hx7_1 ty82 (by decide) | omega) hI hKp hs7_6_15 hP hS (lv_sub hl [0, 1, 2] rfl)
  exact hL7 (21) (0 : Int32) (0 : Int32) E1 _ _ _ (iv_w ln_0 (by decide)) (iv_w ln_0 (by decide)) (by have h9 := ln_0; have h8 := ln_0; omega) (by have h9 := ln_0; first | exact ms_bu h9.1 (by decide) | omega) hI hKp pw2.1 hP hS (lv_sub hl [0, 1, 2] rfl)
def v_spreadTried : List Cond := .code yX3_spreadTried cX3_spreadTried 8 (some .int) :: vA
abbrev rm_spreadTried : Room := { frames := 1, cells := 0, slots := 0, locals := 40 }
set_option maxHeartbeats 4000000 in
set_option maxRecDepth 100000 in
theorem q_spreadTried (l : Launch) (dC : Nat → ClassId) (dI : Nat → Nat → Nat) (cT : Nat → ClassId) (cf : Nat → Nat) (hC : CF cf) (ad : Nat → Nat) (E : Nat → va_E) (sz : Nat) (a0 : Int32) (hI0 : IXL cT (shC cf) (spC cf) (LC cf) ad E) (hh0 : 0 ≤ a0.toInt ∧ a0.toInt ≤ 4) : Met l yX3_spreadTried v_spreadTried rm_spreadTried (va_Pc [.ref (ad 6), .int a0] (HWL dC dI (TYC cT) cf ad E sz)) (va_Qi (S := Unit) (fun r _ => True) (fun _ _ => True) (fun _ => False)) 0 0 (fun _ => False) := by
  obtain ⟨⟨hc0, hc1, hc2, hc3, hc4, hc5⟩, hcr⟩ := id hC
  refine Met.ofW (cc := cX3_spreadTried) (maxL := 8) (ret := (some .int)) (by decide) rfl ?_
  intro p e s m args below meth c s₁ B hml hv
  obtain ⟨hargs, hsz, hP, hK, hD0, hEV⟩ := hv
  subst hsz
  have hx := B.exec
  have hb := B.bytes
  have hr := B.returns
  have hts := atoms_spec (ws := v_spreadTried) B.pre
  have hown : s.vm.findClass RX3 = some m.cls := findClass_of_methodNamed B.named
  have hlocks := B.notSynchronized
  have hinX3 : ∀ w ∈ u_ws RX3 TX3 18, w ∈ v_spreadTried := fun w h => vA_in _ w (in_X3 w h)
  have hS : va_S (fun _ : Nat => False) s.heap s.heap [] := va_S.rf
  have hD := hD0
  have hI := hI0
  have hKp : Kp (wl [] []) E E := Kp.rf
  have hl := lv_entry ([.ref (ad 6), .int a0]) (n := 8) (Nat.le_of_ble_eq_true rfl)
  obtain ⟨Q, hQ⟩ : ∃ Q, Q = MQ below (va_Qi (S := Unit) (fun r _ => True) (fun _ _ => True) (fun _ => False)) args s 0 0 (fun _ => False) := ⟨_, rfl⟩
  rw [← hQ, show entryFrame m args 8 = _ from (congrArg (fun z => entryFrame m z 8) hargs).trans (lg_entry_eq _ _ _)]
  generalize (lg_sl ([.ref (ad 6), .int a0]) ++ List.replicate (8 - (lg_sl ([.ref (ad 6), .int a0])).length) Slot.unset).toArray = ls at hl ⊢
  have hl : lv_has ls 8 [(0, .ref (ad 6)), (1, .int a0)] := hl
  refine lv_iconst (v := 0) hx hb dX3_spreadTried_0 (by decide) ?_
  refine lv_istore_n (lv' := [(2, .int 0), (0, .ref (ad 6)), (1, .int a0)]) hx hb dX3_spreadTried_1 rfl hl (by decide) rfl (fun ls hl => ?_)
  refine lv_iconst (v := 0) hx hb dX3_spreadTried_2 (by decide) ?_
  refine lv_istore_n (lv' := [(3, .int 0), (2, .int 0), (0, .ref (ad 6)), (1, .int a0)]) hx hb dX3_spreadTried_3 rfl hl (by decide) rfl (fun ls hl => ?_)
  have hL4 : ∀ d : Nat, ∀ (v4_3 : Int32) (v4_2 : Int32) (H : Heap) (locs : List Loc) (ls : Array Slot), 0 ≤ v4_3.toInt ∧ v4_3.toInt ≤ 20 → 20 - v4_3.toInt < (d : Int) → va_P (dC, dI) vwCl (WL (LC cf) ad E) H → va_S (fun _ : Nat => False) s.heap H locs → lv_has ls 8 [(3, .int v4_3), (2, .int v4_2), (0, .ref (ad 6)), (1, .int a0)] → W p l e (headSpec v_spreadTried rm_spreadTried).room s m args below meth c H locs 0 0 Q (F0 m 4 ls []) := by
    intro d
    induction d with
    | zero =>
      intro v4_3 v4_2 H locs ls hv4_3 hx4_0 hP hS hl
      exact absurd hx4_0 (by first | exact ms_zu hv4_3.2 | omega)
    | succ d ih4 =>
      intro v4_3 v4_2 H locs ls hv4_3 hx4_0 hP hS hl
      refine lv_iload_n hx hb dX3_spreadTried_4 rfl (lv_at hl 0 rfl) ?_
      refine lv_aload_n hx hb dX3_spreadTried_5 rfl (lv_at hl 2 rfl) ?_
      have i1 : 0 ≤ (xi (E 6) 15).toInt ∧ (xi (E 6) 15).toInt ≤ 20 := hI0.iv 6 (mF 6 rfl) rfl (Nat.le_of_ble_eq_true rfl) rfl
      refine th_getL (ci := 4) (C := RX3) (T := TX3) (N := 18) (v := .int (xi (E 6) 15)) hx hb hts hinX3 hown hK hP hI 6 (mF 6 rfl) rfl rfl 15 (Nat.le_of_ble_eq_true rfl) (hts _ (vA_in _ _ (in_13 _ (zs16 (zs0))))) (fun _ h9 => h9) (th_v0L hKp hI0 6 (mF 6 rfl) rfl (Nat.le_of_ble_eq_true rfl) rfl rfl) dX3_spreadTried_6 ?_
      refine lv_icmp_ge (tgt := 108) hx hb dX3_spreadTried_9 (by decide) (fun c2 => ?_) (fun c2 => ?_)
      · --9 taken
        have t3 : (xi (E 6) 15).toInt ≤ v4_3.toInt := ti_le c2
        refine lv_iload_n hx hb dX3_spreadTried_108 rfl (lv_at hl 1 rfl) ?_
        rw [hQ]
        exact W.iret (v := v4_2) hx hb hr (fun t ht hW => ⟨⟨v4_2, (), rfl, trivial, trivial⟩, hS.F ht⟩) hS.2.2 dX3_spreadTried_109
      · --9 not
        have t4 : v4_3.toInt < (xi (E 6) 15).toInt := ti_nle c2
        have i5 : 0 ≤ v4_3.toInt ∧ v4_3.toInt ≤ 19 := iv_lt_l t4 hv4_3 i1 (by decide)
        have i6 : 1 ≤ (xi (E 6) 15).toInt ∧ (xi (E 6) 15).toInt ≤ 20 := iv_lt_r t4 hv4_3 i1 (by decide)
        refine lv_iload_n hx hb dX3_spreadTried_12 rfl (lv_at hl 1 rfl) ?_
        refine lv_aload_n hx hb dX3_spreadTried_13 rfl (lv_at hl 2 rfl) ?_
        refine th_getL (ci := 4) (C := RX3) (T := TX3) (N := 18) (v := .int (xi (E 6) 16)) hx hb hts hinX3 hown hK hP hI 6 (mF 6 rfl) rfl rfl 16 (Nat.le_of_ble_eq_true rfl) (hts _ (vA_in _ _ (in_13 _ (zs4 (zs4 (zs0)))))) (fun _ h9 => h9) (th_v0L hKp hI0 6 (mF 6 rfl) rfl (Nat.le_of_ble_eq_true rfl) rfl rfl) dX3_spreadTried_14 ?_
        refine lv_icmp_gt (tgt := 108) hx hb dX3_spreadTried_17 (by decide) (fun c7 => ?_) (fun c7 => ?_)
        · --17 taken
          have t8 : (xi (E 6) 16).toInt < v4_2.toInt := ti_lt c7
          have i9 : -2147483648 ≤ (xi (E 6) 16).toInt ∧ (xi (E 6) 16).toInt ≤ 2147483646 := iv_lt_l t8 (iv_all _) (iv_all _) (by decide)
          have i10 : -2147483647 ≤ v4_2.toInt ∧ v4_2.toInt ≤ 2147483647 := iv_lt_r t8 (iv_all _) (iv_all _) (by decide)
          refine lv_iload_n hx hb dX3_spreadTried_108 rfl (lv_at hl 1 rfl) ?_
          rw [hQ]
          exact W.iret (v := v4_2) hx hb hr (fun t ht hW => ⟨⟨v4_2, (), rfl, trivial, trivial⟩, hS.F ht⟩) hS.2.2 dX3_spreadTried_109
        · --17 not
          have t11 : v4_2.toInt ≤ (xi (E 6) 16).toInt := ti_nlt c7
          refine lv_ldc hx hb hown (hts _ (vA_in _ _ (in_13 _ (zs4 (zs1 (zs1 (zs1 (zs0)))))))) dX3_spreadTried_20 ?_
          refine lv_istore (lv' := [(4, .int 2147483647), (3, .int v4_3), (2, .int v4_2), (0, .ref (ad 6)), (1, .int a0)]) hx hb dX3_spreadTried_22 hl (by decide) rfl (fun ls hl => ?_)
          refine lv_iconst (v := 0) hx hb dX3_spreadTried_24 (by decide) ?_
          refine lv_istore (lv' := [(5, .int 0), (4, .int 2147483647), (3, .int v4_3), (2, .int v4_2), (0, .ref (ad 6)), (1, .int a0)]) hx hb dX3_spreadTried_25 hl (by decide) rfl (fun ls hl => ?_)
          refine lv_iconst (v := 0) hx hb dX3_spreadTried_27 (by decide) ?_
          refine lv_istore (lv' := [(6, .int 0), (5, .int 0), (4, .int 2147483647), (3, .int v4_3), (2, .int v4_2), (0, .ref (ad 6)), (1, .int a0)]) hx hb dX3_spreadTried_28 hl (by decide) rfl (fun ls hl => ?_)
          have hL30 : ∀ d : Nat, ∀ (v30_6 : Int32) (v30_5 : Int32) (v30_4 : Int32) (H : Heap) (locs : List Loc) (ls : Array Slot), 0 ≤ v30_6.toInt ∧ v30_6.toInt ≤ 4 → 0 ≤ v30_5.toInt ∧ v30_5.toInt ≤ 400600 → 0 ≤ v30_4.toInt ∧ v30_4.toInt ≤ 2147483647 → 4 - v30_6.toInt < (d : Int) → va_P (dC, dI) vwCl (WL (LC cf) ad E) H → va_S (fun _ : Nat => False) s.heap H locs → lv_has ls 8 [(6, .int v30_6), (5, .int v30_5), (4, .int v30_4), (3, .int v4_3), (2, .int v4_2), (0, .ref (ad 6)), (1, .int a0)] → W p l e (headSpec v_spreadTried rm_spreadTried).room s m args below meth c H locs 0 0 Q (F0 m 30 ls []) := by
            intro d
            induction d with
            | zero =>
              intro v30_6 v30_5 v30_4 H locs ls hv30_6 hv30_5 hv30_4 hx30_0 hP hS hl
              exact absurd hx30_0 (by first | exact ms_zu hv30_6.2 | omega)
            | succ d ih30 =>
              intro v30_6 v30_5 v30_4 H locs ls hv30_6 hv30_5 hv30_4 hx30_0 hP hS hl
              refine lv_iload hx hb dX3_spreadTried_30 (lv_at hl 0 rfl) ?_
              refine lv_iload_n hx hb dX3_spreadTried_32 rfl (lv_at hl 6 rfl) ?_
              refine lv_icmp_ge (tgt := 94) hx hb dX3_spreadTried_33 (by decide) (fun c12 => ?_) (fun c12 => ?_)
              · --33 taken
                have t13 : a0.toInt ≤ v30_6.toInt := ti_le c12
                refine lv_iload_n hx hb dX3_spreadTried_94 rfl (lv_at hl 4 rfl) ?_
                refine lv_iload hx hb dX3_spreadTried_95 (lv_at hl 1 rfl) ?_
                refine lv_iload hx hb dX3_spreadTried_97 (lv_at hl 2 rfl) ?_
                refine lv_isub hx hb dX3_spreadTried_99 ?_
                refine lv_topi (fun y14 ey14 => ?_)
                obtain ⟨ty14, iy14⟩ := ti_sub (e := (-2147483647)) (f := 400600) hv30_5 hv30_4 ey14 (by decide)
                have ty14 : y14.toInt = v30_5.toInt - v30_4.toInt := ty14
                have iy14 : -2147483647 ≤ y14.toInt ∧ y14.toInt ≤ 400600 := iy14
                refine lv_iadd hx hb dX3_spreadTried_100 ?_
                refine lv_topi (fun y15 ey15 => ?_)
                refine lv_istore_n (lv' := [(2, .int y15), (6, .int v30_6), (5, .int v30_5), (4, .int v30_4), (3, .int v4_3), (0, .ref (ad 6)), (1, .int a0)]) hx hb dX3_spreadTried_101 rfl hl (by decide) rfl (fun ls hl => ?_)
                obtain ⟨y16, ey16⟩ : ∃ y : Int32, y = v4_3 + (1 : Int32) := ⟨_, rfl⟩
                obtain ⟨ty16, iy16⟩ := ti_add (e := 1) (f := 20) i5 ln_1 ey16 (by decide)
                have ty16 : y16.toInt = v4_3.toInt + 1 := ty16
                have iy16 : 1 ≤ y16.toInt ∧ y16.toInt ≤ 20 := iy16
                refine lv_iinc (v := y16) (lv' := [(3, .int y16), (2, .int y15), (6, .int v30_6), (5, .int v30_5), (4, .int v30_4), (0, .ref (ad 6)), (1, .int a0)]) hx hb dX3_spreadTried_102 hl (k := 4) rfl (by rw [ey16]; rfl) (by decide) rfl (fun ls hl => ?_)
                refine lv_goto (tgt := 4) hx hb dX3_spreadTried_105 (by decide) ?_
                exact ih4 y16 y15 _ _ _ (iv_w iy16 (by decide)) (by first | exact ms_su hx4_0 ty16 (by decide) | omega) hP hS (lv_sub hl [0, 1, 5, 6] rfl)
              · --33 not
                have t17 : v30_6.toInt < a0.toInt := ti_nle c12
                have i18 : 0 ≤ v30_6.toInt ∧ v30_6.toInt ≤ 3 := iv_lt_l t17 hv30_6 hh0 (by decide)
                have i19 : 1 ≤ a0.toInt ∧ a0.toInt ≤ 4 := iv_lt_r t17 hv30_6 hh0 (by decide)
                refine lv_aload_n hx hb dX3_spreadTried_36 rfl (lv_at hl 5 rfl) ?_
                refine th_getL (ci := 4) (C := RX3) (T := TX3) (N := 18) (v := .ref (ad 52)) hx hb hts hinX3 hown hK hP hI 6 (mF 6 rfl) rfl rfl 11 (Nat.le_of_ble_eq_true rfl) (hts _ (vA_in _ _ (in_13 _ (zs16 (zs4 (zs0)))))) (fun _ h9 => h9) (hI.fr 6 (mF 6 rfl) rfl (Nat.le_of_ble_eq_true rfl) 52 rfl) dX3_spreadTried_37 ?_
                refine lv_iload_n hx hb dX3_spreadTried_40 rfl (lv_at hl 3 rfl) ?_
                refine lv_iload hx hb dX3_spreadTried_41 (lv_at hl 0 rfl) ?_
                refine th_pi (va_runS (As := [.int v4_3, .int v30_6]) (rest := [.ref (ad 52)]) ⟨hx, hb, hml, hown, hts⟩ (q_crowOf l v4_3 v30_6 i5 i18) (va_cwS 2 hts (gi_S (in_13 _ (zs16 (zs4 (zs1 (zs1 (zs0)))))) (in_13 _ (zs16 (zs4 (zs1 (zs1 (zs1 (zs0))))))) (in_11 _ (zs4 (zs4 (zs4 (zs1 (zs1 (zs1 (zs0)))))))) (in_13 _ (zs16 (zs4 (zs4 (zs0)))))) rfl rfl rfl hz_yX3_rowOf_2 ⟨Nat.le_of_ble_eq_true rfl, Nat.le_of_ble_eq_true rfl⟩) ⟨fun _ _ _ _ q => q, fun _ _ _ => ⟨rfl, trivial⟩⟩ rfl rfl hl.1 rfl (lv_room (Nat.le_of_ble_eq_true rfl)) dX3_spreadTried_43 ⟨Nat.le_of_ble_eq_true rfl, Nat.le_of_ble_eq_true rfl⟩) hS (fun r20 H1 locs1 hw hk1 hS => ?_)
                have hP := ub_keep hP hk1
                generalize H1 = H at hP hS ⊢
                generalize locs1 = locs at hS ⊢
                obtain ⟨f21, f22⟩ := hw
                refine lv_aload_n hx hb dX3_spreadTried_46 rfl (lv_at hl 5 rfl) ?_
                refine th_getL (ci := 4) (C := RX3) (T := TX3) (N := 18) (v := .ref (ad 54)) hx hb hts hinX3 hown hK hP hI 6 (mF 6 rfl) rfl rfl 13 (Nat.le_of_ble_eq_true rfl) (hts _ (vA_in _ _ (in_13 _ (zs4 (zs4 (zs1 (zs0))))))) (fun _ h9 => h9) (hI.fr 6 (mF 6 rfl) rfl (Nat.le_of_ble_eq_true rfl) 54 rfl) dX3_spreadTried_47 ?_
                refine lv_iload hx hb dX3_spreadTried_50 (lv_at hl 0 rfl) ?_
                have n24 : vp_in v30_6 4 := (iv_in (n := 4) i18 (by decide))
                refine th_ialdL hx hb hK hP hI 54 (mF 54 rfl) rfl rfl n24 dX3_spreadTried_52 (fun y23 ey23 => ?_)
                have iy23 : 0 ≤ y23.toInt ∧ y23.toInt ≤ 6 := hI.el 54 (mF 54 rfl) rfl n24 (fun _ => rfl) ey23
                have ey23 := ey23.trans (hKp.ei 54 _ rfl)
                refine lv_iadd hx hb dX3_spreadTried_53 ?_
                refine lv_topi (fun y25 ey25 => ?_)
                obtain ⟨ty25, iy25⟩ := ti_add (e := 0) (f := 559) f21 iy23 ey25 (by decide)
                have ty25 : y25.toInt = r20.toInt + y23.toInt := ty25
                have iy25 : 0 ≤ y25.toInt ∧ y25.toInt ≤ 559 := iy25
                have n27 : vp_in y25 560 := (iv_in (n := 560) iy25 (by decide))
                refine th_ialdL hx hb hK hP hI 52 (mF 52 rfl) rfl rfl n27 dX3_spreadTried_54 (fun y26 ey26 => ?_)
                have iy26 : -1 ≤ y26.toInt ∧ y26.toInt ≤ 400600 := hI.el 52 (mF 52 rfl) rfl n27 (fun _ => rfl) ey26
                have ey26 := ey26.trans (hKp.ei 52 _ rfl)
                refine lv_istore (lv' := [(7, .int y26), (6, .int v30_6), (5, .int v30_5), (4, .int v30_4), (3, .int v4_3), (2, .int v4_2), (0, .ref (ad 6)), (1, .int a0)]) hx hb dX3_spreadTried_55 hl (by decide) rfl (fun ls hl => ?_)
                refine lv_iload hx hb dX3_spreadTried_57 (lv_at hl 0 rfl) ?_
                refine lv_iconst (v := -1) hx hb dX3_spreadTried_59 (by decide) ?_
                refine lv_icmp_ne (tgt := 66) hx hb dX3_spreadTried_60 (by decide) (fun c28 => ?_) (fun c28 => ?_)
                · --60 taken
                  have t29 : ¬ y26.toInt = -1 := ti_ne c28
                  have i30 : 0 ≤ y26.toInt ∧ y26.toInt ≤ 400600 := iv_ne_l t29 iy26 (il_ (-1))
                  refine lv_iload hx hb dX3_spreadTried_66 (lv_at hl 0 rfl) ?_
                  refine lv_iload hx hb dX3_spreadTried_68 (lv_at hl 3 rfl) ?_
                  have hJ77 : ∀ (v77_4 : Int32) (H : Heap) (locs : List Loc) (ls : Array Slot), 0 ≤ v77_4.toInt ∧ v77_4.toInt ≤ 400600 → va_P (dC, dI) vwCl (WL (LC cf) ad E) H → va_S (fun _ : Nat => False) s.heap H locs → lv_has ls 8 [(7, .int y26), (6, .int v30_6), (5, .int v30_5), (4, .int v77_4), (3, .int v4_3), (2, .int v4_2), (0, .ref (ad 6)), (1, .int a0)] → W p l e (headSpec v_spreadTried rm_spreadTried).room s m args below meth c H locs 0 0 Q (F0 m 77 ls []) := by
                    intro v77_4 H locs ls hv77_4 hP hS hl
                    refine lv_iload hx hb dX3_spreadTried_77 (lv_at hl 0 rfl) ?_
                    refine lv_iload hx hb dX3_spreadTried_79 (lv_at hl 2 rfl) ?_
                    refine lv_icmp_le (tgt := 88) hx hb dX3_spreadTried_81 (by decide) (fun c31 => ?_) (fun c31 => ?_)
                    · --81 taken
                      have t32 : y26.toInt ≤ v30_5.toInt := ti_le c31
                      obtain ⟨y33, ey33⟩ : ∃ y : Int32, y = v30_6 + (1 : Int32) := ⟨_, rfl⟩
                      obtain ⟨ty33, iy33⟩ := ti_add (e := 1) (f := 4) i18 ln_1 ey33 (by decide)
                      have ty33 : y33.toInt = v30_6.toInt + 1 := ty33
                      have iy33 : 1 ≤ y33.toInt ∧ y33.toInt ≤ 4 := iy33
                      refine lv_iinc (v := y33) (lv' := [(6, .int y33), (7, .int y26), (5, .int v30_5), (4, .int v77_4), (3, .int v4_3), (2, .int v4_2), (0, .ref (ad 6)), (1, .int a0)]) hx hb dX3_spreadTried_88 hl (k := 1) rfl (by rw [ey33]; rfl) (by decide) rfl (fun ls hl => ?_)
                      refine lv_goto (tgt := 30) hx hb dX3_spreadTried_91 (by decide) ?_
                      exact ih30 y33 v30_5 v77_4 _ _ _ (iv_w iy33 (by decide)) hv30_5 (iv_w hv77_4 (by decide)) (by first | exact ms_su hx30_0 ty33 (by decide) | omega) hP hS (lv_sub hl [0, 2, 3, 4, 5, 6, 7] rfl)
                    · --81 not
                      have t34 : v30_5.toInt < y26.toInt := ti_nle c31
                      have i35 : 0 ≤ v30_5.toInt ∧ v30_5.toInt ≤ 400599 := iv_lt_l t34 hv30_5 i30 (by decide)
                      have i36 : 1 ≤ y26.toInt ∧ y26.toInt ≤ 400600 := iv_lt_r t34 hv30_5 i30 (by decide)
                      refine lv_iload hx hb dX3_spreadTried_84 (lv_at hl 0 rfl) ?_
                      refine lv_istore (lv' := [(5, .int y26), (7, .int y26), (6, .int v30_6), (4, .int v77_4), (3, .int v4_3), (2, .int v4_2), (0, .ref (ad 6)), (1, .int a0)]) hx hb dX3_spreadTried_86 hl (by decide) rfl (fun ls hl => ?_)
                      obtain ⟨y37, ey37⟩ : ∃ y : Int32, y = v30_6 + (1 : Int32) := ⟨_, rfl⟩
                      obtain ⟨ty37, iy37⟩ := ti_add (e := 1) (f := 4) i18 ln_1 ey37 (by decide)
                      have ty37 : y37.toInt = v30_6.toInt + 1 := ty37
                      have iy37 : 1 ≤ y37.toInt ∧ y37.toInt ≤ 4 := iy37
                      refine lv_iinc (v := y37) (lv' := [(6, .int y37), (5, .int y26), (7, .int y26), (4, .int v77_4), (3, .int v4_3), (2, .int v4_2), (0, .ref (ad 6)), (1, .int a0)]) hx hb dX3_spreadTried_88 hl (k := 2) rfl (by rw [ey37]; rfl) (by decide) rfl (fun ls hl => ?_)
                      refine lv_goto (tgt := 30) hx hb dX3_spreadTried_91 (by decide) ?_
                      exact ih30 y37 y26 v77_4 _ _ _ (iv_w iy37 (by decide)) (iv_w i36 (by decide)) (iv_w hv77_4 (by decide)) (by first | exact ms_su hx30_0 ty37 (by decide) | omega) hP hS (lv_sub hl [0, 1, 3, 4, 5, 6, 7] rfl)
                  refine lv_icmp_ge (tgt := 77) hx hb dX3_spreadTried_70 (by decide) (fun c38 => ?_) (fun c38 => ?_)
                  · --70 taken
                    have t39 : v30_4.toInt ≤ y26.toInt := ti_le c38
                    have i40 : 0 ≤ v30_4.toInt ∧ v30_4.toInt ≤ 400600 := iv_le_l t39 hv30_4 i30 (by decide)
                    exact hJ77 v30_4 _ _ _ i40 hP hS (lv_sub hl [0, 1, 2, 3, 4, 5, 6, 7] rfl)
                  · --70 not
                    have t41 : y26.toInt < v30_4.toInt := ti_nle c38
                    have i42 : 1 ≤ v30_4.toInt ∧ v30_4.toInt ≤ 2147483647 := iv_lt_r t41 i30 hv30_4 (by decide)
                    refine lv_iload hx hb dX3_spreadTried_73 (lv_at hl 0 rfl) ?_
                    refine lv_istore (lv' := [(4, .int y26), (7, .int y26), (6, .int v30_6), (5, .int v30_5), (3, .int v4_3), (2, .int v4_2), (0, .ref (ad 6)), (1, .int a0)]) hx hb dX3_spreadTried_75 hl (by decide) rfl (fun ls hl => ?_)
                    exact hJ77 y26 _ _ _ i30 hP hS (lv_sub hl [1, 2, 3, 0, 4, 5, 6, 7] rfl)
                · --60 not
                  have t43 : y26.toInt = -1 := ti_eq c28
                  have i44 : -1 ≤ y26.toInt ∧ y26.toInt ≤ -1 := iv_eqi t43 iy26 (il_ (-1)) (by decide)
                  refine lv_goto (tgt := 88) hx hb dX3_spreadTried_63 (by decide) ?_
                  obtain ⟨y45, ey45⟩ : ∃ y : Int32, y = v30_6 + (1 : Int32) := ⟨_, rfl⟩
                  obtain ⟨ty45, iy45⟩ := ti_add (e := 1) (f := 4) i18 ln_1 ey45 (by decide)
                  have ty45 : y45.toInt = v30_6.toInt + 1 := ty45
                  have iy45 : 1 ≤ y45.toInt ∧ y45.toInt ≤ 4 := iy45
                  refine lv_iinc (v := y45) (lv' := [(6, .int y45), (7, .int y26), (5, .int v30_5), (4, .int v30_4), (3, .int v4_3), (2, .int v4_2), (0, .ref (ad 6)), (1, .int a0)]) hx hb dX3_spreadTried_88 hl (k := 1) rfl (by rw [ey45]; rfl) (by decide) rfl (fun ls hl => ?_)
                  refine lv_goto (tgt := 30) hx hb dX3_spreadTried_91 (by decide) ?_
                  exact ih30 y45 v30_5 v30_4 _ _ _ (iv_w iy45 (by decide)) hv30_5 hv30_4 (by first | exact ms_su hx30_0 ty45 (by decide) | omega) hP hS (lv_sub hl [0, 2, 3, 4, 5, 6, 7] rfl)
          exact hL30 (5) (0 : Int32) (0 : Int32) (2147483647 : Int32) _ _ _ (iv_w ln_0 (by decide)) (iv_w ln_0 (by decide)) (iv_w ln_2147483647 (by decide)) (by have h9 := ln_0; first | exact ms_bu h9.1 (by decide) | omega) hP hS (lv_sub hl [0, 1, 2, 3, 4, 5, 6] rfl)
  exact hL4 (21) (0 : Int32) (0 : Int32) _ _ _ (iv_w ln_0 (by decide)) (by have h9 := ln_0; first | exact ms_bu h9.1 (by decide) | omega) hP hS (lv_sub hl [0, 1, 2, 3] rfl)
def v_evenOut : List Cond := .code yX3_evenOut cX3_evenOut 9 none :: vA
abbrev rm_evenOut : Room := { frames := 4, cells := 0, slots := 0, locals := 160 }
def w_evenOut : Nat → Nat → Bool := wl [52, 53, 54, 55] [(6, 15), (6, 16)]
set_option maxHeartbeats 4000000 in
set_option maxRecDepth 100000 in
theorem q_evenOut (l : Launch) (dC : Nat → ClassId) (dI : Nat → Nat → Nat) (cT : Nat → ClassId) (cf : Nat → Nat) (hC : CF cf) (ad : Nat → Nat) (E : Nat → va_E) (sz : Nat) (a0 : Int32) (hI0 : IXL cT (shC cf) (spC cf) (LC cf) ad E)  : Met l yX3_evenOut v_evenOut rm_evenOut (va_Pc [.ref (ad 6), .int a0] (HWL dC dI (TYC cT) cf ad E sz)) (va_Qv (S := Nat → va_E) (fun u => IXL cT (shC cf) (spC cf) (LC cf) ad u ∧ Kp w_evenOut E u ∧ (True)) (HBL dC dI (LC cf) ad) (va_A (WL (LC cf) ad E) sz)) 0 0 (va_A (WL (LC cf) ad E) sz) := by
  obtain ⟨⟨hc0, hc1, hc2, hc3, hc4, hc5⟩, hcr⟩ := id hC
  refine Met.ofW (cc := cX3_evenOut) (maxL := 9) (ret := none) (by decide) rfl ?_
  intro p e s m args below meth c s₁ B hml hv
  obtain ⟨hargs, hsz, hP, hK, hD0, hEV⟩ := hv
  subst hsz
  have hx := B.exec
  have hb := B.bytes
  have hr := B.returns
  have hts := atoms_spec (ws := v_evenOut) B.pre
  have hown : s.vm.findClass RX3 = some m.cls := findClass_of_methodNamed B.named
  have hlocks := B.notSynchronized
  have hinX3 : ∀ w ∈ u_ws RX3 TX3 18, w ∈ v_evenOut := fun w h => vA_in _ w (in_X3 w h)
  generalize hAe : va_A (WL (LC cf) ad E) s.heap.size = A at hEV ⊢
  have hA : ∀ q : Nat, s.heap.size ≤ q → A q := fun q h => by rw [← hAe]; exact Or.inr h
  have hD : va_D A (WL (LC cf) ad E) := by rw [← hAe]; exact hD0.self
  have hS : va_S A s.heap s.heap [] := va_S.rf
  have hI := hI0
  have hKp : Kp w_evenOut E E := Kp.rf
  have hl := lv_entry ([.ref (ad 6), .int a0]) (n := 9) (Nat.le_of_ble_eq_true rfl)
  obtain ⟨Q, hQ⟩ : ∃ Q, Q = MQ below (va_Qv (S := Nat → va_E) (fun u => IXL cT (shC cf) (spC cf) (LC cf) ad u ∧ Kp w_evenOut E u ∧ (True)) (HBL dC dI (LC cf) ad) (A)) args s 0 0 (A) := ⟨_, rfl⟩
  rw [← hQ, show entryFrame m args 9 = _ from (congrArg (fun z => entryFrame m z 9) hargs).trans (lg_entry_eq _ _ _)]
  generalize (lg_sl ([.ref (ad 6), .int a0]) ++ List.replicate (9 - (lg_sl ([.ref (ad 6), .int a0])).length) Slot.unset).toArray = ls at hl ⊢
  have hl : lv_has ls 9 [(0, .ref (ad 6)), (1, .int a0)] := hl
  refine lv_iconst (v := 0) hx hb dX3_evenOut_0 (by decide) ?_
  refine lv_istore_n (lv' := [(2, .int 0), (0, .ref (ad 6)), (1, .int a0)]) hx hb dX3_evenOut_1 rfl hl (by decide) rfl (fun ls hl => ?_)
  refine lv_iconst (v := 0) hx hb dX3_evenOut_2 (by decide) ?_
  refine lv_istore_n (lv' := [(3, .int 0), (2, .int 0), (0, .ref (ad 6)), (1, .int a0)]) hx hb dX3_evenOut_3 rfl hl (by decide) rfl (fun ls hl => ?_)
  have hL4 : ∀ d : Nat, ∀ (v4_3 : Int32) (v4_2 : Int32) (E4_ : Nat → va_E) (H : Heap) (locs : List Loc) (ls : Array Slot), 0 ≤ v4_3.toInt ∧ v4_3.toInt ≤ 16 → 0 ≤ v4_2.toInt ∧ v4_2.toInt ≤ 4 → 16 - v4_3.toInt < (d : Int) → IXL cT (shC cf) (spC cf) (LC cf) ad E4_ → Kp w_evenOut E E4_ → va_P (dC, dI) vwCl (WL (LC cf) ad E4_) H → va_S A s.heap H locs → lv_has ls 9 [(3, .int v4_3), (2, .int v4_2), (0, .ref (ad 6)), (1, .int a0)] → W p l e (headSpec v_evenOut rm_evenOut).room s m args below meth c H locs 0 0 Q (F0 m 4 ls []) := by
    intro d
    induction d with
    | zero =>
      intro v4_3 v4_2 E4_ H locs ls hv4_3 hv4_2 hx4_0 hI hKp hP hS hl
      exact absurd hx4_0 (by first | exact ms_zu hv4_3.2 | omega)
    | succ d ih4 =>
      intro v4_3 v4_2 E4_ H locs ls hv4_3 hv4_2 hx4_0 hI hKp hP hS hl
      refine lv_iload_n hx hb dX3_evenOut_4 rfl (lv_at hl 0 rfl) ?_
      refine lv_bipush (v := 16) hx hb dX3_evenOut_5 (by decide) ?_
      refine lv_icmp_ge (tgt := 42) hx hb dX3_evenOut_7 (by decide) (fun c1 => ?_) (fun c1 => ?_)
      · --7 taken
        have t2 : (16 : Int) ≤ v4_3.toInt := ti_le c1
        have i3 : 16 ≤ v4_3.toInt ∧ v4_3.toInt ≤ 16 := iv_le_r t2 (il_ 16) hv4_3 (by decide)
        refine lv_aload_n hx hb dX3_evenOut_42 rfl (lv_at hl 2 rfl) ?_
        refine lv_iload_n hx hb dX3_evenOut_43 rfl (lv_at hl 1 rfl) ?_
        refine th_vL (va_runV (As := [.int v4_2]) (rest := []) ⟨hx, hb, hml, hown, hts⟩ (q_gatherChanged l dC dI cT cf hC ad E4_ H.size v4_2 hI hv4_2) (cwV 1 hts (gi_V (in_13 _ (zs4 (zs4 (zs4 (zs0))))) (in_13 _ (zs4 (zs4 (zs4 (zs1 (zs0)))))) (in_13 _ (zs4 (zs4 (zs4 (zs1 (zs1 (zs0))))))) (in_11 _ (zs4 (zs4 (zs4 (zs1 (zs1 (zs1 (zs0)))))))) (in_13 _ (zs4 (zs4 (zs4 (zs1 (zs1 (zs1 (zs0))))))))) rfl rfl rfl ⟨rfl, hz_yX3_gatherChanged_1⟩ ⟨Nat.le_of_ble_eq_true rfl, Nat.le_of_ble_eq_true rfl⟩) ⟨HWL_bl, va_recv hK hP (ci := 4) (q0 := posL 6 (LC cf)) rfl (hI.ob 6 (mF 6 rfl) rfl), (HWL_wi hP hK (WL_D hD) hS hA hEV)⟩ rfl rfl hl.1 rfl (lv_room (Nat.le_of_ble_eq_true rfl)) dX3_evenOut_44 ⟨Nat.le_of_ble_eq_true rfl, Nat.le_of_ble_eq_true rfl⟩) (WL_D hD) hS hA (fun E5 H locs hw hP hS => ?_)
        obtain ⟨hI, kq6, hw⟩ := hw
        have hKb := hKp
        have hKp := hKp.tr kq6 (wl_sub rfl rfl)
        refine lv_iconst (v := 1) hx hb dX3_evenOut_47 (by decide) ?_
        refine lv_istore_n (lv' := [(3, .int 1), (2, .int v4_2), (0, .ref (ad 6)), (1, .int a0)]) hx hb dX3_evenOut_48 rfl hl (by decide) rfl (fun ls hl => ?_)
        refine lv_iconst (v := 0) hx hb dX3_evenOut_49 (by decide) ?_
        refine lv_istore (lv' := [(4, .int 0), (3, .int 1), (2, .int v4_2), (0, .ref (ad 6)), (1, .int a0)]) hx hb dX3_evenOut_50 hl (by decide) rfl (fun ls hl => ?_)
        have hL52 : ∀ d : Nat, ∀ (v52_4 : Int32) (v52_3 : Int32) (H : Heap) (locs : List Loc) (ls : Array Slot), 0 ≤ v52_4.toInt ∧ v52_4.toInt ≤ 4 → 4 - v52_4.toInt < (d : Int) → va_P (dC, dI) vwCl (WL (LC cf) ad E5) H → va_S A s.heap H locs → lv_has ls 9 [(4, .int v52_4), (3, .int v52_3), (2, .int v4_2), (0, .ref (ad 6)), (1, .int a0)] → W p l e (headSpec v_evenOut rm_evenOut).room s m args below meth c H locs 0 0 Q (F0 m 52 ls []) := by
          intro d
          induction d with
          | zero =>
            intro v52_4 v52_3 H locs ls hv52_4 hx52_0 hP hS hl
            exact absurd hx52_0 (by first | exact ms_zu hv52_4.2 | omega)
          | succ d ih52 =>
            intro v52_4 v52_3 H locs ls hv52_4 hx52_0 hP hS hl
            refine lv_iload hx hb dX3_evenOut_52 (lv_at hl 0 rfl) ?_
            refine lv_iload_n hx hb dX3_evenOut_54 rfl (lv_at hl 2 rfl) ?_
            refine lv_icmp_ge (tgt := 69) hx hb dX3_evenOut_55 (by decide) (fun c7 => ?_) (fun c7 => ?_)
            · --55 taken
              have t8 : v4_2.toInt ≤ v52_4.toInt := ti_le c7
              refine lv_aload_n hx hb dX3_evenOut_69 rfl (lv_at hl 3 rfl) ?_
              refine lv_ldc hx hb hown (hts _ (vA_in _ _ (in_13 _ (zs4 (zs1 (zs1 (zs1 (zs0)))))))) dX3_evenOut_70 ?_
              refine th_putL (ci := 4) (C := RX3) (T := TX3) (N := 18) (v := .int 2147483647) (ty := .int) hx hb hts hinX3 tyX3 tyX3_ok nmX3 hown hK hP (WL_D hD) hS hI 6 (mF 6 rfl) rfl rfl 16 (Nat.le_of_ble_eq_true rfl) (hts _ (vA_in _ _ (in_13 _ (zs4 (zs4 (zs0)))))) (fun _ h9 => h9) rfl (by decide +kernel) rfl rfl (okI rfl (iv_w ln_2147483647 (by decide))) dX3_evenOut_72 (fun H locs E9 pw10 hI hP hS => ?_)
              have hKp := hKp.pw pw10 rfl
              refine lv_iconst (v := 0) hx hb dX3_evenOut_75 (by decide) ?_
              refine lv_istore (lv' := [(4, .int 0), (3, .int v52_3), (2, .int v4_2), (0, .ref (ad 6)), (1, .int a0)]) hx hb dX3_evenOut_76 hl (by decide) rfl (fun ls hl => ?_)
              refine lv_iconst (v := 0) hx hb dX3_evenOut_78 (by decide) ?_
              refine lv_istore (lv' := [(5, .int 0), (4, .int 0), (3, .int v52_3), (2, .int v4_2), (0, .ref (ad 6)), (1, .int a0)]) hx hb dX3_evenOut_79 hl (by decide) rfl (fun ls hl => ?_)
              have hL81 : ∀ d : Nat, ∀ (v81_5 : Int32) (v81_4 : Int32) (E81_ : Nat → va_E) (H : Heap) (locs : List Loc) (ls : Array Slot), 0 ≤ v81_5.toInt ∧ v81_5.toInt ≤ 2147483647 → 2147483647 - v81_5.toInt < (d : Int) → IXL cT (shC cf) (spC cf) (LC cf) ad E81_ → Kp w_evenOut E E81_ → va_P (dC, dI) vwCl (WL (LC cf) ad E81_) H → va_S A s.heap H locs → lv_has ls 9 [(5, .int v81_5), (4, .int v81_4), (3, .int v52_3), (2, .int v4_2), (0, .ref (ad 6)), (1, .int a0)] → W p l e (headSpec v_evenOut rm_evenOut).room s m args below meth c H locs 0 0 Q (F0 m 81 ls []) := by
                intro d
                induction d with
                | zero =>
                  intro v81_5 v81_4 E81_ H locs ls hv81_5 hx81_0 hI hKp hP hS hl
                  exact absurd hx81_0 (by first | exact ms_zu hv81_5.2 | omega)
                | succ d ih81 =>
                  intro v81_5 v81_4 E81_ H locs ls hv81_5 hx81_0 hI hKp hP hS hl
                  refine lv_iload hx hb dX3_evenOut_81 (lv_at hl 0 rfl) ?_
                  refine lv_iload_n hx hb dX3_evenOut_83 rfl (lv_at hl 2 rfl) ?_
                  refine lv_icmp_ge (tgt := 210) hx hb dX3_evenOut_84 (by decide) (fun c11 => ?_) (fun c11 => ?_)
                  · --84 taken
                    have t12 : v52_3.toInt ≤ v81_5.toInt := ti_le c11
                    rw [hQ]
                    exact W.vret hx hb hr (fun t ht hW => ⟨⟨E81_, rfl, ⟨hI, hKp, trivial⟩, by show va_P (dC, dI) vwCl (WL (LC cf) ad E81_) t.heap; rw [ht]; exact hP⟩, hS.F ht⟩) hS.2.2 dX3_evenOut_210
                  · --84 not
                    have t13 : v81_5.toInt < v52_3.toInt := ti_nle c11
                    have i14 : 0 ≤ v81_5.toInt ∧ v81_5.toInt ≤ 2147483646 := iv_lt_l t13 hv81_5 (iv_all _) (by decide)
                    have i15 : 1 ≤ v52_3.toInt ∧ v52_3.toInt ≤ 2147483647 := iv_lt_r t13 hv81_5 (iv_all _) (by decide)
                    refine lv_iload hx hb dX3_evenOut_87 (lv_at hl 0 rfl) ?_
                    refine lv_istore (lv' := [(6, .int v81_5), (5, .int v81_5), (4, .int v81_4), (3, .int v52_3), (2, .int v4_2), (0, .ref (ad 6)), (1, .int a0)]) hx hb dX3_evenOut_89 hl (by decide) rfl (fun ls hl => ?_)
                    refine lv_iconst (v := 0) hx hb dX3_evenOut_91 (by decide) ?_
                    refine lv_istore (lv' := [(7, .int 0), (6, .int v81_5), (5, .int v81_5), (4, .int v81_4), (3, .int v52_3), (2, .int v4_2), (0, .ref (ad 6)), (1, .int a0)]) hx hb dX3_evenOut_92 hl (by decide) rfl (fun ls hl => ?_)
                    refine lv_iload_n hx hb dX3_evenOut_94 rfl (lv_at hl 5 rfl) ?_
                    refine lv_iconst (v := 1) hx hb dX3_evenOut_95 (by decide) ?_
                    refine lv_isub hx hb dX3_evenOut_96 ?_
                    refine lv_topi (fun y16 ey16 => ?_)
                    obtain ⟨ty16, iy16⟩ := ti_sub (e := (-1)) (f := 3) hv4_2 ln_1 ey16 (by decide)
                    have ty16 : y16.toInt = v4_2.toInt - 1 := ty16
                    have iy16 : -1 ≤ y16.toInt ∧ y16.toInt ≤ 3 := iy16
                    refine lv_istore (lv' := [(8, .int y16), (7, .int 0), (6, .int v81_5), (5, .int v81_5), (4, .int v81_4), (3, .int v52_3), (2, .int v4_2), (0, .ref (ad 6)), (1, .int a0)]) hx hb dX3_evenOut_97 hl (by decide) rfl (fun ls hl => ?_)
                    have hL99 : ∀ d : Nat, ∀ (v99_8 : Int32) (v99_7 : Int32) (v99_6 : Int32) (E99_ : Nat → va_E) (H : Heap) (locs : List Loc) (ls : Array Slot), -1 ≤ v99_8.toInt ∧ v99_8.toInt ≤ 3 → 0 ≤ v99_6.toInt ∧ v99_6.toInt ≤ 2147483646 → v99_8.toInt - (-1) < (d : Int) → IXL cT (shC cf) (spC cf) (LC cf) ad E99_ → Kp w_evenOut E E99_ → va_P (dC, dI) vwCl (WL (LC cf) ad E99_) H → va_S A s.heap H locs → lv_has ls 9 [(8, .int v99_8), (7, .int v99_7), (6, .int v99_6), (5, .int v81_5), (4, .int v81_4), (3, .int v52_3), (2, .int v4_2), (0, .ref (ad 6)), (1, .int a0)] → W p l e (headSpec v_evenOut rm_evenOut).room s m args below meth c H locs 0 0 Q (F0 m 99 ls []) := by
                      intro d
                      induction d with
                      | zero =>
                        intro v99_8 v99_7 v99_6 E99_ H locs ls hv99_8 hv99_6 hx99_0 hI hKp hP hS hl
                        exact absurd hx99_0 (by first | exact ms_zd hv99_8.1 | omega)
                      | succ d ih99 =>
                        intro v99_8 v99_7 v99_6 E99_ H locs ls hv99_8 hv99_6 hx99_0 hI hKp hP hS hl
                        refine lv_iload hx hb dX3_evenOut_99 (lv_at hl 0 rfl) ?_
                        refine lv_if_lt (tgt := 145) hx hb dX3_evenOut_101 (by decide) (fun c17 => ?_) (fun c17 => ?_)
                        · --101 taken
                          have t18 : v99_8.toInt < 0 := ti_lt c17
                          have i19 : -1 ≤ v99_8.toInt ∧ v99_8.toInt ≤ -1 := iv_lt_l t18 hv99_8 (il_ 0) (by decide)
                          refine lv_aload_n hx hb dX3_evenOut_145 rfl (lv_at hl 7 rfl) ?_
                          refine lv_iload_n hx hb dX3_evenOut_146 rfl (lv_at hl 6 rfl) ?_
                          refine th_riL (va_runV (As := [.int v4_2]) (rest := []) ⟨hx, hb, hml, hown, hts⟩ (q_spreadTried l dC dI cT cf hC ad E99_ H.size v4_2 hI hv4_2) (cwV 1 hts (gi_V (in_13 _ (zs16 (zs4 (zs4 (zs1 (zs1 (zs0))))))) (in_13 _ (zs16 (zs4 (zs4 (zs1 (zs1 (zs1 (zs0)))))))) (in_13 _ (zs16 (zs4 (zs4 (zs4 (zs0)))))) (in_11 _ (zs4 (zs4 (zs4 (zs1 (zs1 (zs1 (zs0)))))))) (in_13 _ (zs16 (zs4 (zs4 (zs4 (zs1 (zs0)))))))) rfl rfl rfl ⟨rfl, hz_yX3_spreadTried_1⟩ ⟨Nat.le_of_ble_eq_true rfl, Nat.le_of_ble_eq_true rfl⟩) ⟨HWL_bl, va_recv hK hP (ci := 4) (q0 := posL 6 (LC cf)) rfl (hI.ob 6 (mF 6 rfl) rfl), (HWL_wi hP hK (WL_D hD) hS hA hEV)⟩ rfl rfl hl.1 rfl (lv_room (Nat.le_of_ble_eq_true rfl)) dX3_evenOut_147 ⟨Nat.le_of_ble_eq_true rfl, Nat.le_of_ble_eq_true rfl⟩) hS hP (fun r20 H locs hw hP hS => ?_)
                          refine lv_istore (lv' := [(8, .int r20), (7, .int v99_7), (6, .int v99_6), (5, .int v81_5), (4, .int v81_4), (3, .int v52_3), (2, .int v4_2), (0, .ref (ad 6)), (1, .int a0)]) hx hb dX3_evenOut_150 hl (by decide) rfl (fun ls hl => ?_)
                          refine lv_iload hx hb dX3_evenOut_152 (lv_at hl 0 rfl) ?_
                          refine lv_aload_n hx hb dX3_evenOut_154 rfl (lv_at hl 7 rfl) ?_
                          obtain ⟨y21, ey21⟩ : ∃ y, xi (E99_ 6) 16 = y := ⟨_, rfl⟩
                          have fy21 : xv (E99_ 6) 16 = .int y21 := (hI.fi 6 (mF 6 rfl) rfl (Nat.le_of_ble_eq_true rfl) rfl).trans (congrArg Value.int ey21)
                          refine th_getL (ci := 4) (C := RX3) (T := TX3) (N := 18) (v := .int y21) hx hb hts hinX3 hown hK hP hI 6 (mF 6 rfl) rfl rfl 16 (Nat.le_of_ble_eq_true rfl) (hts _ (vA_in _ _ (in_13 _ (zs4 (zs4 (zs0)))))) (fun _ h9 => h9) fy21 dX3_evenOut_155 ?_
                          refine lv_icmp_gt (tgt := 204) hx hb dX3_evenOut_158 (by decide) (fun c22 => ?_) (fun c22 => ?_)
                          · --158 taken
                            have t23 : y21.toInt < r20.toInt := ti_lt c22
                            have i24 : -2147483648 ≤ y21.toInt ∧ y21.toInt ≤ 2147483646 := iv_lt_l t23 (iv_all _) (iv_all _) (by decide)
                            have i25 : -2147483647 ≤ r20.toInt ∧ r20.toInt ≤ 2147483647 := iv_lt_r t23 (iv_all _) (iv_all _) (by decide)
                            obtain ⟨y26, ey26⟩ : ∃ y : Int32, y = v81_5 + (1 : Int32) := ⟨_, rfl⟩
                            obtain ⟨ty26, iy26⟩ := ti_add (e := 1) (f := 2147483647) i14 ln_1 ey26 (by decide)
                            have ty26 : y26.toInt = v81_5.toInt + 1 := ty26
                            have iy26 : 1 ≤ y26.toInt ∧ y26.toInt ≤ 2147483647 := iy26
                            refine lv_iinc (v := y26) (lv' := [(5, .int y26), (8, .int r20), (7, .int v99_7), (6, .int v99_6), (4, .int v81_4), (3, .int v52_3), (2, .int v4_2), (0, .ref (ad 6)), (1, .int a0)]) hx hb dX3_evenOut_204 hl (k := 3) rfl (by rw [ey26]; rfl) (by decide) rfl (fun ls hl => ?_)
                            refine lv_goto (tgt := 81) hx hb dX3_evenOut_207 (by decide) ?_
                            exact ih81 y26 v81_4 E99_ _ _ _ (iv_w iy26 (by decide)) (by first | exact ms_su hx81_0 ty26 (by decide) | omega) hI hKp hP hS (lv_sub hl [0, 4, 5, 6, 7, 8] rfl)
                          · --158 not
                            have t27 : r20.toInt ≤ y21.toInt := ti_nlt c22
                            refine lv_iload hx hb dX3_evenOut_161 (lv_at hl 0 rfl) ?_
                            refine lv_aload_n hx hb dX3_evenOut_163 rfl (lv_at hl 7 rfl) ?_
                            refine th_getL (ci := 4) (C := RX3) (T := TX3) (N := 18) (v := .int y21) hx hb hts hinX3 hown hK hP hI 6 (mF 6 rfl) rfl rfl 16 (Nat.le_of_ble_eq_true rfl) (hts _ (vA_in _ _ (in_13 _ (zs4 (zs4 (zs0)))))) (fun _ h9 => h9) fy21 dX3_evenOut_164 ?_
                            refine lv_icmp_ne (tgt := 180) hx hb dX3_evenOut_167 (by decide) (fun c28 => ?_) (fun c28 => ?_)
                            · --167 taken
                              have t29 : ¬ r20.toInt = y21.toInt := ti_ne c28
                              refine lv_aload_n hx hb dX3_evenOut_180 rfl (lv_at hl 7 rfl) ?_
                              refine lv_iload hx hb dX3_evenOut_181 (lv_at hl 0 rfl) ?_
                              refine th_putL (ci := 4) (C := RX3) (T := TX3) (N := 18) (v := .int r20) (ty := .int) hx hb hts hinX3 tyX3 tyX3_ok nmX3 hown hK hP (WL_D hD) hS hI 6 (mF 6 rfl) rfl rfl 16 (Nat.le_of_ble_eq_true rfl) (hts _ (vA_in _ _ (in_13 _ (zs4 (zs4 (zs0)))))) (fun _ h9 => h9) rfl (by decide +kernel) rfl rfl (okI rfl (iv_all _)) dX3_evenOut_183 (fun H locs E30 pw31 hI hP hS => ?_)
                              have hKp := hKp.pw pw31 rfl
                              refine lv_iload hx hb dX3_evenOut_186 (lv_at hl 1 rfl) ?_
                              refine lv_istore (lv' := [(4, .int v99_7), (8, .int r20), (7, .int v99_7), (6, .int v99_6), (5, .int v81_5), (3, .int v52_3), (2, .int v4_2), (0, .ref (ad 6)), (1, .int a0)]) hx hb dX3_evenOut_188 hl (by decide) rfl (fun ls hl => ?_)
                              refine lv_aload_n hx hb dX3_evenOut_190 rfl (lv_at hl 7 rfl) ?_
                              refine th_getL (ci := 4) (C := RX3) (T := TX3) (N := 18) (v := .ref (ad 54)) hx hb hts hinX3 hown hK hP hI 6 (mF 6 rfl) rfl rfl 13 (Nat.le_of_ble_eq_true rfl) (hts _ (vA_in _ _ (in_13 _ (zs4 (zs4 (zs1 (zs0))))))) (fun _ h9 => h9) (hI.fr 6 (mF 6 rfl) rfl (Nat.le_of_ble_eq_true rfl) 54 rfl) dX3_evenOut_191 ?_
                              refine lv_iconst (v := 0) hx hb dX3_evenOut_194 (by decide) ?_
                              refine lv_aload_n hx hb dX3_evenOut_195 rfl (lv_at hl 7 rfl) ?_
                              refine th_getL (ci := 4) (C := RX3) (T := TX3) (N := 18) (v := .ref (ad 55)) hx hb hts hinX3 hown hK hP hI 6 (mF 6 rfl) rfl rfl 14 (Nat.le_of_ble_eq_true rfl) (hts _ (vA_in _ _ (in_13 _ (zs4 (zs4 (zs1 (zs1 (zs0)))))))) (fun _ h9 => h9) (hI.fr 6 (mF 6 rfl) rfl (Nat.le_of_ble_eq_true rfl) 55 rfl) dX3_evenOut_196 ?_
                              refine lv_iconst (v := 0) hx hb dX3_evenOut_199 (by decide) ?_
                              refine lv_iconst (v := 4) hx hb dX3_evenOut_200 (by decide) ?_
                              refine th_cpyL hx hb (by rw [hml]; exact hl.1.symm) hown (hts _ (vA_in _ _ (in_13 _ (zs4 (zs4 (zs1 (zs1 (zs1 (zs0))))))))) (hts _ (vA_in _ _ (in_2 _ (zs16 (zs4 (zs4 (zs4 (zs0)))))))) (hts _ (vA_in _ _ (in_2 _ (zs16 (zs4 (zs4 (zs4 (zs1 (zs0))))))))) (hts _ (vA_in _ _ (in_2 _ (zs16 (zs4 (zs4 (zs4 (zs1 (zs1 (zs0)))))))))) hK hP (WL_D hD) hS hI 54 (mF 54 rfl) rfl 55 (mF 55 rfl) rfl rfl (fun _ => rfl) (fun _ => rfl) (n := 4) (by decide) (by decide) (by decide) (Nat.le_of_ble_eq_true rfl) (Nat.le_of_ble_eq_true rfl) dX3_evenOut_201 (fun H locs E32 kq33 hcpy hI hP hS => ?_)
                              have hKp := hKp.tr kq33 (wl_sub rfl rfl)
                              obtain ⟨y34, ey34⟩ : ∃ y : Int32, y = v81_5 + (1 : Int32) := ⟨_, rfl⟩
                              obtain ⟨ty34, iy34⟩ := ti_add (e := 1) (f := 2147483647) i14 ln_1 ey34 (by decide)
                              have ty34 : y34.toInt = v81_5.toInt + 1 := ty34
                              have iy34 : 1 ≤ y34.toInt ∧ y34.toInt ≤ 2147483647 := iy34
                              refine lv_iinc (v := y34) (lv' := [(5, .int y34), (4, .int v99_7), (8, .int r20), (7, .int v99_7), (6, .int v99_6), (3, .int v52_3), (2, .int v4_2), (0, .ref (ad 6)), (1, .int a0)]) hx hb dX3_evenOut_204 hl (k := 4) rfl (by rw [ey34]; rfl) (by decide) rfl (fun ls hl => ?_)
                              refine lv_goto (tgt := 81) hx hb dX3_evenOut_207 (by decide) ?_
                              exact ih81 y34 v99_7 E32 _ _ _ (iv_w iy34 (by decide)) (by first | exact ms_su hx81_0 ty34 (by decide) | omega) hI hKp hP hS (lv_sub hl [0, 1, 5, 6, 7, 8] rfl)
                            · --167 not
                              have t35 : r20.toInt = y21.toInt := ti_eq c28
                              refine lv_iload hx hb dX3_evenOut_170 (lv_at hl 1 rfl) ?_
                              refine lv_iload hx hb dX3_evenOut_172 (lv_at hl 4 rfl) ?_
                              refine lv_icmp_lt (tgt := 180) hx hb dX3_evenOut_174 (by decide) (fun c36 => ?_) (fun c36 => ?_)
                              · --174 taken
                                have t37 : v99_7.toInt < v81_4.toInt := ti_lt c36
                                have i38 : -2147483648 ≤ v99_7.toInt ∧ v99_7.toInt ≤ 2147483646 := iv_lt_l t37 (iv_all _) (iv_all _) (by decide)
                                have i39 : -2147483647 ≤ v81_4.toInt ∧ v81_4.toInt ≤ 2147483647 := iv_lt_r t37 (iv_all _) (iv_all _) (by decide)
                                refine lv_aload_n hx hb dX3_evenOut_180 rfl (lv_at hl 7 rfl) ?_
                                refine lv_iload hx hb dX3_evenOut_181 (lv_at hl 0 rfl) ?_
                                refine th_putL (ci := 4) (C := RX3) (T := TX3) (N := 18) (v := .int r20) (ty := .int) hx hb hts hinX3 tyX3 tyX3_ok nmX3 hown hK hP (WL_D hD) hS hI 6 (mF 6 rfl) rfl rfl 16 (Nat.le_of_ble_eq_true rfl) (hts _ (vA_in _ _ (in_13 _ (zs4 (zs4 (zs0)))))) (fun _ h9 => h9) rfl (by decide +kernel) rfl rfl (okI rfl (iv_all _)) dX3_evenOut_183 (fun H locs E40 pw41 hI hP hS => ?_)
                                have hKp := hKp.pw pw41 rfl
                                refine lv_iload hx hb dX3_evenOut_186 (lv_at hl 1 rfl) ?_
                                refine lv_istore (lv' := [(4, .int v99_7), (8, .int r20), (7, .int v99_7), (6, .int v99_6), (5, .int v81_5), (3, .int v52_3), (2, .int v4_2), (0, .ref (ad 6)), (1, .int a0)]) hx hb dX3_evenOut_188 hl (by decide) rfl (fun ls hl => ?_)
                                refine lv_aload_n hx hb dX3_evenOut_190 rfl (lv_at hl 7 rfl) ?_
                                refine th_getL (ci := 4) (C := RX3) (T := TX3) (N := 18) (v := .ref (ad 54)) hx hb hts hinX3 hown hK hP hI 6 (mF 6 rfl) rfl rfl 13 (Nat.le_of_ble_eq_true rfl) (hts _ (vA_in _ _ (in_13 _ (zs4 (zs4 (zs1 (zs0))))))) (fun _ h9 => h9) (hI.fr 6 (mF 6 rfl) rfl (Nat.le_of_ble_eq_true rfl) 54 rfl) dX3_evenOut_191 ?_
                                refine lv_iconst (v := 0) hx hb dX3_evenOut_194 (by decide) ?_
                                refine lv_aload_n hx hb dX3_evenOut_195 rfl (lv_at hl 7 rfl) ?_
                                refine th_getL (ci := 4) (C := RX3) (T := TX3) (N := 18) (v := .ref (ad 55)) hx hb hts hinX3 hown hK hP hI 6 (mF 6 rfl) rfl rfl 14 (Nat.le_of_ble_eq_true rfl) (hts _ (vA_in _ _ (in_13 _ (zs4 (zs4 (zs1 (zs1 (zs0)))))))) (fun _ h9 => h9) (hI.fr 6 (mF 6 rfl) rfl (Nat.le_of_ble_eq_true rfl) 55 rfl) dX3_evenOut_196 ?_
                                refine lv_iconst (v := 0) hx hb dX3_evenOut_199 (by decide) ?_
                                refine lv_iconst (v := 4) hx hb dX3_evenOut_200 (by decide) ?_
                                refine th_cpyL hx hb (by rw [hml]; exact hl.1.symm) hown (hts _ (vA_in _ _ (in_13 _ (zs4 (zs4 (zs1 (zs1 (zs1 (zs0))))))))) (hts _ (vA_in _ _ (in_2 _ (zs16 (zs4 (zs4 (zs4 (zs0)))))))) (hts _ (vA_in _ _ (in_2 _ (zs16 (zs4 (zs4 (zs4 (zs1 (zs0))))))))) (hts _ (vA_in _ _ (in_2 _ (zs16 (zs4 (zs4 (zs4 (zs1 (zs1 (zs0)))))))))) hK hP (WL_D hD) hS hI 54 (mF 54 rfl) rfl 55 (mF 55 rfl) rfl rfl (fun _ => rfl) (fun _ => rfl) (n := 4) (by decide) (by decide) (by decide) (Nat.le_of_ble_eq_true rfl) (Nat.le_of_ble_eq_true rfl) dX3_evenOut_201 (fun H locs E42 kq43 hcpy hI hP hS => ?_)
                                have hKp := hKp.tr kq43 (wl_sub rfl rfl)
                                obtain ⟨y44, ey44⟩ : ∃ y : Int32, y = v81_5 + (1 : Int32) := ⟨_, rfl⟩
                                obtain ⟨ty44, iy44⟩ := ti_add (e := 1) (f := 2147483647) i14 ln_1 ey44 (by decide)
                                have ty44 : y44.toInt = v81_5.toInt + 1 := ty44
                                have iy44 : 1 ≤ y44.toInt ∧ y44.toInt ≤ 2147483647 := iy44
                                refine lv_iinc (v := y44) (lv' := [(5, .int y44), (4, .int v99_7), (8, .int r20), (7, .int v99_7), (6, .int v99_6), (3, .int v52_3), (2, .int v4_2), (0, .ref (ad 6)), (1, .int a0)]) hx hb dX3_evenOut_204 hl (k := 4) rfl (by rw [ey44]; rfl) (by decide) rfl (fun ls hl => ?_)
                                refine lv_goto (tgt := 81) hx hb dX3_evenOut_207 (by decide) ?_
                                exact ih81 y44 v99_7 E42 _ _ _ (iv_w iy44 (by decide)) (by first | exact ms_su hx81_0 ty44 (by decide) | omega) hI hKp hP hS (lv_sub hl [0, 1, 5, 6, 7, 8] rfl)
                              · --174 not
                                have t45 : v81_4.toInt ≤ v99_7.toInt := ti_nlt c36
                                refine lv_goto (tgt := 204) hx hb dX3_evenOut_177 (by decide) ?_
                                obtain ⟨y46, ey46⟩ : ∃ y : Int32, y = v81_5 + (1 : Int32) := ⟨_, rfl⟩
                                obtain ⟨ty46, iy46⟩ := ti_add (e := 1) (f := 2147483647) i14 ln_1 ey46 (by decide)
                                have ty46 : y46.toInt = v81_5.toInt + 1 := ty46
                                have iy46 : 1 ≤ y46.toInt ∧ y46.toInt ≤ 2147483647 := iy46
                                refine lv_iinc (v := y46) (lv' := [(5, .int y46), (8, .int r20), (7, .int v99_7), (6, .int v99_6), (4, .int v81_4), (3, .int v52_3), (2, .int v4_2), (0, .ref (ad 6)), (1, .int a0)]) hx hb dX3_evenOut_204 hl (k := 3) rfl (by rw [ey46]; rfl) (by decide) rfl (fun ls hl => ?_)
                                refine lv_goto (tgt := 81) hx hb dX3_evenOut_207 (by decide) ?_
                                exact ih81 y46 v81_4 E99_ _ _ _ (iv_w iy46 (by decide)) (by first | exact ms_su hx81_0 ty46 (by decide) | omega) hI hKp hP hS (lv_sub hl [0, 4, 5, 6, 7, 8] rfl)
                        · --101 not
                          have t47 : (0 : Int) ≤ v99_8.toInt := ti_nlt c17
                          have i48 : 0 ≤ v99_8.toInt ∧ v99_8.toInt ≤ 3 := iv_le_r t47 (il_ 0) hv99_8 (by decide)
                          refine lv_aload_n hx hb dX3_evenOut_104 rfl (lv_at hl 7 rfl) ?_
                          refine th_getL (ci := 4) (C := RX3) (T := TX3) (N := 18) (v := .ref (ad 54)) hx hb hts hinX3 hown hK hP hI 6 (mF 6 rfl) rfl rfl 13 (Nat.le_of_ble_eq_true rfl) (hts _ (vA_in _ _ (in_13 _ (zs4 (zs4 (zs1 (zs0))))))) (fun _ h9 => h9) (hI.fr 6 (mF 6 rfl) rfl (Nat.le_of_ble_eq_true rfl) 54 rfl) dX3_evenOut_105 ?_
                          refine lv_iload hx hb dX3_evenOut_108 (lv_at hl 0 rfl) ?_
                          refine lv_iload hx hb dX3_evenOut_110 (lv_at hl 2 rfl) ?_
                          refine lv_bipush (v := 7) hx hb dX3_evenOut_112 (by decide) ?_
                          refine lv_irem hx hb dX3_evenOut_114 (by decide) ?_
                          refine lv_topi (fun y49 ey49 => ?_)
                          obtain ⟨ty49, iy49⟩ := ti_irem (e := 0) (f := 6) hv99_6 ln_7 ey49 (by decide)
                          have iy49 : 0 ≤ y49.toInt ∧ y49.toInt ≤ 6 := iy49
                          have n50 : vp_in v99_8 4 := (iv_in (n := 4) i48 (by decide))
                          refine th_iastL hx hb hK hP (WL_D hD) hS hI 54 (mF 54 rfl) rfl rfl n50 (okI rfl iy49) dX3_evenOut_115 (fun H locs E51 pw52 hI hP hS => ?_)
                          have hKp := hKp.pw pw52 rfl
                          refine lv_iload hx hb dX3_evenOut_116 (lv_at hl 2 rfl) ?_
                          refine lv_bipush (v := 7) hx hb dX3_evenOut_118 (by decide) ?_
                          refine lv_idiv hx hb dX3_evenOut_120 (by decide) ?_
                          refine lv_topi (fun y53 ey53 => ?_)
                          obtain ⟨ty53, iy53⟩ := ti_div (e := 0) (f := 306783378) hv99_6 ln_7 ey53 (by decide)
                          have iy53 : 0 ≤ y53.toInt ∧ y53.toInt ≤ 306783378 := iy53
                          refine lv_istore (lv' := [(6, .int y53), (8, .int v99_8), (7, .int v99_7), (5, .int v81_5), (4, .int v81_4), (3, .int v52_3), (2, .int v4_2), (0, .ref (ad 6)), (1, .int a0)]) hx hb dX3_evenOut_121 hl (by decide) rfl (fun ls hl => ?_)
                          refine lv_iload hx hb dX3_evenOut_123 (lv_at hl 2 rfl) ?_
                          refine lv_aload_n hx hb dX3_evenOut_125 rfl (lv_at hl 7 rfl) ?_
                          refine th_getL (ci := 4) (C := RX3) (T := TX3) (N := 18) (v := .ref (ad 54)) hx hb hts hinX3 hown hK hP hI 6 (mF 6 rfl) rfl rfl 13 (Nat.le_of_ble_eq_true rfl) (hts _ (vA_in _ _ (in_13 _ (zs4 (zs4 (zs1 (zs0))))))) (fun _ h9 => h9) (hI.fr 6 (mF 6 rfl) rfl (Nat.le_of_ble_eq_true rfl) 54 rfl) dX3_evenOut_126 ?_
                          refine lv_iload hx hb dX3_evenOut_129 (lv_at hl 1 rfl) ?_
                          have n55 : vp_in v99_8 4 := (iv_in (n := 4) i48 (by decide))
                          refine th_ialdL hx hb hK hP hI 54 (mF 54 rfl) rfl rfl n55 dX3_evenOut_131 (fun y54 ey54 => ?_)
                          have iy54 : 0 ≤ y54.toInt ∧ y54.toInt ≤ 6 := hI.el 54 (mF 54 rfl) rfl n55 (fun _ => rfl) ey54
                          refine lv_iconst (v := 3) hx hb dX3_evenOut_132 (by decide) ?_
                          refine th_pi (va_runSN (As := [.int y54, .int 3]) (rest := [.int v99_7]) ⟨hx, hb, hml, hown, hts⟩ (q_capart l y54 (3 : Int32)) ⟨va_cnB 2 hts (gi_0 (in_10 _ (zs4 (zs4 (zs4 (zs1 (zs1 (zs1 (zs0))))))))) rfl rfl rfl (hEV.1.1 _ (List.mem_of_getElem? (i := 6) rfl)) (hts _ (vA_in _ _ (in_4 _ (zs16 (zs4 (zs1 (zs1 (zs1 (zs0))))))))) hz_yX12_apart_2 ⟨Nat.le_of_ble_eq_true rfl, Nat.le_of_ble_eq_true rfl⟩, (hts _ (vA_in _ _ (in_13 _ (zs16 (zs4 (zs4 (zs1 (zs0)))))))), trivial⟩ ⟨fun _ _ _ _ q => q, fun _ _ _ => ⟨rfl, trivial⟩⟩ rfl rfl hl.1 rfl (lv_room (Nat.le_of_ble_eq_true rfl)) dX3_evenOut_133 ⟨Nat.le_of_ble_eq_true rfl, Nat.le_of_ble_eq_true rfl⟩) hS (fun r56 H1 locs1 hw hk1 hS => ?_)
                          have hP := ub_keep hP hk1
                          generalize H1 = H at hP hS ⊢
                          generalize locs1 = locs at hS ⊢
                          have f57 := hw
                          refine lv_iadd hx hb dX3_evenOut_136 ?_
                          refine lv_topi (fun y58 ey58 => ?_)
                          refine lv_istore (lv' := [(7, .int y58), (6, .int y53), (8, .int v99_8), (5, .int v81_5), (4, .int v81_4), (3, .int v52_3), (2, .int v4_2), (0, .ref (ad 6)), (1, .int a0)]) hx hb dX3_evenOut_137 hl (by decide) rfl (fun ls hl => ?_)
                          obtain ⟨y59, ey59⟩ : ∃ y : Int32, y = v99_8 + (-1 : Int32) := ⟨_, rfl⟩
                          obtain ⟨ty59, iy59⟩ := ti_add (e := (-1)) (f := 2) i48 ln_m1 ey59 (by decide)
                          have ty59 : y59.toInt = v99_8.toInt + (-1) := ty59
                          have iy59 : -1 ≤ y59.toInt ∧ y59.toInt ≤ 2 := iy59
                          refine lv_iinc (v := y59) (lv' := [(8, .int y59), (7, .int y58), (6, .int y53), (5, .int v81_5), (4, .int v81_4), (3, .int v52_3), (2, .int v4_2), (0, .ref (ad 6)), (1, .int a0)]) hx hb dX3_evenOut_139 hl (k := 2) rfl (by rw [ey59]; rfl) (by decide) rfl (fun ls hl => ?_)
                          refine lv_goto (tgt := 99) hx hb dX3_evenOut_142 (by decide) ?_
                          exact ih99 y59 y58 y53 E51 _ _ _ (iv_w iy59 (by decide)) (iv_w iy53 (by decide)) (by first | exact ms_sd hx99_0 ty59 (by decide) | exact ms_sd2 hx99_0 ty59 | omega) hI hKp hP hS (lv_sub hl [0, 1, 2, 3, 4, 5, 6, 7, 8] rfl)
                    exact hL99 (5) y16 (0 : Int32) v81_5 E81_ _ _ _ iy16 i14 (by have h9 := iy16; first | exact ms_bd h9.2 (by decide) | omega) hI hKp hP hS (lv_sub hl [0, 1, 2, 3, 4, 5, 6, 7, 8] rfl)
              exact hL81 (2147483648) (0 : Int32) (0 : Int32) E9 _ _ _ (iv_w ln_0 (by decide)) (by have h9 := ln_0; first | exact ms_bu h9.1 (by decide) | omega) hI hKp hP hS (lv_sub hl [0, 1, 2, 3, 4, 5] rfl)
            · --55 not
              have t60 : v52_4.toInt < v4_2.toInt := ti_nle c7
              have i61 : 0 ≤ v52_4.toInt ∧ v52_4.toInt ≤ 3 := iv_lt_l t60 hv52_4 hv4_2 (by decide)
              have i62 : 1 ≤ v4_2.toInt ∧ v4_2.toInt ≤ 4 := iv_lt_r t60 hv52_4 hv4_2 (by decide)
              refine lv_iload_n hx hb dX3_evenOut_58 rfl (lv_at hl 1 rfl) ?_
              refine lv_bipush (v := 7) hx hb dX3_evenOut_59 (by decide) ?_
              refine lv_imul hx hb dX3_evenOut_61 ?_
              refine lv_topi (fun y63 ey63 => ?_)
              refine lv_istore_n (lv' := [(3, .int y63), (4, .int v52_4), (2, .int v4_2), (0, .ref (ad 6)), (1, .int a0)]) hx hb dX3_evenOut_62 rfl hl (by decide) rfl (fun ls hl => ?_)
              obtain ⟨y64, ey64⟩ : ∃ y : Int32, y = v52_4 + (1 : Int32) := ⟨_, rfl⟩
              obtain ⟨ty64, iy64⟩ := ti_add (e := 1) (f := 4) i61 ln_1 ey64 (by decide)
              have ty64 : y64.toInt = v52_4.toInt + 1 := ty64
              have iy64 : 1 ≤ y64.toInt ∧ y64.toInt ≤ 4 := iy64
              refine lv_iinc (v := y64) (lv' := [(4, .int y64), (3, .int y63), (2, .int v4_2), (0, .ref (ad 6)), (1, .int a0)]) hx hb dX3_evenOut_63 hl (k := 1) rfl (by rw [ey64]; rfl) (by decide) rfl (fun ls hl => ?_)
              refine lv_goto (tgt := 52) hx hb dX3_evenOut_66 (by decide) ?_
              exact ih52 y64 y63 _ _ _ (iv_w iy64 (by decide)) (by first | exact ms_su hx52_0 ty64 (by decide) | omega) hP hS (lv_sub hl [0, 1, 2, 3, 4] rfl)
        exact hL52 (5) (0 : Int32) (1 : Int32) _ _ _ (iv_w ln_0 (by decide)) (by have h9 := ln_0; first | exact ms_bu h9.1 (by decide) | omega) hP hS (lv_sub hl [0, 1, 2, 3, 4] rfl)
      · --7 not
        have t65 : v4_3.toInt < 16 := ti_nle c1
        have i66 : 0 ≤ v4_3.toInt ∧ v4_3.toInt ≤ 15 := iv_lt_l t65 hv4_3 (il_ 16) (by decide)
        refine lv_iload_n hx hb dX3_evenOut_10 rfl (lv_at hl 3 rfl) ?_
        refine lv_iload_n hx hb dX3_evenOut_11 rfl (lv_at hl 0 rfl) ?_
        refine lv_ishr hx hb dX3_evenOut_12 ?_
        refine lv_topi (fun y67 ey67 => ?_)
        refine lv_iconst (v := 1) hx hb dX3_evenOut_13 (by decide) ?_
        refine lv_iand hx hb dX3_evenOut_14 ?_
        refine lv_topi (fun y68 ey68 => ?_)
        have iy68 : 0 ≤ y68.toInt ∧ y68.toInt ≤ 1 := ti_and (by decide) ey68
        refine lv_if_eq (tgt := 36) hx hb dX3_evenOut_15 (by decide) (fun c69 => ?_) (fun c69 => ?_)
        · --15 taken
          have t70 : y68.toInt = 0 := ti_eq c69
          have i71 : 0 ≤ y68.toInt ∧ y68.toInt ≤ 0 := iv_eqi t70 iy68 (il_ 0) (by decide)
          obtain ⟨y72, ey72⟩ : ∃ y : Int32, y = v4_3 + (1 : Int32) := ⟨_, rfl⟩
          obtain ⟨ty72, iy72⟩ := ti_add (e := 1) (f := 16) i66 ln_1 ey72 (by decide)
          have ty72 : y72.toInt = v4_3.toInt + 1 := ty72
          have iy72 : 1 ≤ y72.toInt ∧ y72.toInt ≤ 16 := iy72
          refine lv_iinc (v := y72) (lv' := [(3, .int y72), (2, .int v4_2), (0, .ref (ad 6)), (1, .int a0)]) hx hb dX3_evenOut_36 hl (k := 0) rfl (by rw [ey72]; rfl) (by decide) rfl (fun ls hl => ?_)
          refine lv_goto (tgt := 4) hx hb dX3_evenOut_39 (by decide) ?_
          exact ih4 y72 v4_2 E4_ _ _ _ (iv_w iy72 (by decide)) hv4_2 (by first | exact ms_su hx4_0 ty72 (by decide) | omega) hI hKp hP hS (lv_sub hl [0, 1, 2, 3] rfl)
        · --15 not
          have t73 : ¬ y68.toInt = 0 := ti_ne c69
          have i74 : 1 ≤ y68.toInt ∧ y68.toInt ≤ 1 := iv_ne_l t73 iy68 (il_ 0)
          refine lv_iload_n hx hb dX3_evenOut_18 rfl (lv_at hl 1 rfl) ?_
          refine lv_iconst (v := 4) hx hb dX3_evenOut_19 (by decide) ?_
          refine lv_icmp_lt (tgt := 26) hx hb dX3_evenOut_20 (by decide) (fun c75 => ?_) (fun c75 => ?_)
          · --20 taken
            have t76 : v4_2.toInt < 4 := ti_lt c75
            have i77 : 0 ≤ v4_2.toInt ∧ v4_2.toInt ≤ 3 := iv_lt_l t76 hv4_2 (il_ 4) (by decide)
            refine lv_aload_n hx hb dX3_evenOut_26 rfl (lv_at hl 2 rfl) ?_
            refine th_getL (ci := 4) (C := RX3) (T := TX3) (N := 18) (v := .ref (ad 53)) hx hb hts hinX3 hown hK hP hI 6 (mF 6 rfl) rfl rfl 12 (Nat.le_of_ble_eq_true rfl) (hts _ (vA_in _ _ (in_13 _ (zs4 (zs1 (zs1 (zs0))))))) (fun _ h9 => h9) (hI.fr 6 (mF 6 rfl) rfl (Nat.le_of_ble_eq_true rfl) 53 rfl) dX3_evenOut_27 ?_
            refine lv_iload_n hx hb dX3_evenOut_30 rfl (lv_at hl 1 rfl) ?_
            refine lv_iload_n hx hb dX3_evenOut_31 rfl (lv_at hl 0 rfl) ?_
            have n78 : vp_in v4_2 4 := (iv_in (n := 4) i77 (by decide))
            refine th_iastL hx hb hK hP (WL_D hD) hS hI 53 (mF 53 rfl) rfl rfl n78 (okI rfl i66) dX3_evenOut_32 (fun H locs E79 pw80 hI hP hS => ?_)
            have hKp := hKp.pw pw80 rfl
            obtain ⟨y81, ey81⟩ : ∃ y : Int32, y = v4_2 + (1 : Int32) := ⟨_, rfl⟩
            obtain ⟨ty81, iy81⟩ := ti_add (e := 1) (f := 4) i77 ln_1 ey81 (by decide)
            have ty81 : y81.toInt = v4_2.toInt + 1 := ty81
            have iy81 : 1 ≤ y81.toInt ∧ y81.toInt ≤ 4 := iy81
            refine lv_iinc (v := y81) (lv' := [(2, .int y81), (3, .int v4_3), (0, .ref (ad 6)), (1, .int a0)]) hx hb dX3_evenOut_33 hl (k := 1) rfl (by rw [ey81]; rfl) (by decide) rfl (fun ls hl => ?_)
            obtain ⟨y82, ey82⟩ : ∃ y : Int32, y = v4_3 + (1 : Int32) := ⟨_, rfl⟩
            obtain ⟨ty82, iy82⟩ := ti_add (e := 1) (f := 16) i66 ln_1 ey82 (by decide)
            have ty82 : y82.toInt = v4_3.toInt + 1 := ty82
            have iy82 : 1 ≤ y82.toInt ∧ y82.toInt ≤ 16 := iy82
            refine lv_iinc (v := y82) (lv' := [(3, .int y82), (2, .int y81), (0, .ref (ad 6)), (1, .int a0)]) hx hb dX3_evenOut_36 hl (k := 1) rfl (by rw [ey82]; rfl) (by decide) rfl (fun ls hl => ?_)
            refine lv_goto (tgt := 4) hx hb dX3_evenOut_39 (by decide) ?_
            exact ih4 y82 y81 E79 _ _ _ (iv_w iy82 (by decide)) (iv_w iy81 (by decide)) (by first | exact ms_su hx4_0 ty82 (by decide) | omega) hI hKp hP hS (lv_sub hl [0, 1, 2, 3] rfl)
          · --20 not
            have t83 : (4 : Int) ≤ v4_2.toInt := ti_nlt c75
            have i84 : 4 ≤ v4_2.toInt ∧ v4_2.toInt ≤ 4 := iv_le_r t83 (il_ 4) hv4_2 (by decide)
            refine lv_goto (tgt := 36) hx hb dX3_evenOut_23 (by decide) ?_
            obtain ⟨y85, ey85⟩ : ∃ y : Int32, y = v4_3 + (1 : Int32) := ⟨_, rfl⟩
            obtain ⟨ty85, iy85⟩ := ti_add (e := 1) (f := 16) i66 ln_1 ey85 (by decide)
            have ty85 : y85.toInt = v4_3.toInt + 1 := ty85
            have iy85 : 1 ≤ y85.toInt ∧ y85.toInt ≤ 16 := iy85
            refine lv_iinc (v := y85) (lv' := [(3, .int y85), (2, .int v4_2), (0, .ref (ad 6)), (1, .int a0)]) hx hb dX3_evenOut_36 hl (k := 0) rfl (by rw [ey85]; rfl) (by decide) rfl (fun ls hl => ?_)
            refine lv_goto (tgt := 4) hx hb dX3_evenOut_39 (by decide) ?_
            exact ih4 y85 v4_2 E4_ _ _ _ (iv_w iy85 (by decide)) (iv_w i84 (by decide)) (by first | exact ms_su hx4_0 ty85 (by decide) | omega) hI hKp hP hS (lv_sub hl [0, 1, 2, 3] rfl)
  exact hL4 (17) (0 : Int32) (0 : Int32) E _ _ _ (iv_w ln_0 (by decide)) (iv_w ln_0 (by decide)) (by have h9 := ln_0; first | exact ms_bu h9.1 (by decide) | omega) hI hKp hP hS (lv_sub hl [0, 1, 2, 3] rfl)
def v_bestChangeOf : List Cond := .code yX3_bestChangeOf cX3_bestChangeOf 3 (some .int) :: vA
abbrev rm_bestChangeOf : Room := { frames := 0, cells := 0, slots := 0, locals := 0 }
set_option maxHeartbeats 4000000 in
set_option maxRecDepth 100000 in
theorem q_bestChangeOf (l : Launch) (dC : Nat → ClassId) (dI : Nat → Nat → Nat) (cT : Nat → ClassId) (cf : Nat → Nat) (hC : CF cf) (ad : Nat → Nat) (E : Nat → va_E) (sz : Nat) (a0 : Int32) (hI0 : IXL cT (shC cf) (spC cf) (LC cf) ad E)  : Met l yX3_bestChangeOf v_bestChangeOf rm_bestChangeOf (va_Pc [.ref (ad 6), .int a0] (HWL dC dI (TYC cT) cf ad E sz)) (va_Qi (S := Unit) (fun r _ => True) (fun _ _ => True) (fun _ => False)) 0 0 (fun _ => False) := by
  obtain ⟨⟨hc0, hc1, hc2, hc3, hc4, hc5⟩, hcr⟩ := id hC
  refine Met.ofW (cc := cX3_bestChangeOf) (maxL := 3) (ret := (some .int)) (by decide) rfl ?_
  intro p e s m args below meth c s₁ B hml hv
  obtain ⟨hargs, hsz, hP, hK, hD0, hEV⟩ := hv
  subst hsz
  have hx := B.exec
  have hb := B.bytes
  have hr := B.returns
  have hts := atoms_spec (ws := v_bestChangeOf) B.pre
  have hown : s.vm.findClass RX3 = some m.cls := findClass_of_methodNamed B.named
  have hlocks := B.notSynchronized
  have hinX3 : ∀ w ∈ u_ws RX3 TX3 18, w ∈ v_bestChangeOf := fun w h => vA_in _ w (in_X3 w h)
  have hS : va_S (fun _ : Nat => False) s.heap s.heap [] := va_S.rf
  have hD := hD0
  have hI := hI0
  have hKp : Kp (wl [] []) E E := Kp.rf
  have hl := lv_entry ([.ref (ad 6), .int a0]) (n := 3) (Nat.le_of_ble_eq_true rfl)
  obtain ⟨Q, hQ⟩ : ∃ Q, Q = MQ below (va_Qi (S := Unit) (fun r _ => True) (fun _ _ => True) (fun _ => False)) args s 0 0 (fun _ => False) := ⟨_, rfl⟩
  rw [← hQ, show entryFrame m args 3 = _ from (congrArg (fun z => entryFrame m z 3) hargs).trans (lg_entry_eq _ _ _)]
  generalize (lg_sl ([.ref (ad 6), .int a0]) ++ List.replicate (3 - (lg_sl ([.ref (ad 6), .int a0])).length) Slot.unset).toArray = ls at hl ⊢
  have hl : lv_has ls 3 [(0, .ref (ad 6)), (1, .int a0)] := hl
  refine lv_iconst (v := 0) hx hb dX3_bestChangeOf_0 (by decide) ?_
  refine lv_istore_n (lv' := [(2, .int 0), (0, .ref (ad 6)), (1, .int a0)]) hx hb dX3_bestChangeOf_1 rfl hl (by decide) rfl (fun ls hl => ?_)
  have hL2 : ∀ d : Nat, ∀ (v2_2 : Int32) (H : Heap) (locs : List Loc) (ls : Array Slot), 0 ≤ v2_2.toInt ∧ v2_2.toInt ≤ 4 → 4 - v2_2.toInt < (d : Int) → va_P (dC, dI) vwCl (WL (LC cf) ad E) H → va_S (fun _ : Nat => False) s.heap H locs → lv_has ls 3 [(2, .int v2_2), (0, .ref (ad 6)), (1, .int a0)] → W p l e (headSpec v_bestChangeOf rm_bestChangeOf).room s m args below meth c H locs 0 0 Q (F0 m 2 ls []) := by
    intro d
    induction d with
    | zero =>
      intro v2_2 H locs ls hv2_2 hx2_0 hP hS hl
      exact absurd hx2_0 (by first | exact ms_zu hv2_2.2 | omega)
    | succ d ih2 =>
      intro v2_2 H locs ls hv2_2 hx2_0 hP hS hl
      refine lv_iload_n hx hb dX3_bestChangeOf_2 rfl (lv_at hl 0 rfl) ?_
      refine lv_iconst (v := 4) hx hb dX3_bestChangeOf_3 (by decide) ?_
      refine lv_icmp_ge (tgt := 32) hx hb dX3_bestChangeOf_4 (by decide) (fun c1 => ?_) (fun c1 => ?_)
      · --4 taken
        have t2 : (4 : Int) ≤ v2_2.toInt := ti_le c1
        have i3 : 4 ≤ v2_2.toInt ∧ v2_2.toInt ≤ 4 := iv_le_r t2 (il_ 4) hv2_2 (by decide)
        refine lv_ldc hx hb hown (hts _ (vA_in _ _ (in_13 _ (zs16 (zs16 (zs1 (zs1 (zs0)))))))) dX3_bestChangeOf_32 ?_
        rw [hQ]
        exact W.iret (v := (-1000000000)) hx hb hr (fun t ht hW => ⟨⟨(-1000000000), (), rfl, trivial, trivial⟩, hS.F ht⟩) hS.2.2 dX3_bestChangeOf_34
      · --4 not
        have t4 : v2_2.toInt < 4 := ti_nle c1
        have i5 : 0 ≤ v2_2.toInt ∧ v2_2.toInt ≤ 3 := iv_lt_l t4 hv2_2 (il_ 4) (by decide)
        refine lv_aload_n hx hb dX3_bestChangeOf_7 rfl (lv_at hl 1 rfl) ?_
        refine th_getL (ci := 4) (C := RX3) (T := TX3) (N := 18) (v := .ref (ad 53)) hx hb hts hinX3 hown hK hP hI 6 (mF 6 rfl) rfl rfl 12 (Nat.le_of_ble_eq_true rfl) (hts _ (vA_in _ _ (in_13 _ (zs4 (zs1 (zs1 (zs0))))))) (fun _ h9 => h9) (hI.fr 6 (mF 6 rfl) rfl (Nat.le_of_ble_eq_true rfl) 53 rfl) dX3_bestChangeOf_8 ?_
        refine lv_iload_n hx hb dX3_bestChangeOf_11 rfl (lv_at hl 0 rfl) ?_
        have n7 : vp_in v2_2 4 := (iv_in (n := 4) i5 (by decide))
        refine th_ialdL hx hb hK hP hI 53 (mF 53 rfl) rfl rfl n7 dX3_bestChangeOf_12 (fun y6 ey6 => ?_)
        have iy6 : 0 ≤ y6.toInt ∧ y6.toInt ≤ 15 := hI.el 53 (mF 53 rfl) rfl n7 (fun _ => rfl) ey6
        have ey6 := ey6.trans (hKp.ei 53 _ rfl)
        refine lv_iload_n hx hb dX3_bestChangeOf_13 rfl (lv_at hl 2 rfl) ?_
        refine lv_icmp_ne (tgt := 26) hx hb dX3_bestChangeOf_14 (by decide) (fun c8 => ?_) (fun c8 => ?_)
        · --14 taken
          have t9 : ¬ y6.toInt = a0.toInt := ti_ne c8
          obtain ⟨y10, ey10⟩ : ∃ y : Int32, y = v2_2 + (1 : Int32) := ⟨_, rfl⟩
          obtain ⟨ty10, iy10⟩ := ti_add (e := 1) (f := 4) i5 ln_1 ey10 (by decide)
          have ty10 : y10.toInt = v2_2.toInt + 1 := ty10
          have iy10 : 1 ≤ y10.toInt ∧ y10.toInt ≤ 4 := iy10
          refine lv_iinc (v := y10) (lv' := [(2, .int y10), (0, .ref (ad 6)), (1, .int a0)]) hx hb dX3_bestChangeOf_26 hl (k := 0) rfl (by rw [ey10]; rfl) (by decide) rfl (fun ls hl => ?_)
          refine lv_goto (tgt := 2) hx hb dX3_bestChangeOf_29 (by decide) ?_
          exact ih2 y10 _ _ _ (iv_w iy10 (by decide)) (by first | exact ms_su hx2_0 ty10 (by decide) | omega) hP hS (lv_sub hl [0, 1, 2] rfl)
        · --14 not
          have t11 : y6.toInt = a0.toInt := ti_eq c8
          have i12 : 0 ≤ a0.toInt ∧ a0.toInt ≤ 15 := iv_eqi t11.symm (iv_all _) iy6 (by decide)
          refine lv_aload_n hx hb dX3_bestChangeOf_17 rfl (lv_at hl 1 rfl) ?_
          refine th_getL (ci := 4) (C := RX3) (T := TX3) (N := 18) (v := .ref (ad 55)) hx hb hts hinX3 hown hK hP hI 6 (mF 6 rfl) rfl rfl 14 (Nat.le_of_ble_eq_true rfl) (hts _ (vA_in _ _ (in_13 _ (zs4 (zs4 (zs1 (zs1 (zs0)))))))) (fun _ h9 => h9) (hI.fr 6 (mF 6 rfl) rfl (Nat.le_of_ble_eq_true rfl) 55 rfl) dX3_bestChangeOf_18 ?_
          refine lv_iload_n hx hb dX3_bestChangeOf_21 rfl (lv_at hl 0 rfl) ?_
          have n14 : vp_in v2_2 4 := (iv_in (n := 4) i5 (by decide))
          refine th_ialdL hx hb hK hP hI 55 (mF 55 rfl) rfl rfl n14 dX3_bestChangeOf_22 (fun y13 ey13 => ?_)
          have iy13 : 0 ≤ y13.toInt ∧ y13.toInt ≤ 6 := hI.el 55 (mF 55 rfl) rfl n14 (fun _ => rfl) ey13
          have ey13 := ey13.trans (hKp.ei 55 _ rfl)
          refine lv_iconst (v := 3) hx hb dX3_bestChangeOf_23 (by decide) ?_
          refine lv_isub hx hb dX3_bestChangeOf_24 ?_
          refine lv_topi (fun y15 ey15 => ?_)
          obtain ⟨ty15, iy15⟩ := ti_sub (e := (-3)) (f := 3) iy13 ln_3 ey15 (by decide)
          have ty15 : y15.toInt = y13.toInt - 3 := ty15
          have iy15 : -3 ≤ y15.toInt ∧ y15.toInt ≤ 3 := iy15
          rw [hQ]
          exact W.iret (v := y15) hx hb hr (fun t ht hW => ⟨⟨y15, (), rfl, trivial, trivial⟩, hS.F ht⟩) hS.2.2 dX3_bestChangeOf_25
  exact hL2 (5) (0 : Int32) _ _ _ (iv_w ln_0 (by decide)) (by have h9 := ln_0; first | exact ms_bu h9.1 (by decide) | omega) hP hS (lv_sub hl [0, 1, 2] rfl)
