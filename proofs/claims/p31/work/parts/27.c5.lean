def tyX2 : Nat → FieldType := fun k => match k with
  | 0 => .object "UnlikeBoats$Book"
  | 1 => .array .int
  | 2 => .array .int
  | 3 => .array .int
  | 4 => .array .int
  | 5 => .array .int
  | 6 => .object "UnlikeBoats$Race"
  | 7 => .int
  | 8 => .char
  | _ => .int
theorem nmX2 : ∀ a, a < 10 → ∀ b, b < 10 → a ≠ b → (TX2 a).2.1 ≠ (TX2 b).2.1 := by decide +kernel
theorem tyX2_ok : ∀ k, k < 10 → parseFieldDescriptor (TX2 k).2.2.1 = some (tyX2 k) := by decide +kernel
set_option maxRecDepth 100000 in
theorem zh_dX2_find_0_0 : zc cX2_find 0 [42, 43, 3, 29, 182, 0, 113, 153, 0, 13, 42, 43, 4, 29, 182, 0] = true := by decide +kernel
set_option maxRecDepth 100000 in
theorem zh_dX2_find_14_16 : zc cX2_find 16 [113, 154, 0, 5, 2, 172, 42, 42, 180, 0, 27, 180, 0, 40, 43, 180] = true := by decide +kernel
set_option maxRecDepth 100000 in
theorem zh_dX2_find_31_32 : zc cX2_find 32 [0, 46, 182, 0, 49, 192, 0, 55, 181, 0, 117, 42, 42, 180, 0, 27] = true := by decide +kernel
set_option maxRecDepth 100000 in
theorem zh_dX2_find_48_48 : zc cX2_find 48 [42, 180, 0, 117, 180, 0, 120, 29, 182, 0, 123, 181, 0, 126, 42, 28] = true := by decide +kernel
set_option maxRecDepth 100000 in
theorem zh_dX2_find_64_64 : zc cX2_find 64 [154, 0, 8, 16, 97, 167, 0, 5, 16, 98, 181, 0, 129, 42, 182, 0] = true := by decide +kernel
set_option maxRecDepth 100000 in
theorem zh_dX2_find_78_80 : zc cX2_find 80 [133, 3, 54, 4, 42, 180, 0, 9, 3, 46, 54, 5, 21, 5, 42, 180] = true := by decide +kernel
set_option maxRecDepth 100000 in
theorem zh_dX2_find_95_96 : zc cX2_find 96 [0, 15, 3, 46, 163, 0, 59, 21, 4, 6, 159, 0, 53, 42, 180, 0] = true := by decide +kernel
set_option maxRecDepth 100000 in
theorem zh_dX2_find_110_112 : zc cX2_find 112 [18, 3, 46, 54, 6, 21, 6, 42, 180, 0, 21, 3, 46, 163, 0, 28] = true := by decide +kernel
set_option maxRecDepth 100000 in
theorem zh_dX2_find_128_128 : zc cX2_find 128 [21, 4, 6, 159, 0, 22, 21, 4, 42, 21, 5, 21, 6, 182, 0, 136] = true := by decide +kernel
set_option maxRecDepth 100000 in
theorem zh_dX2_find_144_144 : zc cX2_find 144 [128, 54, 4, 132, 6, 1, 167, 255, 223, 132, 5, 1, 167, 255, 192, 21] = true := by decide +kernel
set_option maxRecDepth 100000 in
theorem zh_dX2_find_159_160 : zc cX2_find 160 [4, 6, 160, 0, 7, 5, 167, 0, 14, 21, 4, 5, 160, 0, 7, 4] = true := by decide +kernel
set_option maxRecDepth 100000 in
theorem zh_dX2_find_176_176 : zc cX2_find 176 [167, 0, 4, 3, 172] = true := by decide +kernel
set_option maxRecDepth 100000 in
theorem zh_dX2_gatherTacks_0_0 : zc cX2_gatherTacks 0 [42, 3, 181, 0, 139, 3, 60, 27, 16, 8, 162, 0, 89, 3, 61, 28] = true := by decide +kernel
set_option maxRecDepth 100000 in
theorem zh_dX2_gatherTacks_16_16 : zc cX2_gatherTacks 16 [16, 8, 162, 0, 75, 42, 180, 0, 24, 3, 46, 27, 122, 4, 126, 153] = true := by decide +kernel
set_option maxRecDepth 100000 in
theorem zh_dX2_gatherTacks_31_32 : zc cX2_gatherTacks 32 [0, 56, 42, 180, 0, 24, 4, 46, 28, 122, 4, 126, 154, 0, 6, 167] = true := by decide +kernel
set_option maxRecDepth 100000 in
theorem zh_dX2_gatherTacks_47_48 : zc cX2_gatherTacks 48 [0, 40, 42, 89, 180, 0, 139, 4, 7, 42, 27, 182, 0, 142, 104, 5] = true := by decide +kernel
set_option maxRecDepth 100000 in
theorem zh_dX2_gatherTacks_64_64 : zc cX2_gatherTacks 64 [42, 28, 182, 0, 142, 104, 96, 27, 28, 160, 0, 7, 4, 167, 0, 4] = true := by decide +kernel
set_option maxRecDepth 100000 in
theorem zh_dX2_gatherTacks_80_80 : zc cX2_gatherTacks 80 [3, 96, 120, 128, 181, 0, 139, 132, 2, 1, 167, 255, 181, 132, 1, 1] = true := by decide +kernel
set_option maxRecDepth 100000 in
theorem zh_dX2_gatherTacks_96_96 : zc cX2_gatherTacks 96 [167, 255, 167, 177] = true := by decide +kernel
set_option maxRecDepth 100000 in
theorem zh_dX2_starboard_0_0 : zc cX2_starboard 0 [27, 42, 180, 0, 117, 180, 0, 145, 100, 16, 8, 96, 16, 8, 112, 8] = true := by decide +kernel
set_option maxRecDepth 100000 in
theorem zh_dX2_starboard_16_16 : zc cX2_starboard 16 [161, 0, 7, 4, 167, 0, 4, 3, 172] = true := by decide +kernel
set_option maxRecDepth 100000 in
theorem zh_dX2_faultsFrom_0_0 : zc cX2_faultsFrom 0 [3, 62, 42, 180, 0, 9, 4, 46, 54, 4, 21, 4, 42, 180, 0, 15] = true := by decide +kernel
set_option maxRecDepth 100000 in
theorem zh_dX2_faultsFrom_16_16 : zc cX2_faultsFrom 16 [4, 46, 163, 0, 191, 29, 6, 159, 0, 186, 42, 180, 0, 18, 4, 46] = true := by decide +kernel
set_option maxRecDepth 100000 in
theorem zh_dX2_faultsFrom_32_32 : zc cX2_faultsFrom 32 [54, 5, 21, 5, 42, 180, 0, 21, 4, 46, 163, 0, 161, 29, 6, 159] = true := by decide +kernel
set_option maxRecDepth 100000 in
theorem zh_dX2_faultsFrom_47_48 : zc cX2_faultsFrom 48 [0, 156, 42, 180, 0, 27, 182, 0, 148, 27, 21, 4, 100, 178, 0, 151] = true := by decide +kernel
set_option maxRecDepth 100000 in
theorem zh_dX2_faultsFrom_64_64 : zc cX2_faultsFrom 64 [42, 180, 0, 117, 180, 0, 145, 46, 104, 28, 21, 5, 100, 178, 0, 154] = true := by decide +kernel
set_option maxRecDepth 100000 in
theorem zh_dX2_faultsFrom_80_80 : zc cX2_faultsFrom 80 [42, 180, 0, 117, 180, 0, 145, 46, 104, 96, 54, 6, 42, 180, 0, 27] = true := by decide +kernel
set_option maxRecDepth 100000 in
theorem zh_dX2_faultsFrom_96_96 : zc cX2_faultsFrom 96 [180, 0, 157, 16, 8, 27, 28, 21, 4, 21, 5, 184, 0, 160, 79, 42] = true := by decide +kernel
set_option maxRecDepth 100000 in
theorem zh_dX2_faultsFrom_112_112 : zc cX2_faultsFrom 112 [180, 0, 27, 180, 0, 157, 16, 11, 21, 6, 158, 0, 7, 4, 167, 0] = true := by decide +kernel
set_option maxRecDepth 100000 in
theorem zh_dX2_faultsFrom_126_128 : zc cX2_faultsFrom 128 [4, 3, 79, 42, 180, 0, 27, 180, 0, 157, 16, 12, 27, 28, 42, 180] = true := by decide +kernel
set_option maxRecDepth 100000 in
theorem zh_dX2_faultsFrom_143_144 : zc cX2_faultsFrom 144 [0, 117, 180, 0, 164, 42, 180, 0, 117, 180, 0, 165, 184, 0, 160, 79] = true := by decide +kernel
set_option maxRecDepth 100000 in
theorem zh_dX2_faultsFrom_160_160 : zc cX2_faultsFrom 160 [42, 180, 0, 27, 180, 0, 157, 6, 21, 4, 21, 5, 42, 180, 0, 117] = true := by decide +kernel
set_option maxRecDepth 100000 in
theorem zh_dX2_faultsFrom_176_176 : zc cX2_faultsFrom 176 [180, 0, 164, 42, 180, 0, 117, 180, 0, 165, 184, 0, 160, 79, 29, 42] = true := by decide +kernel
set_option maxRecDepth 100000 in
theorem zh_dX2_faultsFrom_192_192 : zc cX2_faultsFrom 192 [182, 0, 166, 128, 62, 132, 5, 1, 167, 255, 90, 132, 4, 1, 167, 255] = true := by decide +kernel
set_option maxRecDepth 100000 in
theorem zh_dX2_faultsFrom_206_208 : zc cX2_faultsFrom 208 [60, 29, 172] = true := by decide +kernel
set_option maxRecDepth 100000 in
theorem zh_dX2_faultsOnTacks_0_0 : zc cX2_faultsOnTacks 0 [3, 60, 3, 61, 28, 16, 8, 162, 0, 95, 27, 6, 159, 0, 90, 42] = true := by decide +kernel
set_option maxRecDepth 100000 in
theorem zh_dX2_faultsOnTacks_16_16 : zc cX2_faultsOnTacks 16 [180, 0, 139, 28, 122, 4, 126, 154, 0, 6, 167, 0, 70, 42, 180, 0] = true := by decide +kernel
set_option maxRecDepth 100000 in
theorem zh_dX2_faultsOnTacks_30_32 : zc cX2_faultsOnTacks 32 [27, 180, 0, 157, 16, 9, 28, 5, 122, 79, 42, 180, 0, 27, 180, 0] = true := by decide +kernel
set_option maxRecDepth 100000 in
theorem zh_dX2_faultsOnTacks_46_48 : zc cX2_faultsOnTacks 48 [157, 16, 10, 28, 4, 122, 4, 126, 79, 42, 180, 0, 27, 180, 0, 157] = true := by decide +kernel
set_option maxRecDepth 100000 in
theorem zh_dX2_faultsOnTacks_64_64 : zc cX2_faultsOnTacks 64 [16, 13, 28, 4, 126, 79, 27, 42, 180, 0, 27, 42, 180, 0, 126, 42] = true := by decide +kernel
set_option maxRecDepth 100000 in
theorem zh_dX2_faultsOnTacks_80_80 : zc cX2_faultsOnTacks 80 [180, 0, 129, 182, 0, 169, 154, 0, 7, 4, 167, 0, 4, 5, 128, 60] = true := by decide +kernel
set_option maxRecDepth 100000 in
theorem zh_dX2_faultsOnTacks_96_96 : zc cX2_faultsOnTacks 96 [132, 2, 1, 167, 255, 161, 27, 172] = true := by decide +kernel
theorem dX2_find_0 : decode cX2_find 0 = .ok (.aload_n 0, 1) := zo_42 (zi_at zh_dX2_find_0_0 0 rfl)
theorem dX2_find_1 : decode cX2_find 1 = .ok (.aload_n 1, 1) := zo_43 (zi_at zh_dX2_find_0_0 1 rfl)
theorem dX2_find_2 : decode cX2_find 2 = .ok (.iconst 0, 1) := zo_3 (zi_at zh_dX2_find_0_0 2 rfl)
theorem dX2_find_3 : decode cX2_find 3 = .ok (.iload_n 3, 1) := zo_29 (zi_at zh_dX2_find_0_0 3 rfl)
theorem dX2_find_4 : decode cX2_find 4 = .ok (.invokevirtual 113, 3) := zo_182 (zi_at zh_dX2_find_0_0 4 rfl) (zi_at zh_dX2_find_0_0 5 rfl) (zi_at zh_dX2_find_0_0 6 rfl) rfl
theorem dX2_find_7 : decode cX2_find 7 = .ok (.ifCond .eq 13, 3) := zo_153 (zi_at zh_dX2_find_0_0 7 rfl) (zi_at zh_dX2_find_0_0 8 rfl) (zi_at zh_dX2_find_0_0 9 rfl) rfl
theorem dX2_find_10 : decode cX2_find 10 = .ok (.aload_n 0, 1) := zo_42 (zi_at zh_dX2_find_0_0 10 rfl)
theorem dX2_find_11 : decode cX2_find 11 = .ok (.aload_n 1, 1) := zo_43 (zi_at zh_dX2_find_0_0 11 rfl)
theorem dX2_find_12 : decode cX2_find 12 = .ok (.iconst 1, 1) := zo_4 (zi_at zh_dX2_find_0_0 12 rfl)
theorem dX2_find_13 : decode cX2_find 13 = .ok (.iload_n 3, 1) := zo_29 (zi_at zh_dX2_find_0_0 13 rfl)
theorem dX2_find_14 : decode cX2_find 14 = .ok (.invokevirtual 113, 3) := zo_182 (zi_at zh_dX2_find_0_0 14 rfl) (zi_at zh_dX2_find_0_0 15 rfl) (zi_at zh_dX2_find_14_16 0 rfl) rfl
theorem dX2_find_17 : decode cX2_find 17 = .ok (.ifCond .ne 5, 3) := zo_154 (zi_at zh_dX2_find_14_16 1 rfl) (zi_at zh_dX2_find_14_16 2 rfl) (zi_at zh_dX2_find_14_16 3 rfl) rfl
theorem dX2_find_20 : decode cX2_find 20 = .ok (.iconst (-1), 1) := zo_2 (zi_at zh_dX2_find_14_16 4 rfl)
theorem dX2_find_21 : decode cX2_find 21 = .ok (.ireturn, 1) := zo_172 (zi_at zh_dX2_find_14_16 5 rfl)
theorem dX2_find_22 : decode cX2_find 22 = .ok (.aload_n 0, 1) := zo_42 (zi_at zh_dX2_find_14_16 6 rfl)
theorem dX2_find_23 : decode cX2_find 23 = .ok (.aload_n 0, 1) := zo_42 (zi_at zh_dX2_find_14_16 7 rfl)
theorem dX2_find_24 : decode cX2_find 24 = .ok (.getfield 27, 3) := zo_180 (zi_at zh_dX2_find_14_16 8 rfl) (zi_at zh_dX2_find_14_16 9 rfl) (zi_at zh_dX2_find_14_16 10 rfl) rfl
theorem dX2_find_27 : decode cX2_find 27 = .ok (.getfield 40, 3) := zo_180 (zi_at zh_dX2_find_14_16 11 rfl) (zi_at zh_dX2_find_14_16 12 rfl) (zi_at zh_dX2_find_14_16 13 rfl) rfl
theorem dX2_find_30 : decode cX2_find 30 = .ok (.aload_n 1, 1) := zo_43 (zi_at zh_dX2_find_14_16 14 rfl)
theorem dX2_find_31 : decode cX2_find 31 = .ok (.getfield 46, 3) := zo_180 (zi_at zh_dX2_find_14_16 15 rfl) (zi_at zh_dX2_find_31_32 0 rfl) (zi_at zh_dX2_find_31_32 1 rfl) rfl
theorem dX2_find_34 : decode cX2_find 34 = .ok (.invokevirtual 49, 3) := zo_182 (zi_at zh_dX2_find_31_32 2 rfl) (zi_at zh_dX2_find_31_32 3 rfl) (zi_at zh_dX2_find_31_32 4 rfl) rfl
theorem dX2_find_37 : decode cX2_find 37 = .ok (.checkcast 55, 3) := zo_192 (zi_at zh_dX2_find_31_32 5 rfl) (zi_at zh_dX2_find_31_32 6 rfl) (zi_at zh_dX2_find_31_32 7 rfl) rfl
theorem dX2_find_40 : decode cX2_find 40 = .ok (.putfield 117, 3) := zo_181 (zi_at zh_dX2_find_31_32 8 rfl) (zi_at zh_dX2_find_31_32 9 rfl) (zi_at zh_dX2_find_31_32 10 rfl) rfl
theorem dX2_find_43 : decode cX2_find 43 = .ok (.aload_n 0, 1) := zo_42 (zi_at zh_dX2_find_31_32 11 rfl)
theorem dX2_find_44 : decode cX2_find 44 = .ok (.aload_n 0, 1) := zo_42 (zi_at zh_dX2_find_31_32 12 rfl)
theorem dX2_find_45 : decode cX2_find 45 = .ok (.getfield 27, 3) := zo_180 (zi_at zh_dX2_find_31_32 13 rfl) (zi_at zh_dX2_find_31_32 14 rfl) (zi_at zh_dX2_find_31_32 15 rfl) rfl
theorem dX2_find_48 : decode cX2_find 48 = .ok (.aload_n 0, 1) := zo_42 (zi_at zh_dX2_find_48_48 0 rfl)
theorem dX2_find_49 : decode cX2_find 49 = .ok (.getfield 117, 3) := zo_180 (zi_at zh_dX2_find_48_48 1 rfl) (zi_at zh_dX2_find_48_48 2 rfl) (zi_at zh_dX2_find_48_48 3 rfl) rfl
theorem dX2_find_52 : decode cX2_find 52 = .ok (.getfield 120, 3) := zo_180 (zi_at zh_dX2_find_48_48 4 rfl) (zi_at zh_dX2_find_48_48 5 rfl) (zi_at zh_dX2_find_48_48 6 rfl) rfl
theorem dX2_find_55 : decode cX2_find 55 = .ok (.iload_n 3, 1) := zo_29 (zi_at zh_dX2_find_48_48 7 rfl)
theorem dX2_find_56 : decode cX2_find 56 = .ok (.invokevirtual 123, 3) := zo_182 (zi_at zh_dX2_find_48_48 8 rfl) (zi_at zh_dX2_find_48_48 9 rfl) (zi_at zh_dX2_find_48_48 10 rfl) rfl
theorem dX2_find_59 : decode cX2_find 59 = .ok (.putfield 126, 3) := zo_181 (zi_at zh_dX2_find_48_48 11 rfl) (zi_at zh_dX2_find_48_48 12 rfl) (zi_at zh_dX2_find_48_48 13 rfl) rfl
theorem dX2_find_62 : decode cX2_find 62 = .ok (.aload_n 0, 1) := zo_42 (zi_at zh_dX2_find_48_48 14 rfl)
theorem dX2_find_63 : decode cX2_find 63 = .ok (.iload_n 2, 1) := zo_28 (zi_at zh_dX2_find_48_48 15 rfl)
theorem dX2_find_64 : decode cX2_find 64 = .ok (.ifCond .ne 8, 3) := zo_154 (zi_at zh_dX2_find_64_64 0 rfl) (zi_at zh_dX2_find_64_64 1 rfl) (zi_at zh_dX2_find_64_64 2 rfl) rfl
theorem dX2_find_67 : decode cX2_find 67 = .ok (.bipush 97, 2) := zo_16 (zi_at zh_dX2_find_64_64 3 rfl) (zi_at zh_dX2_find_64_64 4 rfl) rfl
theorem dX2_find_69 : decode cX2_find 69 = .ok (.goto 5, 3) := zo_167 (zi_at zh_dX2_find_64_64 5 rfl) (zi_at zh_dX2_find_64_64 6 rfl) (zi_at zh_dX2_find_64_64 7 rfl) rfl
theorem dX2_find_72 : decode cX2_find 72 = .ok (.bipush 98, 2) := zo_16 (zi_at zh_dX2_find_64_64 8 rfl) (zi_at zh_dX2_find_64_64 9 rfl) rfl
theorem dX2_find_74 : decode cX2_find 74 = .ok (.putfield 129, 3) := zo_181 (zi_at zh_dX2_find_64_64 10 rfl) (zi_at zh_dX2_find_64_64 11 rfl) (zi_at zh_dX2_find_64_64 12 rfl) rfl
theorem dX2_find_77 : decode cX2_find 77 = .ok (.aload_n 0, 1) := zo_42 (zi_at zh_dX2_find_64_64 13 rfl)
theorem dX2_find_78 : decode cX2_find 78 = .ok (.invokevirtual 133, 3) := zo_182 (zi_at zh_dX2_find_64_64 14 rfl) (zi_at zh_dX2_find_64_64 15 rfl) (zi_at zh_dX2_find_78_80 0 rfl) rfl
theorem dX2_find_81 : decode cX2_find 81 = .ok (.iconst 0, 1) := zo_3 (zi_at zh_dX2_find_78_80 1 rfl)
theorem dX2_find_82 : decode cX2_find 82 = .ok (.istore 4, 2) := zo_54 (zi_at zh_dX2_find_78_80 2 rfl) (zi_at zh_dX2_find_78_80 3 rfl)
theorem dX2_find_84 : decode cX2_find 84 = .ok (.aload_n 0, 1) := zo_42 (zi_at zh_dX2_find_78_80 4 rfl)
theorem dX2_find_85 : decode cX2_find 85 = .ok (.getfield 9, 3) := zo_180 (zi_at zh_dX2_find_78_80 5 rfl) (zi_at zh_dX2_find_78_80 6 rfl) (zi_at zh_dX2_find_78_80 7 rfl) rfl
theorem dX2_find_88 : decode cX2_find 88 = .ok (.iconst 0, 1) := zo_3 (zi_at zh_dX2_find_78_80 8 rfl)
theorem dX2_find_89 : decode cX2_find 89 = .ok (.iaload, 1) := zo_46 (zi_at zh_dX2_find_78_80 9 rfl)
theorem dX2_find_90 : decode cX2_find 90 = .ok (.istore 5, 2) := zo_54 (zi_at zh_dX2_find_78_80 10 rfl) (zi_at zh_dX2_find_78_80 11 rfl)
theorem dX2_find_92 : decode cX2_find 92 = .ok (.iload 5, 2) := zo_21 (zi_at zh_dX2_find_78_80 12 rfl) (zi_at zh_dX2_find_78_80 13 rfl)
theorem dX2_find_94 : decode cX2_find 94 = .ok (.aload_n 0, 1) := zo_42 (zi_at zh_dX2_find_78_80 14 rfl)
theorem dX2_find_95 : decode cX2_find 95 = .ok (.getfield 15, 3) := zo_180 (zi_at zh_dX2_find_78_80 15 rfl) (zi_at zh_dX2_find_95_96 0 rfl) (zi_at zh_dX2_find_95_96 1 rfl) rfl
theorem dX2_find_98 : decode cX2_find 98 = .ok (.iconst 0, 1) := zo_3 (zi_at zh_dX2_find_95_96 2 rfl)
theorem dX2_find_99 : decode cX2_find 99 = .ok (.iaload, 1) := zo_46 (zi_at zh_dX2_find_95_96 3 rfl)
theorem dX2_find_100 : decode cX2_find 100 = .ok (.if_icmp .gt 59, 3) := zo_163 (zi_at zh_dX2_find_95_96 4 rfl) (zi_at zh_dX2_find_95_96 5 rfl) (zi_at zh_dX2_find_95_96 6 rfl) rfl
theorem dX2_find_103 : decode cX2_find 103 = .ok (.iload 4, 2) := zo_21 (zi_at zh_dX2_find_95_96 7 rfl) (zi_at zh_dX2_find_95_96 8 rfl)
theorem dX2_find_105 : decode cX2_find 105 = .ok (.iconst 3, 1) := zo_6 (zi_at zh_dX2_find_95_96 9 rfl)
theorem dX2_find_106 : decode cX2_find 106 = .ok (.if_icmp .eq 53, 3) := zo_159 (zi_at zh_dX2_find_95_96 10 rfl) (zi_at zh_dX2_find_95_96 11 rfl) (zi_at zh_dX2_find_95_96 12 rfl) rfl
theorem dX2_find_109 : decode cX2_find 109 = .ok (.aload_n 0, 1) := zo_42 (zi_at zh_dX2_find_95_96 13 rfl)
theorem dX2_find_110 : decode cX2_find 110 = .ok (.getfield 18, 3) := zo_180 (zi_at zh_dX2_find_95_96 14 rfl) (zi_at zh_dX2_find_95_96 15 rfl) (zi_at zh_dX2_find_110_112 0 rfl) rfl
theorem dX2_find_113 : decode cX2_find 113 = .ok (.iconst 0, 1) := zo_3 (zi_at zh_dX2_find_110_112 1 rfl)
theorem dX2_find_114 : decode cX2_find 114 = .ok (.iaload, 1) := zo_46 (zi_at zh_dX2_find_110_112 2 rfl)
theorem dX2_find_115 : decode cX2_find 115 = .ok (.istore 6, 2) := zo_54 (zi_at zh_dX2_find_110_112 3 rfl) (zi_at zh_dX2_find_110_112 4 rfl)
theorem dX2_find_117 : decode cX2_find 117 = .ok (.iload 6, 2) := zo_21 (zi_at zh_dX2_find_110_112 5 rfl) (zi_at zh_dX2_find_110_112 6 rfl)
theorem dX2_find_119 : decode cX2_find 119 = .ok (.aload_n 0, 1) := zo_42 (zi_at zh_dX2_find_110_112 7 rfl)
theorem dX2_find_120 : decode cX2_find 120 = .ok (.getfield 21, 3) := zo_180 (zi_at zh_dX2_find_110_112 8 rfl) (zi_at zh_dX2_find_110_112 9 rfl) (zi_at zh_dX2_find_110_112 10 rfl) rfl
theorem dX2_find_123 : decode cX2_find 123 = .ok (.iconst 0, 1) := zo_3 (zi_at zh_dX2_find_110_112 11 rfl)
theorem dX2_find_124 : decode cX2_find 124 = .ok (.iaload, 1) := zo_46 (zi_at zh_dX2_find_110_112 12 rfl)
theorem dX2_find_125 : decode cX2_find 125 = .ok (.if_icmp .gt 28, 3) := zo_163 (zi_at zh_dX2_find_110_112 13 rfl) (zi_at zh_dX2_find_110_112 14 rfl) (zi_at zh_dX2_find_110_112 15 rfl) rfl
theorem dX2_find_128 : decode cX2_find 128 = .ok (.iload 4, 2) := zo_21 (zi_at zh_dX2_find_128_128 0 rfl) (zi_at zh_dX2_find_128_128 1 rfl)
theorem dX2_find_130 : decode cX2_find 130 = .ok (.iconst 3, 1) := zo_6 (zi_at zh_dX2_find_128_128 2 rfl)
theorem dX2_find_131 : decode cX2_find 131 = .ok (.if_icmp .eq 22, 3) := zo_159 (zi_at zh_dX2_find_128_128 3 rfl) (zi_at zh_dX2_find_128_128 4 rfl) (zi_at zh_dX2_find_128_128 5 rfl) rfl
theorem dX2_find_134 : decode cX2_find 134 = .ok (.iload 4, 2) := zo_21 (zi_at zh_dX2_find_128_128 6 rfl) (zi_at zh_dX2_find_128_128 7 rfl)
theorem dX2_find_136 : decode cX2_find 136 = .ok (.aload_n 0, 1) := zo_42 (zi_at zh_dX2_find_128_128 8 rfl)
theorem dX2_find_137 : decode cX2_find 137 = .ok (.iload 5, 2) := zo_21 (zi_at zh_dX2_find_128_128 9 rfl) (zi_at zh_dX2_find_128_128 10 rfl)
theorem dX2_find_139 : decode cX2_find 139 = .ok (.iload 6, 2) := zo_21 (zi_at zh_dX2_find_128_128 11 rfl) (zi_at zh_dX2_find_128_128 12 rfl)
theorem dX2_find_141 : decode cX2_find 141 = .ok (.invokevirtual 136, 3) := zo_182 (zi_at zh_dX2_find_128_128 13 rfl) (zi_at zh_dX2_find_128_128 14 rfl) (zi_at zh_dX2_find_128_128 15 rfl) rfl
theorem dX2_find_144 : decode cX2_find 144 = .ok (.ior, 1) := zo_128 (zi_at zh_dX2_find_144_144 0 rfl)
theorem dX2_find_145 : decode cX2_find 145 = .ok (.istore 4, 2) := zo_54 (zi_at zh_dX2_find_144_144 1 rfl) (zi_at zh_dX2_find_144_144 2 rfl)
theorem dX2_find_147 : decode cX2_find 147 = .ok (.iinc 6 1, 3) := zo_132 (zi_at zh_dX2_find_144_144 3 rfl) (zi_at zh_dX2_find_144_144 4 rfl) (zi_at zh_dX2_find_144_144 5 rfl) rfl
theorem dX2_find_150 : decode cX2_find 150 = .ok (.goto (-33), 3) := zo_167 (zi_at zh_dX2_find_144_144 6 rfl) (zi_at zh_dX2_find_144_144 7 rfl) (zi_at zh_dX2_find_144_144 8 rfl) rfl
theorem dX2_find_153 : decode cX2_find 153 = .ok (.iinc 5 1, 3) := zo_132 (zi_at zh_dX2_find_144_144 9 rfl) (zi_at zh_dX2_find_144_144 10 rfl) (zi_at zh_dX2_find_144_144 11 rfl) rfl
theorem dX2_find_156 : decode cX2_find 156 = .ok (.goto (-64), 3) := zo_167 (zi_at zh_dX2_find_144_144 12 rfl) (zi_at zh_dX2_find_144_144 13 rfl) (zi_at zh_dX2_find_144_144 14 rfl) rfl
theorem dX2_find_159 : decode cX2_find 159 = .ok (.iload 4, 2) := zo_21 (zi_at zh_dX2_find_144_144 15 rfl) (zi_at zh_dX2_find_159_160 0 rfl)
theorem dX2_find_161 : decode cX2_find 161 = .ok (.iconst 3, 1) := zo_6 (zi_at zh_dX2_find_159_160 1 rfl)
theorem dX2_find_162 : decode cX2_find 162 = .ok (.if_icmp .ne 7, 3) := zo_160 (zi_at zh_dX2_find_159_160 2 rfl) (zi_at zh_dX2_find_159_160 3 rfl) (zi_at zh_dX2_find_159_160 4 rfl) rfl
theorem dX2_find_165 : decode cX2_find 165 = .ok (.iconst 2, 1) := zo_5 (zi_at zh_dX2_find_159_160 5 rfl)
theorem dX2_find_166 : decode cX2_find 166 = .ok (.goto 14, 3) := zo_167 (zi_at zh_dX2_find_159_160 6 rfl) (zi_at zh_dX2_find_159_160 7 rfl) (zi_at zh_dX2_find_159_160 8 rfl) rfl
theorem dX2_find_169 : decode cX2_find 169 = .ok (.iload 4, 2) := zo_21 (zi_at zh_dX2_find_159_160 9 rfl) (zi_at zh_dX2_find_159_160 10 rfl)
theorem dX2_find_171 : decode cX2_find 171 = .ok (.iconst 2, 1) := zo_5 (zi_at zh_dX2_find_159_160 11 rfl)
theorem dX2_find_172 : decode cX2_find 172 = .ok (.if_icmp .ne 7, 3) := zo_160 (zi_at zh_dX2_find_159_160 12 rfl) (zi_at zh_dX2_find_159_160 13 rfl) (zi_at zh_dX2_find_159_160 14 rfl) rfl
theorem dX2_find_175 : decode cX2_find 175 = .ok (.iconst 1, 1) := zo_4 (zi_at zh_dX2_find_159_160 15 rfl)
theorem dX2_find_176 : decode cX2_find 176 = .ok (.goto 4, 3) := zo_167 (zi_at zh_dX2_find_176_176 0 rfl) (zi_at zh_dX2_find_176_176 1 rfl) (zi_at zh_dX2_find_176_176 2 rfl) rfl
theorem dX2_find_179 : decode cX2_find 179 = .ok (.iconst 0, 1) := zo_3 (zi_at zh_dX2_find_176_176 3 rfl)
theorem dX2_find_180 : decode cX2_find 180 = .ok (.ireturn, 1) := zo_172 (zi_at zh_dX2_find_176_176 4 rfl)
theorem dX2_gatherTacks_0 : decode cX2_gatherTacks 0 = .ok (.aload_n 0, 1) := zo_42 (zi_at zh_dX2_gatherTacks_0_0 0 rfl)
theorem dX2_gatherTacks_1 : decode cX2_gatherTacks 1 = .ok (.iconst 0, 1) := zo_3 (zi_at zh_dX2_gatherTacks_0_0 1 rfl)
theorem dX2_gatherTacks_2 : decode cX2_gatherTacks 2 = .ok (.putfield 139, 3) := zo_181 (zi_at zh_dX2_gatherTacks_0_0 2 rfl) (zi_at zh_dX2_gatherTacks_0_0 3 rfl) (zi_at zh_dX2_gatherTacks_0_0 4 rfl) rfl
theorem dX2_gatherTacks_5 : decode cX2_gatherTacks 5 = .ok (.iconst 0, 1) := zo_3 (zi_at zh_dX2_gatherTacks_0_0 5 rfl)
theorem dX2_gatherTacks_6 : decode cX2_gatherTacks 6 = .ok (.istore_n 1, 1) := zo_60 (zi_at zh_dX2_gatherTacks_0_0 6 rfl)
theorem dX2_gatherTacks_7 : decode cX2_gatherTacks 7 = .ok (.iload_n 1, 1) := zo_27 (zi_at zh_dX2_gatherTacks_0_0 7 rfl)
theorem dX2_gatherTacks_8 : decode cX2_gatherTacks 8 = .ok (.bipush 8, 2) := zo_16 (zi_at zh_dX2_gatherTacks_0_0 8 rfl) (zi_at zh_dX2_gatherTacks_0_0 9 rfl) rfl
theorem dX2_gatherTacks_10 : decode cX2_gatherTacks 10 = .ok (.if_icmp .ge 89, 3) := zo_162 (zi_at zh_dX2_gatherTacks_0_0 10 rfl) (zi_at zh_dX2_gatherTacks_0_0 11 rfl) (zi_at zh_dX2_gatherTacks_0_0 12 rfl) rfl
theorem dX2_gatherTacks_13 : decode cX2_gatherTacks 13 = .ok (.iconst 0, 1) := zo_3 (zi_at zh_dX2_gatherTacks_0_0 13 rfl)
theorem dX2_gatherTacks_14 : decode cX2_gatherTacks 14 = .ok (.istore_n 2, 1) := zo_61 (zi_at zh_dX2_gatherTacks_0_0 14 rfl)
theorem dX2_gatherTacks_15 : decode cX2_gatherTacks 15 = .ok (.iload_n 2, 1) := zo_28 (zi_at zh_dX2_gatherTacks_0_0 15 rfl)
theorem dX2_gatherTacks_16 : decode cX2_gatherTacks 16 = .ok (.bipush 8, 2) := zo_16 (zi_at zh_dX2_gatherTacks_16_16 0 rfl) (zi_at zh_dX2_gatherTacks_16_16 1 rfl) rfl
theorem dX2_gatherTacks_18 : decode cX2_gatherTacks 18 = .ok (.if_icmp .ge 75, 3) := zo_162 (zi_at zh_dX2_gatherTacks_16_16 2 rfl) (zi_at zh_dX2_gatherTacks_16_16 3 rfl) (zi_at zh_dX2_gatherTacks_16_16 4 rfl) rfl
theorem dX2_gatherTacks_21 : decode cX2_gatherTacks 21 = .ok (.aload_n 0, 1) := zo_42 (zi_at zh_dX2_gatherTacks_16_16 5 rfl)
theorem dX2_gatherTacks_22 : decode cX2_gatherTacks 22 = .ok (.getfield 24, 3) := zo_180 (zi_at zh_dX2_gatherTacks_16_16 6 rfl) (zi_at zh_dX2_gatherTacks_16_16 7 rfl) (zi_at zh_dX2_gatherTacks_16_16 8 rfl) rfl
theorem dX2_gatherTacks_25 : decode cX2_gatherTacks 25 = .ok (.iconst 0, 1) := zo_3 (zi_at zh_dX2_gatherTacks_16_16 9 rfl)
theorem dX2_gatherTacks_26 : decode cX2_gatherTacks 26 = .ok (.iaload, 1) := zo_46 (zi_at zh_dX2_gatherTacks_16_16 10 rfl)
theorem dX2_gatherTacks_27 : decode cX2_gatherTacks 27 = .ok (.iload_n 1, 1) := zo_27 (zi_at zh_dX2_gatherTacks_16_16 11 rfl)
theorem dX2_gatherTacks_28 : decode cX2_gatherTacks 28 = .ok (.ishr, 1) := zo_122 (zi_at zh_dX2_gatherTacks_16_16 12 rfl)
theorem dX2_gatherTacks_29 : decode cX2_gatherTacks 29 = .ok (.iconst 1, 1) := zo_4 (zi_at zh_dX2_gatherTacks_16_16 13 rfl)
theorem dX2_gatherTacks_30 : decode cX2_gatherTacks 30 = .ok (.iand, 1) := zo_126 (zi_at zh_dX2_gatherTacks_16_16 14 rfl)
theorem dX2_gatherTacks_31 : decode cX2_gatherTacks 31 = .ok (.ifCond .eq 56, 3) := zo_153 (zi_at zh_dX2_gatherTacks_16_16 15 rfl) (zi_at zh_dX2_gatherTacks_31_32 0 rfl) (zi_at zh_dX2_gatherTacks_31_32 1 rfl) rfl
theorem dX2_gatherTacks_34 : decode cX2_gatherTacks 34 = .ok (.aload_n 0, 1) := zo_42 (zi_at zh_dX2_gatherTacks_31_32 2 rfl)
theorem dX2_gatherTacks_35 : decode cX2_gatherTacks 35 = .ok (.getfield 24, 3) := zo_180 (zi_at zh_dX2_gatherTacks_31_32 3 rfl) (zi_at zh_dX2_gatherTacks_31_32 4 rfl) (zi_at zh_dX2_gatherTacks_31_32 5 rfl) rfl
theorem dX2_gatherTacks_38 : decode cX2_gatherTacks 38 = .ok (.iconst 1, 1) := zo_4 (zi_at zh_dX2_gatherTacks_31_32 6 rfl)
theorem dX2_gatherTacks_39 : decode cX2_gatherTacks 39 = .ok (.iaload, 1) := zo_46 (zi_at zh_dX2_gatherTacks_31_32 7 rfl)
theorem dX2_gatherTacks_40 : decode cX2_gatherTacks 40 = .ok (.iload_n 2, 1) := zo_28 (zi_at zh_dX2_gatherTacks_31_32 8 rfl)
theorem dX2_gatherTacks_41 : decode cX2_gatherTacks 41 = .ok (.ishr, 1) := zo_122 (zi_at zh_dX2_gatherTacks_31_32 9 rfl)
theorem dX2_gatherTacks_42 : decode cX2_gatherTacks 42 = .ok (.iconst 1, 1) := zo_4 (zi_at zh_dX2_gatherTacks_31_32 10 rfl)
theorem dX2_gatherTacks_43 : decode cX2_gatherTacks 43 = .ok (.iand, 1) := zo_126 (zi_at zh_dX2_gatherTacks_31_32 11 rfl)
theorem dX2_gatherTacks_44 : decode cX2_gatherTacks 44 = .ok (.ifCond .ne 6, 3) := zo_154 (zi_at zh_dX2_gatherTacks_31_32 12 rfl) (zi_at zh_dX2_gatherTacks_31_32 13 rfl) (zi_at zh_dX2_gatherTacks_31_32 14 rfl) rfl
theorem dX2_gatherTacks_47 : decode cX2_gatherTacks 47 = .ok (.goto 40, 3) := zo_167 (zi_at zh_dX2_gatherTacks_31_32 15 rfl) (zi_at zh_dX2_gatherTacks_47_48 0 rfl) (zi_at zh_dX2_gatherTacks_47_48 1 rfl) rfl
theorem dX2_gatherTacks_50 : decode cX2_gatherTacks 50 = .ok (.aload_n 0, 1) := zo_42 (zi_at zh_dX2_gatherTacks_47_48 2 rfl)
theorem dX2_gatherTacks_51 : decode cX2_gatherTacks 51 = .ok (.dup, 1) := zo_89 (zi_at zh_dX2_gatherTacks_47_48 3 rfl)
theorem dX2_gatherTacks_52 : decode cX2_gatherTacks 52 = .ok (.getfield 139, 3) := zo_180 (zi_at zh_dX2_gatherTacks_47_48 4 rfl) (zi_at zh_dX2_gatherTacks_47_48 5 rfl) (zi_at zh_dX2_gatherTacks_47_48 6 rfl) rfl
theorem dX2_gatherTacks_55 : decode cX2_gatherTacks 55 = .ok (.iconst 1, 1) := zo_4 (zi_at zh_dX2_gatherTacks_47_48 7 rfl)
theorem dX2_gatherTacks_56 : decode cX2_gatherTacks 56 = .ok (.iconst 4, 1) := zo_7 (zi_at zh_dX2_gatherTacks_47_48 8 rfl)
theorem dX2_gatherTacks_57 : decode cX2_gatherTacks 57 = .ok (.aload_n 0, 1) := zo_42 (zi_at zh_dX2_gatherTacks_47_48 9 rfl)
theorem dX2_gatherTacks_58 : decode cX2_gatherTacks 58 = .ok (.iload_n 1, 1) := zo_27 (zi_at zh_dX2_gatherTacks_47_48 10 rfl)
theorem dX2_gatherTacks_59 : decode cX2_gatherTacks 59 = .ok (.invokevirtual 142, 3) := zo_182 (zi_at zh_dX2_gatherTacks_47_48 11 rfl) (zi_at zh_dX2_gatherTacks_47_48 12 rfl) (zi_at zh_dX2_gatherTacks_47_48 13 rfl) rfl
theorem dX2_gatherTacks_62 : decode cX2_gatherTacks 62 = .ok (.imul, 1) := zo_104 (zi_at zh_dX2_gatherTacks_47_48 14 rfl)
theorem dX2_gatherTacks_63 : decode cX2_gatherTacks 63 = .ok (.iconst 2, 1) := zo_5 (zi_at zh_dX2_gatherTacks_47_48 15 rfl)
theorem dX2_gatherTacks_64 : decode cX2_gatherTacks 64 = .ok (.aload_n 0, 1) := zo_42 (zi_at zh_dX2_gatherTacks_64_64 0 rfl)
theorem dX2_gatherTacks_65 : decode cX2_gatherTacks 65 = .ok (.iload_n 2, 1) := zo_28 (zi_at zh_dX2_gatherTacks_64_64 1 rfl)
theorem dX2_gatherTacks_66 : decode cX2_gatherTacks 66 = .ok (.invokevirtual 142, 3) := zo_182 (zi_at zh_dX2_gatherTacks_64_64 2 rfl) (zi_at zh_dX2_gatherTacks_64_64 3 rfl) (zi_at zh_dX2_gatherTacks_64_64 4 rfl) rfl
theorem dX2_gatherTacks_69 : decode cX2_gatherTacks 69 = .ok (.imul, 1) := zo_104 (zi_at zh_dX2_gatherTacks_64_64 5 rfl)
theorem dX2_gatherTacks_70 : decode cX2_gatherTacks 70 = .ok (.iadd, 1) := zo_96 (zi_at zh_dX2_gatherTacks_64_64 6 rfl)
theorem dX2_gatherTacks_71 : decode cX2_gatherTacks 71 = .ok (.iload_n 1, 1) := zo_27 (zi_at zh_dX2_gatherTacks_64_64 7 rfl)
theorem dX2_gatherTacks_72 : decode cX2_gatherTacks 72 = .ok (.iload_n 2, 1) := zo_28 (zi_at zh_dX2_gatherTacks_64_64 8 rfl)
theorem dX2_gatherTacks_73 : decode cX2_gatherTacks 73 = .ok (.if_icmp .ne 7, 3) := zo_160 (zi_at zh_dX2_gatherTacks_64_64 9 rfl) (zi_at zh_dX2_gatherTacks_64_64 10 rfl) (zi_at zh_dX2_gatherTacks_64_64 11 rfl) rfl
theorem dX2_gatherTacks_76 : decode cX2_gatherTacks 76 = .ok (.iconst 1, 1) := zo_4 (zi_at zh_dX2_gatherTacks_64_64 12 rfl)
theorem dX2_gatherTacks_77 : decode cX2_gatherTacks 77 = .ok (.goto 4, 3) := zo_167 (zi_at zh_dX2_gatherTacks_64_64 13 rfl) (zi_at zh_dX2_gatherTacks_64_64 14 rfl) (zi_at zh_dX2_gatherTacks_64_64 15 rfl) rfl
theorem dX2_gatherTacks_80 : decode cX2_gatherTacks 80 = .ok (.iconst 0, 1) := zo_3 (zi_at zh_dX2_gatherTacks_80_80 0 rfl)
theorem dX2_gatherTacks_81 : decode cX2_gatherTacks 81 = .ok (.iadd, 1) := zo_96 (zi_at zh_dX2_gatherTacks_80_80 1 rfl)
theorem dX2_gatherTacks_82 : decode cX2_gatherTacks 82 = .ok (.ishl, 1) := zo_120 (zi_at zh_dX2_gatherTacks_80_80 2 rfl)
theorem dX2_gatherTacks_83 : decode cX2_gatherTacks 83 = .ok (.ior, 1) := zo_128 (zi_at zh_dX2_gatherTacks_80_80 3 rfl)
theorem dX2_gatherTacks_84 : decode cX2_gatherTacks 84 = .ok (.putfield 139, 3) := zo_181 (zi_at zh_dX2_gatherTacks_80_80 4 rfl) (zi_at zh_dX2_gatherTacks_80_80 5 rfl) (zi_at zh_dX2_gatherTacks_80_80 6 rfl) rfl
theorem dX2_gatherTacks_87 : decode cX2_gatherTacks 87 = .ok (.iinc 2 1, 3) := zo_132 (zi_at zh_dX2_gatherTacks_80_80 7 rfl) (zi_at zh_dX2_gatherTacks_80_80 8 rfl) (zi_at zh_dX2_gatherTacks_80_80 9 rfl) rfl
theorem dX2_gatherTacks_90 : decode cX2_gatherTacks 90 = .ok (.goto (-75), 3) := zo_167 (zi_at zh_dX2_gatherTacks_80_80 10 rfl) (zi_at zh_dX2_gatherTacks_80_80 11 rfl) (zi_at zh_dX2_gatherTacks_80_80 12 rfl) rfl
theorem dX2_gatherTacks_93 : decode cX2_gatherTacks 93 = .ok (.iinc 1 1, 3) := zo_132 (zi_at zh_dX2_gatherTacks_80_80 13 rfl) (zi_at zh_dX2_gatherTacks_80_80 14 rfl) (zi_at zh_dX2_gatherTacks_80_80 15 rfl) rfl
theorem dX2_gatherTacks_96 : decode cX2_gatherTacks 96 = .ok (.goto (-89), 3) := zo_167 (zi_at zh_dX2_gatherTacks_96_96 0 rfl) (zi_at zh_dX2_gatherTacks_96_96 1 rfl) (zi_at zh_dX2_gatherTacks_96_96 2 rfl) rfl
theorem dX2_gatherTacks_99 : decode cX2_gatherTacks 99 = .ok (.return_, 1) := zo_177 (zi_at zh_dX2_gatherTacks_96_96 3 rfl)
theorem dX2_starboard_0 : decode cX2_starboard 0 = .ok (.iload_n 1, 1) := zo_27 (zi_at zh_dX2_starboard_0_0 0 rfl)
theorem dX2_starboard_1 : decode cX2_starboard 1 = .ok (.aload_n 0, 1) := zo_42 (zi_at zh_dX2_starboard_0_0 1 rfl)
theorem dX2_starboard_2 : decode cX2_starboard 2 = .ok (.getfield 117, 3) := zo_180 (zi_at zh_dX2_starboard_0_0 2 rfl) (zi_at zh_dX2_starboard_0_0 3 rfl) (zi_at zh_dX2_starboard_0_0 4 rfl) rfl
theorem dX2_starboard_5 : decode cX2_starboard 5 = .ok (.getfield 145, 3) := zo_180 (zi_at zh_dX2_starboard_0_0 5 rfl) (zi_at zh_dX2_starboard_0_0 6 rfl) (zi_at zh_dX2_starboard_0_0 7 rfl) rfl
theorem dX2_starboard_8 : decode cX2_starboard 8 = .ok (.isub, 1) := zo_100 (zi_at zh_dX2_starboard_0_0 8 rfl)
theorem dX2_starboard_9 : decode cX2_starboard 9 = .ok (.bipush 8, 2) := zo_16 (zi_at zh_dX2_starboard_0_0 9 rfl) (zi_at zh_dX2_starboard_0_0 10 rfl) rfl
theorem dX2_starboard_11 : decode cX2_starboard 11 = .ok (.iadd, 1) := zo_96 (zi_at zh_dX2_starboard_0_0 11 rfl)
theorem dX2_starboard_12 : decode cX2_starboard 12 = .ok (.bipush 8, 2) := zo_16 (zi_at zh_dX2_starboard_0_0 12 rfl) (zi_at zh_dX2_starboard_0_0 13 rfl) rfl
theorem dX2_starboard_14 : decode cX2_starboard 14 = .ok (.irem, 1) := zo_112 (zi_at zh_dX2_starboard_0_0 14 rfl)
theorem dX2_starboard_15 : decode cX2_starboard 15 = .ok (.iconst 5, 1) := zo_8 (zi_at zh_dX2_starboard_0_0 15 rfl)
theorem dX2_starboard_16 : decode cX2_starboard 16 = .ok (.if_icmp .lt 7, 3) := zo_161 (zi_at zh_dX2_starboard_16_16 0 rfl) (zi_at zh_dX2_starboard_16_16 1 rfl) (zi_at zh_dX2_starboard_16_16 2 rfl) rfl
theorem dX2_starboard_19 : decode cX2_starboard 19 = .ok (.iconst 1, 1) := zo_4 (zi_at zh_dX2_starboard_16_16 3 rfl)
theorem dX2_starboard_20 : decode cX2_starboard 20 = .ok (.goto 4, 3) := zo_167 (zi_at zh_dX2_starboard_16_16 4 rfl) (zi_at zh_dX2_starboard_16_16 5 rfl) (zi_at zh_dX2_starboard_16_16 6 rfl) rfl
theorem dX2_starboard_23 : decode cX2_starboard 23 = .ok (.iconst 0, 1) := zo_3 (zi_at zh_dX2_starboard_16_16 7 rfl)
theorem dX2_starboard_24 : decode cX2_starboard 24 = .ok (.ireturn, 1) := zo_172 (zi_at zh_dX2_starboard_16_16 8 rfl)
theorem dX2_faultsFrom_0 : decode cX2_faultsFrom 0 = .ok (.iconst 0, 1) := zo_3 (zi_at zh_dX2_faultsFrom_0_0 0 rfl)
theorem dX2_faultsFrom_1 : decode cX2_faultsFrom 1 = .ok (.istore_n 3, 1) := zo_62 (zi_at zh_dX2_faultsFrom_0_0 1 rfl)
theorem dX2_faultsFrom_2 : decode cX2_faultsFrom 2 = .ok (.aload_n 0, 1) := zo_42 (zi_at zh_dX2_faultsFrom_0_0 2 rfl)
theorem dX2_faultsFrom_3 : decode cX2_faultsFrom 3 = .ok (.getfield 9, 3) := zo_180 (zi_at zh_dX2_faultsFrom_0_0 3 rfl) (zi_at zh_dX2_faultsFrom_0_0 4 rfl) (zi_at zh_dX2_faultsFrom_0_0 5 rfl) rfl
theorem dX2_faultsFrom_6 : decode cX2_faultsFrom 6 = .ok (.iconst 1, 1) := zo_4 (zi_at zh_dX2_faultsFrom_0_0 6 rfl)
theorem dX2_faultsFrom_7 : decode cX2_faultsFrom 7 = .ok (.iaload, 1) := zo_46 (zi_at zh_dX2_faultsFrom_0_0 7 rfl)
theorem dX2_faultsFrom_8 : decode cX2_faultsFrom 8 = .ok (.istore 4, 2) := zo_54 (zi_at zh_dX2_faultsFrom_0_0 8 rfl) (zi_at zh_dX2_faultsFrom_0_0 9 rfl)
theorem dX2_faultsFrom_10 : decode cX2_faultsFrom 10 = .ok (.iload 4, 2) := zo_21 (zi_at zh_dX2_faultsFrom_0_0 10 rfl) (zi_at zh_dX2_faultsFrom_0_0 11 rfl)
theorem dX2_faultsFrom_12 : decode cX2_faultsFrom 12 = .ok (.aload_n 0, 1) := zo_42 (zi_at zh_dX2_faultsFrom_0_0 12 rfl)
theorem dX2_faultsFrom_13 : decode cX2_faultsFrom 13 = .ok (.getfield 15, 3) := zo_180 (zi_at zh_dX2_faultsFrom_0_0 13 rfl) (zi_at zh_dX2_faultsFrom_0_0 14 rfl) (zi_at zh_dX2_faultsFrom_0_0 15 rfl) rfl
theorem dX2_faultsFrom_16 : decode cX2_faultsFrom 16 = .ok (.iconst 1, 1) := zo_4 (zi_at zh_dX2_faultsFrom_16_16 0 rfl)
theorem dX2_faultsFrom_17 : decode cX2_faultsFrom 17 = .ok (.iaload, 1) := zo_46 (zi_at zh_dX2_faultsFrom_16_16 1 rfl)
theorem dX2_faultsFrom_18 : decode cX2_faultsFrom 18 = .ok (.if_icmp .gt 191, 3) := zo_163 (zi_at zh_dX2_faultsFrom_16_16 2 rfl) (zi_at zh_dX2_faultsFrom_16_16 3 rfl) (zi_at zh_dX2_faultsFrom_16_16 4 rfl) rfl
theorem dX2_faultsFrom_21 : decode cX2_faultsFrom 21 = .ok (.iload_n 3, 1) := zo_29 (zi_at zh_dX2_faultsFrom_16_16 5 rfl)
theorem dX2_faultsFrom_22 : decode cX2_faultsFrom 22 = .ok (.iconst 3, 1) := zo_6 (zi_at zh_dX2_faultsFrom_16_16 6 rfl)
theorem dX2_faultsFrom_23 : decode cX2_faultsFrom 23 = .ok (.if_icmp .eq 186, 3) := zo_159 (zi_at zh_dX2_faultsFrom_16_16 7 rfl) (zi_at zh_dX2_faultsFrom_16_16 8 rfl) (zi_at zh_dX2_faultsFrom_16_16 9 rfl) rfl
theorem dX2_faultsFrom_26 : decode cX2_faultsFrom 26 = .ok (.aload_n 0, 1) := zo_42 (zi_at zh_dX2_faultsFrom_16_16 10 rfl)
theorem dX2_faultsFrom_27 : decode cX2_faultsFrom 27 = .ok (.getfield 18, 3) := zo_180 (zi_at zh_dX2_faultsFrom_16_16 11 rfl) (zi_at zh_dX2_faultsFrom_16_16 12 rfl) (zi_at zh_dX2_faultsFrom_16_16 13 rfl) rfl
theorem dX2_faultsFrom_30 : decode cX2_faultsFrom 30 = .ok (.iconst 1, 1) := zo_4 (zi_at zh_dX2_faultsFrom_16_16 14 rfl)
theorem dX2_faultsFrom_31 : decode cX2_faultsFrom 31 = .ok (.iaload, 1) := zo_46 (zi_at zh_dX2_faultsFrom_16_16 15 rfl)
theorem dX2_faultsFrom_32 : decode cX2_faultsFrom 32 = .ok (.istore 5, 2) := zo_54 (zi_at zh_dX2_faultsFrom_32_32 0 rfl) (zi_at zh_dX2_faultsFrom_32_32 1 rfl)
theorem dX2_faultsFrom_34 : decode cX2_faultsFrom 34 = .ok (.iload 5, 2) := zo_21 (zi_at zh_dX2_faultsFrom_32_32 2 rfl) (zi_at zh_dX2_faultsFrom_32_32 3 rfl)
theorem dX2_faultsFrom_36 : decode cX2_faultsFrom 36 = .ok (.aload_n 0, 1) := zo_42 (zi_at zh_dX2_faultsFrom_32_32 4 rfl)
theorem dX2_faultsFrom_37 : decode cX2_faultsFrom 37 = .ok (.getfield 21, 3) := zo_180 (zi_at zh_dX2_faultsFrom_32_32 5 rfl) (zi_at zh_dX2_faultsFrom_32_32 6 rfl) (zi_at zh_dX2_faultsFrom_32_32 7 rfl) rfl
theorem dX2_faultsFrom_40 : decode cX2_faultsFrom 40 = .ok (.iconst 1, 1) := zo_4 (zi_at zh_dX2_faultsFrom_32_32 8 rfl)
theorem dX2_faultsFrom_41 : decode cX2_faultsFrom 41 = .ok (.iaload, 1) := zo_46 (zi_at zh_dX2_faultsFrom_32_32 9 rfl)
theorem dX2_faultsFrom_42 : decode cX2_faultsFrom 42 = .ok (.if_icmp .gt 161, 3) := zo_163 (zi_at zh_dX2_faultsFrom_32_32 10 rfl) (zi_at zh_dX2_faultsFrom_32_32 11 rfl) (zi_at zh_dX2_faultsFrom_32_32 12 rfl) rfl
theorem dX2_faultsFrom_45 : decode cX2_faultsFrom 45 = .ok (.iload_n 3, 1) := zo_29 (zi_at zh_dX2_faultsFrom_32_32 13 rfl)
theorem dX2_faultsFrom_46 : decode cX2_faultsFrom 46 = .ok (.iconst 3, 1) := zo_6 (zi_at zh_dX2_faultsFrom_32_32 14 rfl)
theorem dX2_faultsFrom_47 : decode cX2_faultsFrom 47 = .ok (.if_icmp .eq 156, 3) := zo_159 (zi_at zh_dX2_faultsFrom_32_32 15 rfl) (zi_at zh_dX2_faultsFrom_47_48 0 rfl) (zi_at zh_dX2_faultsFrom_47_48 1 rfl) rfl
theorem dX2_faultsFrom_50 : decode cX2_faultsFrom 50 = .ok (.aload_n 0, 1) := zo_42 (zi_at zh_dX2_faultsFrom_47_48 2 rfl)
theorem dX2_faultsFrom_51 : decode cX2_faultsFrom 51 = .ok (.getfield 27, 3) := zo_180 (zi_at zh_dX2_faultsFrom_47_48 3 rfl) (zi_at zh_dX2_faultsFrom_47_48 4 rfl) (zi_at zh_dX2_faultsFrom_47_48 5 rfl) rfl
theorem dX2_faultsFrom_54 : decode cX2_faultsFrom 54 = .ok (.invokevirtual 148, 3) := zo_182 (zi_at zh_dX2_faultsFrom_47_48 6 rfl) (zi_at zh_dX2_faultsFrom_47_48 7 rfl) (zi_at zh_dX2_faultsFrom_47_48 8 rfl) rfl
theorem dX2_faultsFrom_57 : decode cX2_faultsFrom 57 = .ok (.iload_n 1, 1) := zo_27 (zi_at zh_dX2_faultsFrom_47_48 9 rfl)
theorem dX2_faultsFrom_58 : decode cX2_faultsFrom 58 = .ok (.iload 4, 2) := zo_21 (zi_at zh_dX2_faultsFrom_47_48 10 rfl) (zi_at zh_dX2_faultsFrom_47_48 11 rfl)
theorem dX2_faultsFrom_60 : decode cX2_faultsFrom 60 = .ok (.isub, 1) := zo_100 (zi_at zh_dX2_faultsFrom_47_48 12 rfl)
theorem dX2_faultsFrom_61 : decode cX2_faultsFrom 61 = .ok (.getstatic 151, 3) := zo_178 (zi_at zh_dX2_faultsFrom_47_48 13 rfl) (zi_at zh_dX2_faultsFrom_47_48 14 rfl) (zi_at zh_dX2_faultsFrom_47_48 15 rfl) rfl
theorem dX2_faultsFrom_64 : decode cX2_faultsFrom 64 = .ok (.aload_n 0, 1) := zo_42 (zi_at zh_dX2_faultsFrom_64_64 0 rfl)
theorem dX2_faultsFrom_65 : decode cX2_faultsFrom 65 = .ok (.getfield 117, 3) := zo_180 (zi_at zh_dX2_faultsFrom_64_64 1 rfl) (zi_at zh_dX2_faultsFrom_64_64 2 rfl) (zi_at zh_dX2_faultsFrom_64_64 3 rfl) rfl
theorem dX2_faultsFrom_68 : decode cX2_faultsFrom 68 = .ok (.getfield 145, 3) := zo_180 (zi_at zh_dX2_faultsFrom_64_64 4 rfl) (zi_at zh_dX2_faultsFrom_64_64 5 rfl) (zi_at zh_dX2_faultsFrom_64_64 6 rfl) rfl
theorem dX2_faultsFrom_71 : decode cX2_faultsFrom 71 = .ok (.iaload, 1) := zo_46 (zi_at zh_dX2_faultsFrom_64_64 7 rfl)
theorem dX2_faultsFrom_72 : decode cX2_faultsFrom 72 = .ok (.imul, 1) := zo_104 (zi_at zh_dX2_faultsFrom_64_64 8 rfl)
theorem dX2_faultsFrom_73 : decode cX2_faultsFrom 73 = .ok (.iload_n 2, 1) := zo_28 (zi_at zh_dX2_faultsFrom_64_64 9 rfl)
theorem dX2_faultsFrom_74 : decode cX2_faultsFrom 74 = .ok (.iload 5, 2) := zo_21 (zi_at zh_dX2_faultsFrom_64_64 10 rfl) (zi_at zh_dX2_faultsFrom_64_64 11 rfl)
theorem dX2_faultsFrom_76 : decode cX2_faultsFrom 76 = .ok (.isub, 1) := zo_100 (zi_at zh_dX2_faultsFrom_64_64 12 rfl)
theorem dX2_faultsFrom_77 : decode cX2_faultsFrom 77 = .ok (.getstatic 154, 3) := zo_178 (zi_at zh_dX2_faultsFrom_64_64 13 rfl) (zi_at zh_dX2_faultsFrom_64_64 14 rfl) (zi_at zh_dX2_faultsFrom_64_64 15 rfl) rfl
theorem dX2_faultsFrom_80 : decode cX2_faultsFrom 80 = .ok (.aload_n 0, 1) := zo_42 (zi_at zh_dX2_faultsFrom_80_80 0 rfl)
theorem dX2_faultsFrom_81 : decode cX2_faultsFrom 81 = .ok (.getfield 117, 3) := zo_180 (zi_at zh_dX2_faultsFrom_80_80 1 rfl) (zi_at zh_dX2_faultsFrom_80_80 2 rfl) (zi_at zh_dX2_faultsFrom_80_80 3 rfl) rfl
theorem dX2_faultsFrom_84 : decode cX2_faultsFrom 84 = .ok (.getfield 145, 3) := zo_180 (zi_at zh_dX2_faultsFrom_80_80 4 rfl) (zi_at zh_dX2_faultsFrom_80_80 5 rfl) (zi_at zh_dX2_faultsFrom_80_80 6 rfl) rfl
theorem dX2_faultsFrom_87 : decode cX2_faultsFrom 87 = .ok (.iaload, 1) := zo_46 (zi_at zh_dX2_faultsFrom_80_80 7 rfl)
theorem dX2_faultsFrom_88 : decode cX2_faultsFrom 88 = .ok (.imul, 1) := zo_104 (zi_at zh_dX2_faultsFrom_80_80 8 rfl)
theorem dX2_faultsFrom_89 : decode cX2_faultsFrom 89 = .ok (.iadd, 1) := zo_96 (zi_at zh_dX2_faultsFrom_80_80 9 rfl)
theorem dX2_faultsFrom_90 : decode cX2_faultsFrom 90 = .ok (.istore 6, 2) := zo_54 (zi_at zh_dX2_faultsFrom_80_80 10 rfl) (zi_at zh_dX2_faultsFrom_80_80 11 rfl)
theorem dX2_faultsFrom_92 : decode cX2_faultsFrom 92 = .ok (.aload_n 0, 1) := zo_42 (zi_at zh_dX2_faultsFrom_80_80 12 rfl)
theorem dX2_faultsFrom_93 : decode cX2_faultsFrom 93 = .ok (.getfield 27, 3) := zo_180 (zi_at zh_dX2_faultsFrom_80_80 13 rfl) (zi_at zh_dX2_faultsFrom_80_80 14 rfl) (zi_at zh_dX2_faultsFrom_80_80 15 rfl) rfl
theorem dX2_faultsFrom_96 : decode cX2_faultsFrom 96 = .ok (.getfield 157, 3) := zo_180 (zi_at zh_dX2_faultsFrom_96_96 0 rfl) (zi_at zh_dX2_faultsFrom_96_96 1 rfl) (zi_at zh_dX2_faultsFrom_96_96 2 rfl) rfl
theorem dX2_faultsFrom_99 : decode cX2_faultsFrom 99 = .ok (.bipush 8, 2) := zo_16 (zi_at zh_dX2_faultsFrom_96_96 3 rfl) (zi_at zh_dX2_faultsFrom_96_96 4 rfl) rfl
theorem dX2_faultsFrom_101 : decode cX2_faultsFrom 101 = .ok (.iload_n 1, 1) := zo_27 (zi_at zh_dX2_faultsFrom_96_96 5 rfl)
theorem dX2_faultsFrom_102 : decode cX2_faultsFrom 102 = .ok (.iload_n 2, 1) := zo_28 (zi_at zh_dX2_faultsFrom_96_96 6 rfl)
theorem dX2_faultsFrom_103 : decode cX2_faultsFrom 103 = .ok (.iload 4, 2) := zo_21 (zi_at zh_dX2_faultsFrom_96_96 7 rfl) (zi_at zh_dX2_faultsFrom_96_96 8 rfl)
theorem dX2_faultsFrom_105 : decode cX2_faultsFrom 105 = .ok (.iload 5, 2) := zo_21 (zi_at zh_dX2_faultsFrom_96_96 9 rfl) (zi_at zh_dX2_faultsFrom_96_96 10 rfl)
theorem dX2_faultsFrom_107 : decode cX2_faultsFrom 107 = .ok (.invokestatic 160, 3) := zo_184 (zi_at zh_dX2_faultsFrom_96_96 11 rfl) (zi_at zh_dX2_faultsFrom_96_96 12 rfl) (zi_at zh_dX2_faultsFrom_96_96 13 rfl) rfl
theorem dX2_faultsFrom_110 : decode cX2_faultsFrom 110 = .ok (.iastore, 1) := zo_79 (zi_at zh_dX2_faultsFrom_96_96 14 rfl)
theorem dX2_faultsFrom_111 : decode cX2_faultsFrom 111 = .ok (.aload_n 0, 1) := zo_42 (zi_at zh_dX2_faultsFrom_96_96 15 rfl)
theorem dX2_faultsFrom_112 : decode cX2_faultsFrom 112 = .ok (.getfield 27, 3) := zo_180 (zi_at zh_dX2_faultsFrom_112_112 0 rfl) (zi_at zh_dX2_faultsFrom_112_112 1 rfl) (zi_at zh_dX2_faultsFrom_112_112 2 rfl) rfl
theorem dX2_faultsFrom_115 : decode cX2_faultsFrom 115 = .ok (.getfield 157, 3) := zo_180 (zi_at zh_dX2_faultsFrom_112_112 3 rfl) (zi_at zh_dX2_faultsFrom_112_112 4 rfl) (zi_at zh_dX2_faultsFrom_112_112 5 rfl) rfl
theorem dX2_faultsFrom_118 : decode cX2_faultsFrom 118 = .ok (.bipush 11, 2) := zo_16 (zi_at zh_dX2_faultsFrom_112_112 6 rfl) (zi_at zh_dX2_faultsFrom_112_112 7 rfl) rfl
theorem dX2_faultsFrom_120 : decode cX2_faultsFrom 120 = .ok (.iload 6, 2) := zo_21 (zi_at zh_dX2_faultsFrom_112_112 8 rfl) (zi_at zh_dX2_faultsFrom_112_112 9 rfl)
theorem dX2_faultsFrom_122 : decode cX2_faultsFrom 122 = .ok (.ifCond .le 7, 3) := zo_158 (zi_at zh_dX2_faultsFrom_112_112 10 rfl) (zi_at zh_dX2_faultsFrom_112_112 11 rfl) (zi_at zh_dX2_faultsFrom_112_112 12 rfl) rfl
theorem dX2_faultsFrom_125 : decode cX2_faultsFrom 125 = .ok (.iconst 1, 1) := zo_4 (zi_at zh_dX2_faultsFrom_112_112 13 rfl)
theorem dX2_faultsFrom_126 : decode cX2_faultsFrom 126 = .ok (.goto 4, 3) := zo_167 (zi_at zh_dX2_faultsFrom_112_112 14 rfl) (zi_at zh_dX2_faultsFrom_112_112 15 rfl) (zi_at zh_dX2_faultsFrom_126_128 0 rfl) rfl
theorem dX2_faultsFrom_129 : decode cX2_faultsFrom 129 = .ok (.iconst 0, 1) := zo_3 (zi_at zh_dX2_faultsFrom_126_128 1 rfl)
theorem dX2_faultsFrom_130 : decode cX2_faultsFrom 130 = .ok (.iastore, 1) := zo_79 (zi_at zh_dX2_faultsFrom_126_128 2 rfl)
theorem dX2_faultsFrom_131 : decode cX2_faultsFrom 131 = .ok (.aload_n 0, 1) := zo_42 (zi_at zh_dX2_faultsFrom_126_128 3 rfl)
theorem dX2_faultsFrom_132 : decode cX2_faultsFrom 132 = .ok (.getfield 27, 3) := zo_180 (zi_at zh_dX2_faultsFrom_126_128 4 rfl) (zi_at zh_dX2_faultsFrom_126_128 5 rfl) (zi_at zh_dX2_faultsFrom_126_128 6 rfl) rfl
theorem dX2_faultsFrom_135 : decode cX2_faultsFrom 135 = .ok (.getfield 157, 3) := zo_180 (zi_at zh_dX2_faultsFrom_126_128 7 rfl) (zi_at zh_dX2_faultsFrom_126_128 8 rfl) (zi_at zh_dX2_faultsFrom_126_128 9 rfl) rfl
theorem dX2_faultsFrom_138 : decode cX2_faultsFrom 138 = .ok (.bipush 12, 2) := zo_16 (zi_at zh_dX2_faultsFrom_126_128 10 rfl) (zi_at zh_dX2_faultsFrom_126_128 11 rfl) rfl
theorem dX2_faultsFrom_140 : decode cX2_faultsFrom 140 = .ok (.iload_n 1, 1) := zo_27 (zi_at zh_dX2_faultsFrom_126_128 12 rfl)
theorem dX2_faultsFrom_141 : decode cX2_faultsFrom 141 = .ok (.iload_n 2, 1) := zo_28 (zi_at zh_dX2_faultsFrom_126_128 13 rfl)
theorem dX2_faultsFrom_142 : decode cX2_faultsFrom 142 = .ok (.aload_n 0, 1) := zo_42 (zi_at zh_dX2_faultsFrom_126_128 14 rfl)
theorem dX2_faultsFrom_143 : decode cX2_faultsFrom 143 = .ok (.getfield 117, 3) := zo_180 (zi_at zh_dX2_faultsFrom_126_128 15 rfl) (zi_at zh_dX2_faultsFrom_143_144 0 rfl) (zi_at zh_dX2_faultsFrom_143_144 1 rfl) rfl
theorem dX2_faultsFrom_146 : decode cX2_faultsFrom 146 = .ok (.getfield 164, 3) := zo_180 (zi_at zh_dX2_faultsFrom_143_144 2 rfl) (zi_at zh_dX2_faultsFrom_143_144 3 rfl) (zi_at zh_dX2_faultsFrom_143_144 4 rfl) rfl
theorem dX2_faultsFrom_149 : decode cX2_faultsFrom 149 = .ok (.aload_n 0, 1) := zo_42 (zi_at zh_dX2_faultsFrom_143_144 5 rfl)
theorem dX2_faultsFrom_150 : decode cX2_faultsFrom 150 = .ok (.getfield 117, 3) := zo_180 (zi_at zh_dX2_faultsFrom_143_144 6 rfl) (zi_at zh_dX2_faultsFrom_143_144 7 rfl) (zi_at zh_dX2_faultsFrom_143_144 8 rfl) rfl
theorem dX2_faultsFrom_153 : decode cX2_faultsFrom 153 = .ok (.getfield 165, 3) := zo_180 (zi_at zh_dX2_faultsFrom_143_144 9 rfl) (zi_at zh_dX2_faultsFrom_143_144 10 rfl) (zi_at zh_dX2_faultsFrom_143_144 11 rfl) rfl
theorem dX2_faultsFrom_156 : decode cX2_faultsFrom 156 = .ok (.invokestatic 160, 3) := zo_184 (zi_at zh_dX2_faultsFrom_143_144 12 rfl) (zi_at zh_dX2_faultsFrom_143_144 13 rfl) (zi_at zh_dX2_faultsFrom_143_144 14 rfl) rfl
theorem dX2_faultsFrom_159 : decode cX2_faultsFrom 159 = .ok (.iastore, 1) := zo_79 (zi_at zh_dX2_faultsFrom_143_144 15 rfl)
theorem dX2_faultsFrom_160 : decode cX2_faultsFrom 160 = .ok (.aload_n 0, 1) := zo_42 (zi_at zh_dX2_faultsFrom_160_160 0 rfl)
theorem dX2_faultsFrom_161 : decode cX2_faultsFrom 161 = .ok (.getfield 27, 3) := zo_180 (zi_at zh_dX2_faultsFrom_160_160 1 rfl) (zi_at zh_dX2_faultsFrom_160_160 2 rfl) (zi_at zh_dX2_faultsFrom_160_160 3 rfl) rfl
theorem dX2_faultsFrom_164 : decode cX2_faultsFrom 164 = .ok (.getfield 157, 3) := zo_180 (zi_at zh_dX2_faultsFrom_160_160 4 rfl) (zi_at zh_dX2_faultsFrom_160_160 5 rfl) (zi_at zh_dX2_faultsFrom_160_160 6 rfl) rfl
theorem dX2_faultsFrom_167 : decode cX2_faultsFrom 167 = .ok (.iconst 3, 1) := zo_6 (zi_at zh_dX2_faultsFrom_160_160 7 rfl)
theorem dX2_faultsFrom_168 : decode cX2_faultsFrom 168 = .ok (.iload 4, 2) := zo_21 (zi_at zh_dX2_faultsFrom_160_160 8 rfl) (zi_at zh_dX2_faultsFrom_160_160 9 rfl)
theorem dX2_faultsFrom_170 : decode cX2_faultsFrom 170 = .ok (.iload 5, 2) := zo_21 (zi_at zh_dX2_faultsFrom_160_160 10 rfl) (zi_at zh_dX2_faultsFrom_160_160 11 rfl)
theorem dX2_faultsFrom_172 : decode cX2_faultsFrom 172 = .ok (.aload_n 0, 1) := zo_42 (zi_at zh_dX2_faultsFrom_160_160 12 rfl)
theorem dX2_faultsFrom_173 : decode cX2_faultsFrom 173 = .ok (.getfield 117, 3) := zo_180 (zi_at zh_dX2_faultsFrom_160_160 13 rfl) (zi_at zh_dX2_faultsFrom_160_160 14 rfl) (zi_at zh_dX2_faultsFrom_160_160 15 rfl) rfl
theorem dX2_faultsFrom_176 : decode cX2_faultsFrom 176 = .ok (.getfield 164, 3) := zo_180 (zi_at zh_dX2_faultsFrom_176_176 0 rfl) (zi_at zh_dX2_faultsFrom_176_176 1 rfl) (zi_at zh_dX2_faultsFrom_176_176 2 rfl) rfl
theorem dX2_faultsFrom_179 : decode cX2_faultsFrom 179 = .ok (.aload_n 0, 1) := zo_42 (zi_at zh_dX2_faultsFrom_176_176 3 rfl)
theorem dX2_faultsFrom_180 : decode cX2_faultsFrom 180 = .ok (.getfield 117, 3) := zo_180 (zi_at zh_dX2_faultsFrom_176_176 4 rfl) (zi_at zh_dX2_faultsFrom_176_176 5 rfl) (zi_at zh_dX2_faultsFrom_176_176 6 rfl) rfl
theorem dX2_faultsFrom_183 : decode cX2_faultsFrom 183 = .ok (.getfield 165, 3) := zo_180 (zi_at zh_dX2_faultsFrom_176_176 7 rfl) (zi_at zh_dX2_faultsFrom_176_176 8 rfl) (zi_at zh_dX2_faultsFrom_176_176 9 rfl) rfl
theorem dX2_faultsFrom_186 : decode cX2_faultsFrom 186 = .ok (.invokestatic 160, 3) := zo_184 (zi_at zh_dX2_faultsFrom_176_176 10 rfl) (zi_at zh_dX2_faultsFrom_176_176 11 rfl) (zi_at zh_dX2_faultsFrom_176_176 12 rfl) rfl
theorem dX2_faultsFrom_189 : decode cX2_faultsFrom 189 = .ok (.iastore, 1) := zo_79 (zi_at zh_dX2_faultsFrom_176_176 13 rfl)
theorem dX2_faultsFrom_190 : decode cX2_faultsFrom 190 = .ok (.iload_n 3, 1) := zo_29 (zi_at zh_dX2_faultsFrom_176_176 14 rfl)
theorem dX2_faultsFrom_191 : decode cX2_faultsFrom 191 = .ok (.aload_n 0, 1) := zo_42 (zi_at zh_dX2_faultsFrom_176_176 15 rfl)
theorem dX2_faultsFrom_192 : decode cX2_faultsFrom 192 = .ok (.invokevirtual 166, 3) := zo_182 (zi_at zh_dX2_faultsFrom_192_192 0 rfl) (zi_at zh_dX2_faultsFrom_192_192 1 rfl) (zi_at zh_dX2_faultsFrom_192_192 2 rfl) rfl
theorem dX2_faultsFrom_195 : decode cX2_faultsFrom 195 = .ok (.ior, 1) := zo_128 (zi_at zh_dX2_faultsFrom_192_192 3 rfl)
theorem dX2_faultsFrom_196 : decode cX2_faultsFrom 196 = .ok (.istore_n 3, 1) := zo_62 (zi_at zh_dX2_faultsFrom_192_192 4 rfl)
theorem dX2_faultsFrom_197 : decode cX2_faultsFrom 197 = .ok (.iinc 5 1, 3) := zo_132 (zi_at zh_dX2_faultsFrom_192_192 5 rfl) (zi_at zh_dX2_faultsFrom_192_192 6 rfl) (zi_at zh_dX2_faultsFrom_192_192 7 rfl) rfl
theorem dX2_faultsFrom_200 : decode cX2_faultsFrom 200 = .ok (.goto (-166), 3) := zo_167 (zi_at zh_dX2_faultsFrom_192_192 8 rfl) (zi_at zh_dX2_faultsFrom_192_192 9 rfl) (zi_at zh_dX2_faultsFrom_192_192 10 rfl) rfl
theorem dX2_faultsFrom_203 : decode cX2_faultsFrom 203 = .ok (.iinc 4 1, 3) := zo_132 (zi_at zh_dX2_faultsFrom_192_192 11 rfl) (zi_at zh_dX2_faultsFrom_192_192 12 rfl) (zi_at zh_dX2_faultsFrom_192_192 13 rfl) rfl
theorem dX2_faultsFrom_206 : decode cX2_faultsFrom 206 = .ok (.goto (-196), 3) := zo_167 (zi_at zh_dX2_faultsFrom_192_192 14 rfl) (zi_at zh_dX2_faultsFrom_192_192 15 rfl) (zi_at zh_dX2_faultsFrom_206_208 0 rfl) rfl
theorem dX2_faultsFrom_209 : decode cX2_faultsFrom 209 = .ok (.iload_n 3, 1) := zo_29 (zi_at zh_dX2_faultsFrom_206_208 1 rfl)
theorem dX2_faultsFrom_210 : decode cX2_faultsFrom 210 = .ok (.ireturn, 1) := zo_172 (zi_at zh_dX2_faultsFrom_206_208 2 rfl)
theorem dX2_faultsOnTacks_0 : decode cX2_faultsOnTacks 0 = .ok (.iconst 0, 1) := zo_3 (zi_at zh_dX2_faultsOnTacks_0_0 0 rfl)
theorem dX2_faultsOnTacks_1 : decode cX2_faultsOnTacks 1 = .ok (.istore_n 1, 1) := zo_60 (zi_at zh_dX2_faultsOnTacks_0_0 1 rfl)
theorem dX2_faultsOnTacks_2 : decode cX2_faultsOnTacks 2 = .ok (.iconst 0, 1) := zo_3 (zi_at zh_dX2_faultsOnTacks_0_0 2 rfl)
theorem dX2_faultsOnTacks_3 : decode cX2_faultsOnTacks 3 = .ok (.istore_n 2, 1) := zo_61 (zi_at zh_dX2_faultsOnTacks_0_0 3 rfl)
theorem dX2_faultsOnTacks_4 : decode cX2_faultsOnTacks 4 = .ok (.iload_n 2, 1) := zo_28 (zi_at zh_dX2_faultsOnTacks_0_0 4 rfl)
theorem dX2_faultsOnTacks_5 : decode cX2_faultsOnTacks 5 = .ok (.bipush 8, 2) := zo_16 (zi_at zh_dX2_faultsOnTacks_0_0 5 rfl) (zi_at zh_dX2_faultsOnTacks_0_0 6 rfl) rfl
theorem dX2_faultsOnTacks_7 : decode cX2_faultsOnTacks 7 = .ok (.if_icmp .ge 95, 3) := zo_162 (zi_at zh_dX2_faultsOnTacks_0_0 7 rfl) (zi_at zh_dX2_faultsOnTacks_0_0 8 rfl) (zi_at zh_dX2_faultsOnTacks_0_0 9 rfl) rfl
theorem dX2_faultsOnTacks_10 : decode cX2_faultsOnTacks 10 = .ok (.iload_n 1, 1) := zo_27 (zi_at zh_dX2_faultsOnTacks_0_0 10 rfl)
theorem dX2_faultsOnTacks_11 : decode cX2_faultsOnTacks 11 = .ok (.iconst 3, 1) := zo_6 (zi_at zh_dX2_faultsOnTacks_0_0 11 rfl)
theorem dX2_faultsOnTacks_12 : decode cX2_faultsOnTacks 12 = .ok (.if_icmp .eq 90, 3) := zo_159 (zi_at zh_dX2_faultsOnTacks_0_0 12 rfl) (zi_at zh_dX2_faultsOnTacks_0_0 13 rfl) (zi_at zh_dX2_faultsOnTacks_0_0 14 rfl) rfl
theorem dX2_faultsOnTacks_15 : decode cX2_faultsOnTacks 15 = .ok (.aload_n 0, 1) := zo_42 (zi_at zh_dX2_faultsOnTacks_0_0 15 rfl)
theorem dX2_faultsOnTacks_16 : decode cX2_faultsOnTacks 16 = .ok (.getfield 139, 3) := zo_180 (zi_at zh_dX2_faultsOnTacks_16_16 0 rfl) (zi_at zh_dX2_faultsOnTacks_16_16 1 rfl) (zi_at zh_dX2_faultsOnTacks_16_16 2 rfl) rfl
theorem dX2_faultsOnTacks_19 : decode cX2_faultsOnTacks 19 = .ok (.iload_n 2, 1) := zo_28 (zi_at zh_dX2_faultsOnTacks_16_16 3 rfl)
theorem dX2_faultsOnTacks_20 : decode cX2_faultsOnTacks 20 = .ok (.ishr, 1) := zo_122 (zi_at zh_dX2_faultsOnTacks_16_16 4 rfl)
theorem dX2_faultsOnTacks_21 : decode cX2_faultsOnTacks 21 = .ok (.iconst 1, 1) := zo_4 (zi_at zh_dX2_faultsOnTacks_16_16 5 rfl)
theorem dX2_faultsOnTacks_22 : decode cX2_faultsOnTacks 22 = .ok (.iand, 1) := zo_126 (zi_at zh_dX2_faultsOnTacks_16_16 6 rfl)
theorem dX2_faultsOnTacks_23 : decode cX2_faultsOnTacks 23 = .ok (.ifCond .ne 6, 3) := zo_154 (zi_at zh_dX2_faultsOnTacks_16_16 7 rfl) (zi_at zh_dX2_faultsOnTacks_16_16 8 rfl) (zi_at zh_dX2_faultsOnTacks_16_16 9 rfl) rfl
theorem dX2_faultsOnTacks_26 : decode cX2_faultsOnTacks 26 = .ok (.goto 70, 3) := zo_167 (zi_at zh_dX2_faultsOnTacks_16_16 10 rfl) (zi_at zh_dX2_faultsOnTacks_16_16 11 rfl) (zi_at zh_dX2_faultsOnTacks_16_16 12 rfl) rfl
theorem dX2_faultsOnTacks_29 : decode cX2_faultsOnTacks 29 = .ok (.aload_n 0, 1) := zo_42 (zi_at zh_dX2_faultsOnTacks_16_16 13 rfl)
theorem dX2_faultsOnTacks_30 : decode cX2_faultsOnTacks 30 = .ok (.getfield 27, 3) := zo_180 (zi_at zh_dX2_faultsOnTacks_16_16 14 rfl) (zi_at zh_dX2_faultsOnTacks_16_16 15 rfl) (zi_at zh_dX2_faultsOnTacks_30_32 0 rfl) rfl
theorem dX2_faultsOnTacks_33 : decode cX2_faultsOnTacks 33 = .ok (.getfield 157, 3) := zo_180 (zi_at zh_dX2_faultsOnTacks_30_32 1 rfl) (zi_at zh_dX2_faultsOnTacks_30_32 2 rfl) (zi_at zh_dX2_faultsOnTacks_30_32 3 rfl) rfl
theorem dX2_faultsOnTacks_36 : decode cX2_faultsOnTacks 36 = .ok (.bipush 9, 2) := zo_16 (zi_at zh_dX2_faultsOnTacks_30_32 4 rfl) (zi_at zh_dX2_faultsOnTacks_30_32 5 rfl) rfl
theorem dX2_faultsOnTacks_38 : decode cX2_faultsOnTacks 38 = .ok (.iload_n 2, 1) := zo_28 (zi_at zh_dX2_faultsOnTacks_30_32 6 rfl)
theorem dX2_faultsOnTacks_39 : decode cX2_faultsOnTacks 39 = .ok (.iconst 2, 1) := zo_5 (zi_at zh_dX2_faultsOnTacks_30_32 7 rfl)
theorem dX2_faultsOnTacks_40 : decode cX2_faultsOnTacks 40 = .ok (.ishr, 1) := zo_122 (zi_at zh_dX2_faultsOnTacks_30_32 8 rfl)
theorem dX2_faultsOnTacks_41 : decode cX2_faultsOnTacks 41 = .ok (.iastore, 1) := zo_79 (zi_at zh_dX2_faultsOnTacks_30_32 9 rfl)
theorem dX2_faultsOnTacks_42 : decode cX2_faultsOnTacks 42 = .ok (.aload_n 0, 1) := zo_42 (zi_at zh_dX2_faultsOnTacks_30_32 10 rfl)
theorem dX2_faultsOnTacks_43 : decode cX2_faultsOnTacks 43 = .ok (.getfield 27, 3) := zo_180 (zi_at zh_dX2_faultsOnTacks_30_32 11 rfl) (zi_at zh_dX2_faultsOnTacks_30_32 12 rfl) (zi_at zh_dX2_faultsOnTacks_30_32 13 rfl) rfl
theorem dX2_faultsOnTacks_46 : decode cX2_faultsOnTacks 46 = .ok (.getfield 157, 3) := zo_180 (zi_at zh_dX2_faultsOnTacks_30_32 14 rfl) (zi_at zh_dX2_faultsOnTacks_30_32 15 rfl) (zi_at zh_dX2_faultsOnTacks_46_48 0 rfl) rfl
theorem dX2_faultsOnTacks_49 : decode cX2_faultsOnTacks 49 = .ok (.bipush 10, 2) := zo_16 (zi_at zh_dX2_faultsOnTacks_46_48 1 rfl) (zi_at zh_dX2_faultsOnTacks_46_48 2 rfl) rfl
theorem dX2_faultsOnTacks_51 : decode cX2_faultsOnTacks 51 = .ok (.iload_n 2, 1) := zo_28 (zi_at zh_dX2_faultsOnTacks_46_48 3 rfl)
theorem dX2_faultsOnTacks_52 : decode cX2_faultsOnTacks 52 = .ok (.iconst 1, 1) := zo_4 (zi_at zh_dX2_faultsOnTacks_46_48 4 rfl)
theorem dX2_faultsOnTacks_53 : decode cX2_faultsOnTacks 53 = .ok (.ishr, 1) := zo_122 (zi_at zh_dX2_faultsOnTacks_46_48 5 rfl)
theorem dX2_faultsOnTacks_54 : decode cX2_faultsOnTacks 54 = .ok (.iconst 1, 1) := zo_4 (zi_at zh_dX2_faultsOnTacks_46_48 6 rfl)
theorem dX2_faultsOnTacks_55 : decode cX2_faultsOnTacks 55 = .ok (.iand, 1) := zo_126 (zi_at zh_dX2_faultsOnTacks_46_48 7 rfl)
theorem dX2_faultsOnTacks_56 : decode cX2_faultsOnTacks 56 = .ok (.iastore, 1) := zo_79 (zi_at zh_dX2_faultsOnTacks_46_48 8 rfl)
theorem dX2_faultsOnTacks_57 : decode cX2_faultsOnTacks 57 = .ok (.aload_n 0, 1) := zo_42 (zi_at zh_dX2_faultsOnTacks_46_48 9 rfl)
theorem dX2_faultsOnTacks_58 : decode cX2_faultsOnTacks 58 = .ok (.getfield 27, 3) := zo_180 (zi_at zh_dX2_faultsOnTacks_46_48 10 rfl) (zi_at zh_dX2_faultsOnTacks_46_48 11 rfl) (zi_at zh_dX2_faultsOnTacks_46_48 12 rfl) rfl
theorem dX2_faultsOnTacks_61 : decode cX2_faultsOnTacks 61 = .ok (.getfield 157, 3) := zo_180 (zi_at zh_dX2_faultsOnTacks_46_48 13 rfl) (zi_at zh_dX2_faultsOnTacks_46_48 14 rfl) (zi_at zh_dX2_faultsOnTacks_46_48 15 rfl) rfl
theorem dX2_faultsOnTacks_64 : decode cX2_faultsOnTacks 64 = .ok (.bipush 13, 2) := zo_16 (zi_at zh_dX2_faultsOnTacks_64_64 0 rfl) (zi_at zh_dX2_faultsOnTacks_64_64 1 rfl) rfl
theorem dX2_faultsOnTacks_66 : decode cX2_faultsOnTacks 66 = .ok (.iload_n 2, 1) := zo_28 (zi_at zh_dX2_faultsOnTacks_64_64 2 rfl)
theorem dX2_faultsOnTacks_67 : decode cX2_faultsOnTacks 67 = .ok (.iconst 1, 1) := zo_4 (zi_at zh_dX2_faultsOnTacks_64_64 3 rfl)
theorem dX2_faultsOnTacks_68 : decode cX2_faultsOnTacks 68 = .ok (.iand, 1) := zo_126 (zi_at zh_dX2_faultsOnTacks_64_64 4 rfl)
theorem dX2_faultsOnTacks_69 : decode cX2_faultsOnTacks 69 = .ok (.iastore, 1) := zo_79 (zi_at zh_dX2_faultsOnTacks_64_64 5 rfl)
theorem dX2_faultsOnTacks_70 : decode cX2_faultsOnTacks 70 = .ok (.iload_n 1, 1) := zo_27 (zi_at zh_dX2_faultsOnTacks_64_64 6 rfl)
theorem dX2_faultsOnTacks_71 : decode cX2_faultsOnTacks 71 = .ok (.aload_n 0, 1) := zo_42 (zi_at zh_dX2_faultsOnTacks_64_64 7 rfl)
theorem dX2_faultsOnTacks_72 : decode cX2_faultsOnTacks 72 = .ok (.getfield 27, 3) := zo_180 (zi_at zh_dX2_faultsOnTacks_64_64 8 rfl) (zi_at zh_dX2_faultsOnTacks_64_64 9 rfl) (zi_at zh_dX2_faultsOnTacks_64_64 10 rfl) rfl
theorem dX2_faultsOnTacks_75 : decode cX2_faultsOnTacks 75 = .ok (.aload_n 0, 1) := zo_42 (zi_at zh_dX2_faultsOnTacks_64_64 11 rfl)
theorem dX2_faultsOnTacks_76 : decode cX2_faultsOnTacks 76 = .ok (.getfield 126, 3) := zo_180 (zi_at zh_dX2_faultsOnTacks_64_64 12 rfl) (zi_at zh_dX2_faultsOnTacks_64_64 13 rfl) (zi_at zh_dX2_faultsOnTacks_64_64 14 rfl) rfl
theorem dX2_faultsOnTacks_79 : decode cX2_faultsOnTacks 79 = .ok (.aload_n 0, 1) := zo_42 (zi_at zh_dX2_faultsOnTacks_64_64 15 rfl)
theorem dX2_faultsOnTacks_80 : decode cX2_faultsOnTacks 80 = .ok (.getfield 129, 3) := zo_180 (zi_at zh_dX2_faultsOnTacks_80_80 0 rfl) (zi_at zh_dX2_faultsOnTacks_80_80 1 rfl) (zi_at zh_dX2_faultsOnTacks_80_80 2 rfl) rfl
theorem dX2_faultsOnTacks_83 : decode cX2_faultsOnTacks 83 = .ok (.invokevirtual 169, 3) := zo_182 (zi_at zh_dX2_faultsOnTacks_80_80 3 rfl) (zi_at zh_dX2_faultsOnTacks_80_80 4 rfl) (zi_at zh_dX2_faultsOnTacks_80_80 5 rfl) rfl
theorem dX2_faultsOnTacks_86 : decode cX2_faultsOnTacks 86 = .ok (.ifCond .ne 7, 3) := zo_154 (zi_at zh_dX2_faultsOnTacks_80_80 6 rfl) (zi_at zh_dX2_faultsOnTacks_80_80 7 rfl) (zi_at zh_dX2_faultsOnTacks_80_80 8 rfl) rfl
theorem dX2_faultsOnTacks_89 : decode cX2_faultsOnTacks 89 = .ok (.iconst 1, 1) := zo_4 (zi_at zh_dX2_faultsOnTacks_80_80 9 rfl)
theorem dX2_faultsOnTacks_90 : decode cX2_faultsOnTacks 90 = .ok (.goto 4, 3) := zo_167 (zi_at zh_dX2_faultsOnTacks_80_80 10 rfl) (zi_at zh_dX2_faultsOnTacks_80_80 11 rfl) (zi_at zh_dX2_faultsOnTacks_80_80 12 rfl) rfl
theorem dX2_faultsOnTacks_93 : decode cX2_faultsOnTacks 93 = .ok (.iconst 2, 1) := zo_5 (zi_at zh_dX2_faultsOnTacks_80_80 13 rfl)
theorem dX2_faultsOnTacks_94 : decode cX2_faultsOnTacks 94 = .ok (.ior, 1) := zo_128 (zi_at zh_dX2_faultsOnTacks_80_80 14 rfl)
theorem dX2_faultsOnTacks_95 : decode cX2_faultsOnTacks 95 = .ok (.istore_n 1, 1) := zo_60 (zi_at zh_dX2_faultsOnTacks_80_80 15 rfl)
theorem dX2_faultsOnTacks_96 : decode cX2_faultsOnTacks 96 = .ok (.iinc 2 1, 3) := zo_132 (zi_at zh_dX2_faultsOnTacks_96_96 0 rfl) (zi_at zh_dX2_faultsOnTacks_96_96 1 rfl) (zi_at zh_dX2_faultsOnTacks_96_96 2 rfl) rfl
theorem dX2_faultsOnTacks_99 : decode cX2_faultsOnTacks 99 = .ok (.goto (-95), 3) := zo_167 (zi_at zh_dX2_faultsOnTacks_96_96 3 rfl) (zi_at zh_dX2_faultsOnTacks_96_96 4 rfl) (zi_at zh_dX2_faultsOnTacks_96_96 5 rfl) rfl
theorem dX2_faultsOnTacks_102 : decode cX2_faultsOnTacks 102 = .ok (.iload_n 1, 1) := zo_27 (zi_at zh_dX2_faultsOnTacks_96_96 6 rfl)
theorem dX2_faultsOnTacks_103 : decode cX2_faultsOnTacks 103 = .ok (.ireturn, 1) := zo_172 (zi_at zh_dX2_faultsOnTacks_96_96 7 rfl)
theorem hz_yX2_starboard_1 : yX2_starboard.cls ≠ "java/lang/invoke/MethodHandle" ∧ yX2_starboard.cls ≠ "java/lang/invoke/VarHandle" ∧ (parseMethodDescriptor yX2_starboard.desc).map (fun d => d.parameters.length) = some 1 := by decide +kernel
theorem hz_yX0_worthIn_2 : yX0_worthIn.cls ≠ "java/lang/invoke/MethodHandle" ∧ yX0_worthIn.cls ≠ "java/lang/invoke/VarHandle" ∧ (parseMethodDescriptor yX0_worthIn.desc).map (fun d => d.parameters.length) = some 2 := by decide +kernel
theorem hz_yX0_forgetLetters_0 : yX0_forgetLetters.cls ≠ "java/lang/invoke/MethodHandle" ∧ yX0_forgetLetters.cls ≠ "java/lang/invoke/VarHandle" ∧ (parseMethodDescriptor yX0_forgetLetters.desc).map (fun d => d.parameters.length) = some 0 := by decide +kernel
theorem hz_yX2_far_4 : yX2_far.cls ≠ "java/lang/invoke/MethodHandle" ∧ yX2_far.cls ≠ "java/lang/invoke/VarHandle" ∧ (parseMethodDescriptor yX2_far.desc).map (fun d => d.parameters.length) = some 4 := by decide +kernel
theorem hz_yX2_faultsOnTacks_0 : yX2_faultsOnTacks.cls ≠ "java/lang/invoke/MethodHandle" ∧ yX2_faultsOnTacks.cls ≠ "java/lang/invoke/VarHandle" ∧ (parseMethodDescriptor yX2_faultsOnTacks.desc).map (fun d => d.parameters.length) = some 0 := by decide +kernel
theorem hz_yX2_statesOf_3 : yX2_statesOf.cls ≠ "java/lang/invoke/MethodHandle" ∧ yX2_statesOf.cls ≠ "java/lang/invoke/VarHandle" ∧ (parseMethodDescriptor yX2_statesOf.desc).map (fun d => d.parameters.length) = some 3 := by decide +kernel
theorem hz_yX0_rulesOn_2 : yX0_rulesOn.cls ≠ "java/lang/invoke/MethodHandle" ∧ yX0_rulesOn.cls ≠ "java/lang/invoke/VarHandle" ∧ (parseMethodDescriptor yX0_rulesOn.desc).map (fun d => d.parameters.length) = some 2 := by decide +kernel
theorem hz_yX2_gatherTacks_0 : yX2_gatherTacks.cls ≠ "java/lang/invoke/MethodHandle" ∧ yX2_gatherTacks.cls ≠ "java/lang/invoke/VarHandle" ∧ (parseMethodDescriptor yX2_gatherTacks.desc).map (fun d => d.parameters.length) = some 0 := by decide +kernel
theorem hz_yX2_faultsFrom_2 : yX2_faultsFrom.cls ≠ "java/lang/invoke/MethodHandle" ∧ yX2_faultsFrom.cls ≠ "java/lang/invoke/VarHandle" ∧ (parseMethodDescriptor yX2_faultsFrom.desc).map (fun d => d.parameters.length) = some 2 := by decide +kernel

theorem ti_irem {x y w : Int32} {a b c d e f : Int} (hx : a ≤ x.toInt ∧ x.toInt ≤ b) (hy : c ≤ y.toInt ∧ y.toInt ≤ d) (ew : w = x - x / y * y) (h : 0 ≤ a ∧ 0 < c ∧ e ≤ 0 ∧ (d - 1 ≤ f ∨ b ≤ f)) : w.toInt = x.toInt % y.toInt ∧ (e ≤ w.toInt ∧ w.toInt ≤ f) := by
  have h9 := iv_all x
  have q1 : (x / y).toInt = x.toInt / y.toInt := by
    rw [Int32.toInt_div, Int.tdiv_eq_ediv_of_nonneg (by omega)]
    have h2 := Int.ediv_le_self y.toInt (show 0 ≤ x.toInt by omega)
    have h3 : 0 ≤ x.toInt / y.toInt := Int.ediv_nonneg (by omega) (by omega)
    exact ti_bm (by omega) (by omega)
  have h5 := Int.emod_add_mul_ediv x.toInt y.toInt
  have h2 := Int.emod_nonneg x.toInt (show y.toInt ≠ 0 by omega)
  have h3 := Int.emod_lt_of_pos x.toInt (show 0 < y.toInt by omega)
  have h6 : 0 ≤ y.toInt * (x.toInt / y.toInt) := Int.mul_nonneg (by omega) (Int.ediv_nonneg (by omega) (by omega))
  have q2 : (x / y * y).toInt = y.toInt * (x.toInt / y.toInt) := by
    rw [Int32.toInt_mul, q1, Int.mul_comm]
    exact ti_bm (by omega) (by omega)
  have q3 : w.toInt = x.toInt % y.toInt := by
    rw [ew, Int32.toInt_sub, q2]
    rw [ti_bm (by omega) (by omega)]
    omega
  rw [q3]
  exact ⟨rfl, by omega, by omega⟩
def v_starboard : List Cond := .code yX2_starboard cX2_starboard 2 (some .int) :: vA
abbrev rm_starboard : Room := { frames := 0, cells := 0, slots := 0, locals := 0 }
set_option maxHeartbeats 4000000 in
set_option maxRecDepth 100000 in
theorem q_starboard (l : Launch) (dC : Nat → ClassId) (dI : Nat → Nat → Nat) (cT : Nat → ClassId) (cf : Nat → Nat) (hC : CF cf) (ad : Nat → Nat) (E : Nat → va_E) (sz : Nat) (a0 : Int32) (ri : Nat) (hI0 : IXL cT (shC cf) (spC cf) (LC cf) ad E) (hh0 : ri < cf 2) (hh1 : xv (E 5) 6 = .ref (ad (64 * (ri + 1) + 6))) (hh2 : 0 ≤ a0.toInt ∧ a0.toInt ≤ 7) : Met l yX2_starboard v_starboard rm_starboard (va_Pc [.ref (ad 5), .int a0] (HWL dC dI (TYC cT) cf ad E sz)) (va_Qi (S := Unit) (fun r _ => (0 ≤ r.toInt ∧ r.toInt ≤ 1)) (fun _ _ => True) (fun _ => False)) 0 0 (fun _ => False) := by
  obtain ⟨⟨hc0, hc1, hc2, hc3, hc4, hc5⟩, hcr⟩ := id hC
  refine Met.ofW (cc := cX2_starboard) (maxL := 2) (ret := (some .int)) (by decide) rfl ?_
  intro p e s m args below meth c s₁ B hml hv
  obtain ⟨hargs, hsz, hP, hK, hD0, hEV⟩ := hv
  subst hsz
  have hx := B.exec
  have hb := B.bytes
  have hr := B.returns
  have hts := atoms_spec (ws := v_starboard) B.pre
  have hown : s.vm.findClass RX2 = some m.cls := findClass_of_methodNamed B.named
  have hlocks := B.notSynchronized
  have hinX2 : ∀ w ∈ u_ws RX2 TX2 10, w ∈ v_starboard := fun w h => vA_in _ w (in_X2 w h)
  have hinX5 : ∀ w ∈ u_ws RX5 TX5 12, w ∈ v_starboard := fun w h => vA_in _ w (in_X5 w h)
  have hS : va_S (fun _ : Nat => False) s.heap s.heap [] := va_S.rf
  have hD := hD0
  have hI := hI0
  have hKp : Kp (wl [] []) E E := Kp.rf
  have hl := lv_entry ([.ref (ad 5), .int a0]) (n := 2) (Nat.le_of_ble_eq_true rfl)
  obtain ⟨Q, hQ⟩ : ∃ Q, Q = MQ below (va_Qi (S := Unit) (fun r _ => (0 ≤ r.toInt ∧ r.toInt ≤ 1)) (fun _ _ => True) (fun _ => False)) args s 0 0 (fun _ => False) := ⟨_, rfl⟩
  rw [← hQ, show entryFrame m args 2 = _ from (congrArg (fun z => entryFrame m z 2) hargs).trans (lg_entry_eq _ _ _)]
  generalize (lg_sl ([.ref (ad 5), .int a0]) ++ List.replicate (2 - (lg_sl ([.ref (ad 5), .int a0])).length) Slot.unset).toArray = ls at hl ⊢
  have hl : lv_has ls 2 [(0, .ref (ad 5)), (1, .int a0)] := hl
  refine lv_iload_n hx hb dX2_starboard_0 rfl (lv_at hl 1 rfl) ?_
  refine lv_aload_n hx hb dX2_starboard_1 rfl (lv_at hl 0 rfl) ?_
  refine th_getL (ci := 3) (C := RX2) (T := TX2) (N := 10) (v := .ref (ad (64 * (ri + 1) + 6))) hx hb hts hinX2 hown hK hP hI 5 (mF 5 rfl) rfl rfl 6 (Nat.le_of_ble_eq_true rfl) (hts _ (vA_in _ _ (in_14 _ (zs16 (zs16 (zs4 (zs1 (zs1 (zs0))))))))) (fun _ h9 => h9) ((hKp 5 6 rfl).trans hh1) dX2_starboard_2 ?_
  have i1 : 0 ≤ (xi (E (64 * (ri + 1) + 6)) 4).toInt ∧ (xi (E (64 * (ri + 1) + 6)) 4).toInt ≤ 7 := hI0.iv (64 * (ri + 1) + 6) (mP 6 ri (by decide) hh0 (kl_le hC 2 (by decide))) (shC_p 6 ri (by decide)) (Nat.le_of_ble_eq_true rfl) (spC_p 6 ri (by decide) 4)
  refine th_getL (ci := 6) (C := RX5) (T := TX5) (N := 12) (v := .int (xi (E (64 * (ri + 1) + 6)) 4)) hx hb hts hinX5 hown hK hP hI (64 * (ri + 1) + 6) (mP 6 ri (by decide) hh0 (kl_le hC 2 (by decide))) (shC_p 6 ri (by decide)) rfl 4 (Nat.le_of_ble_eq_true rfl) (hts _ (vA_in _ _ (in_16 _ (zs4 (zs4 (zs1 (zs0))))))) (fun _ h9 => h9) (th_v0L hKp hI0 (64 * (ri + 1) + 6) (mP 6 ri (by decide) hh0 (kl_le hC 2 (by decide))) (shC_p 6 ri (by decide)) (Nat.le_of_ble_eq_true rfl) (spC_p 6 ri (by decide) 4) (wl_p rfl rfl (by omega))) dX2_starboard_5 ?_
  refine lv_isub hx hb dX2_starboard_8 ?_
  refine lv_topi (fun y2 ey2 => ?_)
  obtain ⟨ty2, iy2⟩ := ti_sub (e := (-7)) (f := 7) hh2 i1 ey2 (by decide)
  have ty2 : y2.toInt = a0.toInt - (xi (E (64 * (ri + 1) + 6)) 4).toInt := ty2
  have iy2 : -7 ≤ y2.toInt ∧ y2.toInt ≤ 7 := iy2
  refine lv_bipush (v := 8) hx hb dX2_starboard_9 (by decide) ?_
  refine lv_iadd hx hb dX2_starboard_11 ?_
  refine lv_topi (fun y3 ey3 => ?_)
  obtain ⟨ty3, iy3⟩ := ti_add (e := 1) (f := 15) iy2 ln_8 ey3 (by decide)
  have ty3 : y3.toInt = y2.toInt + 8 := ty3
  have iy3 : 1 ≤ y3.toInt ∧ y3.toInt ≤ 15 := iy3
  refine lv_bipush (v := 8) hx hb dX2_starboard_12 (by decide) ?_
  refine lv_irem hx hb dX2_starboard_14 (by decide) ?_
  refine lv_topi (fun y4 ey4 => ?_)
  obtain ⟨ty4, iy4⟩ := ti_irem (e := 0) (f := 7) iy3 ln_8 ey4 (by decide)
  have iy4 : 0 ≤ y4.toInt ∧ y4.toInt ≤ 7 := iy4
  refine lv_iconst (v := 5) hx hb dX2_starboard_15 (by decide) ?_
  refine lv_icmp_lt (tgt := 23) hx hb dX2_starboard_16 (by decide) (fun c5 => ?_) (fun c5 => ?_)
  · --16 taken
    have t6 : y4.toInt < 5 := ti_lt c5
    have i7 : 0 ≤ y4.toInt ∧ y4.toInt ≤ 4 := iv_lt_l t6 iy4 (il_ 5) (by decide)
    refine lv_iconst (v := 0) hx hb dX2_starboard_23 (by decide) ?_
    rw [hQ]
    exact W.iret (v := 0) hx hb hr (fun t ht hW => ⟨⟨0, (), rfl, (iv_w ln_0 (by decide)), trivial⟩, hS.F ht⟩) hS.2.2 dX2_starboard_24
  · --16 not
    have t8 : (5 : Int) ≤ y4.toInt := ti_nlt c5
    have i9 : 5 ≤ y4.toInt ∧ y4.toInt ≤ 7 := iv_le_r t8 (il_ 5) iy4 (by decide)
    refine lv_iconst (v := 1) hx hb dX2_starboard_19 (by decide) ?_
    refine lv_goto (tgt := 24) hx hb dX2_starboard_20 (by decide) ?_
    rw [hQ]
    exact W.iret (v := 1) hx hb hr (fun t ht hW => ⟨⟨1, (), rfl, (iv_w ln_1 (by decide)), trivial⟩, hS.F ht⟩) hS.2.2 dX2_starboard_24
def v_gatherTacks : List Cond := .code yX2_gatherTacks cX2_gatherTacks 3 none :: vA
abbrev rm_gatherTacks : Room := { frames := 1, cells := 0, slots := 0, locals := 40 }
def w_gatherTacks : Nat → Nat → Bool := wl [] [(5, 9)]
set_option maxHeartbeats 4000000 in
set_option maxRecDepth 100000 in
theorem q_gatherTacks (l : Launch) (dC : Nat → ClassId) (dI : Nat → Nat → Nat) (cT : Nat → ClassId) (cf : Nat → Nat) (hC : CF cf) (ad : Nat → Nat) (E : Nat → va_E) (sz : Nat) (ri : Nat) (hI0 : IXL cT (shC cf) (spC cf) (LC cf) ad E) (hh0 : ri < cf 2) (hh1 : xv (E 5) 6 = .ref (ad (64 * (ri + 1) + 6))) : Met l yX2_gatherTacks v_gatherTacks rm_gatherTacks (va_Pc [.ref (ad 5)] (HWL dC dI (TYC cT) cf ad E sz)) (va_Qv (S := Nat → va_E) (fun u => IXL cT (shC cf) (spC cf) (LC cf) ad u ∧ Kp w_gatherTacks E u ∧ (True)) (HBL dC dI (LC cf) ad) (va_A (WL (LC cf) ad E) sz)) 0 0 (va_A (WL (LC cf) ad E) sz) := by
  obtain ⟨⟨hc0, hc1, hc2, hc3, hc4, hc5⟩, hcr⟩ := id hC
  refine Met.ofW (cc := cX2_gatherTacks) (maxL := 3) (ret := none) (by decide) rfl ?_
  intro p e s m args below meth c s₁ B hml hv
  obtain ⟨hargs, hsz, hP, hK, hD0, hEV⟩ := hv
  subst hsz
  have hx := B.exec
  have hb := B.bytes
  have hr := B.returns
  have hts := atoms_spec (ws := v_gatherTacks) B.pre
  have hown : s.vm.findClass RX2 = some m.cls := findClass_of_methodNamed B.named
  have hlocks := B.notSynchronized
  have hinX2 : ∀ w ∈ u_ws RX2 TX2 10, w ∈ v_gatherTacks := fun w h => vA_in _ w (in_X2 w h)
  generalize hAe : va_A (WL (LC cf) ad E) s.heap.size = A at hEV ⊢
  have hA : ∀ q : Nat, s.heap.size ≤ q → A q := fun q h => by rw [← hAe]; exact Or.inr h
  have hD : va_D A (WL (LC cf) ad E) := by rw [← hAe]; exact hD0.self
  have hS : va_S A s.heap s.heap [] := va_S.rf
  have hI := hI0
  have hKp : Kp w_gatherTacks E E := Kp.rf
  have hl := lv_entry ([.ref (ad 5)]) (n := 3) (Nat.le_of_ble_eq_true rfl)
  obtain ⟨Q, hQ⟩ : ∃ Q, Q = MQ below (va_Qv (S := Nat → va_E) (fun u => IXL cT (shC cf) (spC cf) (LC cf) ad u ∧ Kp w_gatherTacks E u ∧ (True)) (HBL dC dI (LC cf) ad) (A)) args s 0 0 (A) := ⟨_, rfl⟩
  rw [← hQ, show entryFrame m args 3 = _ from (congrArg (fun z => entryFrame m z 3) hargs).trans (lg_entry_eq _ _ _)]
  generalize (lg_sl ([.ref (ad 5)]) ++ List.replicate (3 - (lg_sl ([.ref (ad 5)])).length) Slot.unset).toArray = ls at hl ⊢
  have hl : lv_has ls 3 [(0, .ref (ad 5))] := hl
  refine lv_aload_n hx hb dX2_gatherTacks_0 rfl (lv_at hl 0 rfl) ?_
  refine lv_iconst (v := 0) hx hb dX2_gatherTacks_1 (by decide) ?_
  refine th_putL (ci := 3) (C := RX2) (T := TX2) (N := 10) (v := .int 0) (ty := .int) hx hb hts hinX2 tyX2 tyX2_ok nmX2 hown hK hP (WL_D hD) hS hI 5 (mF 5 rfl) rfl rfl 9 (Nat.le_of_ble_eq_true rfl) (hts _ (vA_in _ _ (in_16 _ (zs4 (zs0))))) (fun _ h9 => h9) rfl (by decide +kernel) rfl rfl (okI rfl (iv_w ln_0 (by decide))) dX2_gatherTacks_2 (fun H locs E1 pw2 hI hP hS => ?_)
  have hKp := hKp.pw pw2 rfl
  refine lv_iconst (v := 0) hx hb dX2_gatherTacks_5 (by decide) ?_
  refine lv_istore_n (lv' := [(1, .int 0), (0, .ref (ad 5))]) hx hb dX2_gatherTacks_6 rfl hl (by decide) rfl (fun ls hl => ?_)
  have hL7 : ∀ d : Nat, ∀ (v7_1 : Int32) (E7_ : Nat → va_E) (H : Heap) (locs : List Loc) (ls : Array Slot), 0 ≤ v7_1.toInt ∧ v7_1.toInt ≤ 8 → 8 - v7_1.toInt < (d : Int) → IXL cT (shC cf) (spC cf) (LC cf) ad E7_ → Kp w_gatherTacks E E7_ → va_P (dC, dI) vwCl (WL (LC cf) ad E7_) H → va_S A s.heap H locs → lv_has ls 3 [(1, .int v7_1), (0, .ref (ad 5))] → W p l e (headSpec v_gatherTacks rm_gatherTacks).room s m args below meth c H locs 0 0 Q (F0 m 7 ls []) := by
    intro d
    induction d with
    | zero =>
      intro v7_1 E7_ H locs ls hv7_1 hx7_0 hI hKp hP hS hl
      exact absurd hx7_0 (by first | exact ms_zu hv7_1.2 | omega)
    | succ d ih7 =>
      intro v7_1 E7_ H locs ls hv7_1 hx7_0 hI hKp hP hS hl
      refine lv_iload_n hx hb dX2_gatherTacks_7 rfl (lv_at hl 0 rfl) ?_
      refine lv_bipush (v := 8) hx hb dX2_gatherTacks_8 (by decide) ?_
      refine lv_icmp_ge (tgt := 99) hx hb dX2_gatherTacks_10 (by decide) (fun c3 => ?_) (fun c3 => ?_)
      · --10 taken
        have t4 : (8 : Int) ≤ v7_1.toInt := ti_le c3
        have i5 : 8 ≤ v7_1.toInt ∧ v7_1.toInt ≤ 8 := iv_le_r t4 (il_ 8) hv7_1 (by decide)
        rw [hQ]
        exact W.vret hx hb hr (fun t ht hW => ⟨⟨E7_, rfl, ⟨hI, hKp, trivial⟩, by show va_P (dC, dI) vwCl (WL (LC cf) ad E7_) t.heap; rw [ht]; exact hP⟩, hS.F ht⟩) hS.2.2 dX2_gatherTacks_99
      · --10 not
        have t6 : v7_1.toInt < 8 := ti_nle c3
        have i7 : 0 ≤ v7_1.toInt ∧ v7_1.toInt ≤ 7 := iv_lt_l t6 hv7_1 (il_ 8) (by decide)
        refine lv_iconst (v := 0) hx hb dX2_gatherTacks_13 (by decide) ?_
        refine lv_istore_n (lv' := [(2, .int 0), (1, .int v7_1), (0, .ref (ad 5))]) hx hb dX2_gatherTacks_14 rfl hl (by decide) rfl (fun ls hl => ?_)
        have hL15 : ∀ d : Nat, ∀ (v15_2 : Int32) (E15_ : Nat → va_E) (H : Heap) (locs : List Loc) (ls : Array Slot), 0 ≤ v15_2.toInt ∧ v15_2.toInt ≤ 8 → 8 - v15_2.toInt < (d : Int) → IXL cT (shC cf) (spC cf) (LC cf) ad E15_ → Kp w_gatherTacks E E15_ → va_P (dC, dI) vwCl (WL (LC cf) ad E15_) H → va_S A s.heap H locs → lv_has ls 3 [(2, .int v15_2), (1, .int v7_1), (0, .ref (ad 5))] → W p l e (headSpec v_gatherTacks rm_gatherTacks).room s m args below meth c H locs 0 0 Q (F0 m 15 ls []) := by
          intro d
          induction d with
          | zero =>
            intro v15_2 E15_ H locs ls hv15_2 hx15_0 hI hKp hP hS hl
            exact absurd hx15_0 (by first | exact ms_zu hv15_2.2 | omega)
          | succ d ih15 =>
            intro v15_2 E15_ H locs ls hv15_2 hx15_0 hI hKp hP hS hl
            refine lv_iload_n hx hb dX2_gatherTacks_15 rfl (lv_at hl 0 rfl) ?_
            refine lv_bipush (v := 8) hx hb dX2_gatherTacks_16 (by decide) ?_
            refine lv_icmp_ge (tgt := 93) hx hb dX2_gatherTacks_18 (by decide) (fun c8 => ?_) (fun c8 => ?_)
            · --18 taken
              have t9 : (8 : Int) ≤ v15_2.toInt := ti_le c8
              have i10 : 8 ≤ v15_2.toInt ∧ v15_2.toInt ≤ 8 := iv_le_r t9 (il_ 8) hv15_2 (by decide)
              obtain ⟨y11, ey11⟩ : ∃ y : Int32, y = v7_1 + (1 : Int32) := ⟨_, rfl⟩
              obtain ⟨ty11, iy11⟩ := ti_add (e := 1) (f := 8) i7 ln_1 ey11 (by decide)
              have ty11 : y11.toInt = v7_1.toInt + 1 := ty11
              have iy11 : 1 ≤ y11.toInt ∧ y11.toInt ≤ 8 := iy11
              refine lv_iinc (v := y11) (lv' := [(1, .int y11), (2, .int v15_2), (0, .ref (ad 5))]) hx hb dX2_gatherTacks_93 hl (k := 1) rfl (by rw [ey11]; rfl) (by decide) rfl (fun ls hl => ?_)
              refine lv_goto (tgt := 7) hx hb dX2_gatherTacks_96 (by decide) ?_
              exact ih7 y11 E15_ _ _ _ (iv_w iy11 (by decide)) (by first | exact ms_su hx7_0 ty11 (by decide) | omega) hI hKp hP hS (lv_sub hl [0, 2] rfl)
            · --18 not
              have t12 : v15_2.toInt < 8 := ti_nle c8
              have i13 : 0 ≤ v15_2.toInt ∧ v15_2.toInt ≤ 7 := iv_lt_l t12 hv15_2 (il_ 8) (by decide)
              refine lv_aload_n hx hb dX2_gatherTacks_21 rfl (lv_at hl 2 rfl) ?_
              refine th_getL (ci := 3) (C := RX2) (T := TX2) (N := 10) (v := .ref (ad 42)) hx hb hts hinX2 hown hK hP hI 5 (mF 5 rfl) rfl rfl 5 (Nat.le_of_ble_eq_true rfl) (hts _ (vA_in _ _ (in_15 _ (zs4 (zs4 (zs4 (zs0))))))) (fun _ h9 => h9) (hI.fr 5 (mF 5 rfl) rfl (Nat.le_of_ble_eq_true rfl) 42 rfl) dX2_gatherTacks_22 ?_
              refine lv_iconst (v := 0) hx hb dX2_gatherTacks_25 (by decide) ?_
              have n15 : vp_in (0 : Int32) 2 := (iv_in (n := 2) ln_0 (by decide))
              refine th_ialdL hx hb hK hP hI 42 (mF 42 rfl) rfl rfl n15 dX2_gatherTacks_26 (fun y14 ey14 => ?_)
              have iy14 : 0 ≤ y14.toInt ∧ y14.toInt ≤ 255 := hI.el 42 (mF 42 rfl) rfl n15 (fun _ => rfl) ey14
              have ey14 := ey14.trans (hKp.ei 42 _ rfl)
              refine lv_iload_n hx hb dX2_gatherTacks_27 rfl (lv_at hl 1 rfl) ?_
              refine lv_ishr hx hb dX2_gatherTacks_28 ?_
              refine lv_topi (fun y16 ey16 => ?_)
              refine lv_iconst (v := 1) hx hb dX2_gatherTacks_29 (by decide) ?_
              refine lv_iand hx hb dX2_gatherTacks_30 ?_
              refine lv_topi (fun y17 ey17 => ?_)
              have iy17 : 0 ≤ y17.toInt ∧ y17.toInt ≤ 1 := ti_and (by decide) ey17
              refine lv_if_eq (tgt := 87) hx hb dX2_gatherTacks_31 (by decide) (fun c18 => ?_) (fun c18 => ?_)
              · --31 taken
                have t19 : y17.toInt = 0 := ti_eq c18
                have i20 : 0 ≤ y17.toInt ∧ y17.toInt ≤ 0 := iv_eqi t19 iy17 (il_ 0) (by decide)
                obtain ⟨y21, ey21⟩ : ∃ y : Int32, y = v15_2 + (1 : Int32) := ⟨_, rfl⟩
                obtain ⟨ty21, iy21⟩ := ti_add (e := 1) (f := 8) i13 ln_1 ey21 (by decide)
                have ty21 : y21.toInt = v15_2.toInt + 1 := ty21
                have iy21 : 1 ≤ y21.toInt ∧ y21.toInt ≤ 8 := iy21
                refine lv_iinc (v := y21) (lv' := [(2, .int y21), (1, .int v7_1), (0, .ref (ad 5))]) hx hb dX2_gatherTacks_87 hl (k := 0) rfl (by rw [ey21]; rfl) (by decide) rfl (fun ls hl => ?_)
                refine lv_goto (tgt := 15) hx hb dX2_gatherTacks_90 (by decide) ?_
                exact ih15 y21 E15_ _ _ _ (iv_w iy21 (by decide)) (by first | exact ms_su hx15_0 ty21 (by decide) | omega) hI hKp hP hS (lv_sub hl [0, 1, 2] rfl)
              · --31 not
                have t22 : ¬ y17.toInt = 0 := ti_ne c18
                have i23 : 1 ≤ y17.toInt ∧ y17.toInt ≤ 1 := iv_ne_l t22 iy17 (il_ 0)
                refine lv_aload_n hx hb dX2_gatherTacks_34 rfl (lv_at hl 2 rfl) ?_
                refine th_getL (ci := 3) (C := RX2) (T := TX2) (N := 10) (v := .ref (ad 42)) hx hb hts hinX2 hown hK hP hI 5 (mF 5 rfl) rfl rfl 5 (Nat.le_of_ble_eq_true rfl) (hts _ (vA_in _ _ (in_15 _ (zs4 (zs4 (zs4 (zs0))))))) (fun _ h9 => h9) (hI.fr 5 (mF 5 rfl) rfl (Nat.le_of_ble_eq_true rfl) 42 rfl) dX2_gatherTacks_35 ?_
                refine lv_iconst (v := 1) hx hb dX2_gatherTacks_38 (by decide) ?_
                have n25 : vp_in (1 : Int32) 2 := (iv_in (n := 2) ln_1 (by decide))
                refine th_ialdL hx hb hK hP hI 42 (mF 42 rfl) rfl rfl n25 dX2_gatherTacks_39 (fun y24 ey24 => ?_)
                have iy24 : 0 ≤ y24.toInt ∧ y24.toInt ≤ 255 := hI.el 42 (mF 42 rfl) rfl n25 (fun _ => rfl) ey24
                have ey24 := ey24.trans (hKp.ei 42 _ rfl)
                refine lv_iload_n hx hb dX2_gatherTacks_40 rfl (lv_at hl 0 rfl) ?_
                refine lv_ishr hx hb dX2_gatherTacks_41 ?_
                refine lv_topi (fun y26 ey26 => ?_)
                refine lv_iconst (v := 1) hx hb dX2_gatherTacks_42 (by decide) ?_
                refine lv_iand hx hb dX2_gatherTacks_43 ?_
                refine lv_topi (fun y27 ey27 => ?_)
                have iy27 : 0 ≤ y27.toInt ∧ y27.toInt ≤ 1 := ti_and (by decide) ey27
                refine lv_if_ne (tgt := 50) hx hb dX2_gatherTacks_44 (by decide) (fun c28 => ?_) (fun c28 => ?_)
                · --44 taken
                  have t29 : ¬ y27.toInt = 0 := ti_ne c28
                  have i30 : 1 ≤ y27.toInt ∧ y27.toInt ≤ 1 := iv_ne_l t29 iy27 (il_ 0)
                  refine lv_aload_n hx hb dX2_gatherTacks_50 rfl (lv_at hl 2 rfl) ?_
                  refine lv_dup hx hb dX2_gatherTacks_51 rfl ?_
                  obtain ⟨y31, ey31⟩ : ∃ y, xi (E15_ 5) 9 = y := ⟨_, rfl⟩
                  have fy31 : xv (E15_ 5) 9 = .int y31 := (hI.fi 5 (mF 5 rfl) rfl (Nat.le_of_ble_eq_true rfl) rfl).trans (congrArg Value.int ey31)
                  have i32 : 0 ≤ y31.toInt ∧ y31.toInt ≤ 255 := by rw [← ey31]; exact hI.iv 5 (mF 5 rfl) rfl (Nat.le_of_ble_eq_true rfl) rfl
                  refine th_getL (ci := 3) (C := RX2) (T := TX2) (N := 10) (v := .int y31) hx hb hts hinX2 hown hK hP hI 5 (mF 5 rfl) rfl rfl 9 (Nat.le_of_ble_eq_true rfl) (hts _ (vA_in _ _ (in_16 _ (zs4 (zs0))))) (fun _ h9 => h9) fy31 dX2_gatherTacks_52 ?_
                  refine lv_iconst (v := 1) hx hb dX2_gatherTacks_55 (by decide) ?_
                  refine lv_iconst (v := 4) hx hb dX2_gatherTacks_56 (by decide) ?_
                  refine lv_aload_n hx hb dX2_gatherTacks_57 rfl (lv_at hl 2 rfl) ?_
                  refine lv_iload_n hx hb dX2_gatherTacks_58 rfl (lv_at hl 1 rfl) ?_
                  refine th_riL (va_runV (As := [.int v7_1]) (rest := [.int 4, .int 1, .int y31, .ref (ad 5)]) ⟨hx, hb, hml, hown, hts⟩ (q_starboard l dC dI cT cf hC ad E15_ H.size v7_1 ri hI (by omega) (by exact (hKp 5 6 rfl).trans hh1) i7) (cwV 1 hts (gi_V (in_16 _ (zs4 (zs1 (zs0)))) (in_16 _ (zs4 (zs1 (zs1 (zs0))))) (in_16 _ (zs4 (zs1 (zs1 (zs1 (zs0)))))) (in_14 _ (zs16 (zs16 (zs0)))) (in_16 _ (zs4 (zs4 (zs0))))) rfl rfl rfl ⟨rfl, hz_yX2_starboard_1⟩ ⟨Nat.le_of_ble_eq_true rfl, Nat.le_of_ble_eq_true rfl⟩) ⟨HWL_bl, va_recv hK hP (ci := 3) (q0 := posL 5 (LC cf)) rfl (hI.ob 5 (mF 5 rfl) rfl), (HWL_wi hP hK (WL_D hD) hS hA hEV)⟩ rfl rfl hl.1 rfl (lv_room (Nat.le_of_ble_eq_true rfl)) dX2_gatherTacks_59 ⟨Nat.le_of_ble_eq_true rfl, Nat.le_of_ble_eq_true rfl⟩) hS hP (fun r33 H locs hw hP hS => ?_)
                  have f34 := hw
                  refine lv_imul hx hb dX2_gatherTacks_62 ?_
                  refine lv_topi (fun y35 ey35 => ?_)
                  obtain ⟨ty35, iy35⟩ := ti_mul (e := 0) (f := 4) ln_4 f34 ey35 (by decide)
                  have ty35 : y35.toInt = 4 * r33.toInt := ty35
                  have iy35 : 0 ≤ y35.toInt ∧ y35.toInt ≤ 4 := iy35
                  refine lv_iconst (v := 2) hx hb dX2_gatherTacks_63 (by decide) ?_
                  refine lv_aload_n hx hb dX2_gatherTacks_64 rfl (lv_at hl 2 rfl) ?_
                  refine lv_iload_n hx hb dX2_gatherTacks_65 rfl (lv_at hl 0 rfl) ?_
                  refine th_riL (va_runV (As := [.int v15_2]) (rest := [.int 2, .int y35, .int 1, .int y31, .ref (ad 5)]) ⟨hx, hb, hml, hown, hts⟩ (q_starboard l dC dI cT cf hC ad E15_ H.size v15_2 ri hI (by omega) (by exact (hKp 5 6 rfl).trans hh1) i13) (cwV 1 hts (gi_V (in_16 _ (zs4 (zs1 (zs0)))) (in_16 _ (zs4 (zs1 (zs1 (zs0))))) (in_16 _ (zs4 (zs1 (zs1 (zs1 (zs0)))))) (in_14 _ (zs16 (zs16 (zs0)))) (in_16 _ (zs4 (zs4 (zs0))))) rfl rfl rfl ⟨rfl, hz_yX2_starboard_1⟩ ⟨Nat.le_of_ble_eq_true rfl, Nat.le_of_ble_eq_true rfl⟩) ⟨HWL_bl, va_recv hK hP (ci := 3) (q0 := posL 5 (LC cf)) rfl (hI.ob 5 (mF 5 rfl) rfl), (HWL_wi hP hK (WL_D hD) hS hA hEV)⟩ rfl rfl hl.1 rfl (lv_room (Nat.le_of_ble_eq_true rfl)) dX2_gatherTacks_66 ⟨Nat.le_of_ble_eq_true rfl, Nat.le_of_ble_eq_true rfl⟩) hS hP (fun r36 H locs hw hP hS => ?_)
                  have f37 := hw
                  refine lv_imul hx hb dX2_gatherTacks_69 ?_
                  refine lv_topi (fun y38 ey38 => ?_)
                  obtain ⟨ty38, iy38⟩ := ti_mul (e := 0) (f := 2) ln_2 f37 ey38 (by decide)
                  have ty38 : y38.toInt = 2 * r36.toInt := ty38
                  have iy38 : 0 ≤ y38.toInt ∧ y38.toInt ≤ 2 := iy38
                  refine lv_iadd hx hb dX2_gatherTacks_70 ?_
                  refine lv_topi (fun y39 ey39 => ?_)
                  obtain ⟨ty39, iy39⟩ := ti_add (e := 0) (f := 6) iy35 iy38 ey39 (by decide)
                  have ty39 : y39.toInt = y35.toInt + y38.toInt := ty39
                  have iy39 : 0 ≤ y39.toInt ∧ y39.toInt ≤ 6 := iy39
                  refine lv_iload_n hx hb dX2_gatherTacks_71 rfl (lv_at hl 1 rfl) ?_
                  refine lv_iload_n hx hb dX2_gatherTacks_72 rfl (lv_at hl 0 rfl) ?_
                  have hJ81 : ∀ (s81_0 : Int32) (H : Heap) (locs : List Loc) (ls : Array Slot), 0 ≤ s81_0.toInt ∧ s81_0.toInt ≤ 1 → va_P (dC, dI) vwCl (WL (LC cf) ad E15_) H → va_S A s.heap H locs → lv_has ls 3 [(2, .int v15_2), (1, .int v7_1), (0, .ref (ad 5))] → W p l e (headSpec v_gatherTacks rm_gatherTacks).room s m args below meth c H locs 0 0 Q (F0 m 81 ls [.int s81_0, .int y39, .int 1, .int y31, .ref (ad 5)]) := by
                    intro s81_0 H locs ls hs81_0 hP hS hl
                    refine lv_iadd hx hb dX2_gatherTacks_81 ?_
                    refine lv_topi (fun y40 ey40 => ?_)
                    obtain ⟨ty40, iy40⟩ := ti_add (e := 0) (f := 7) iy39 hs81_0 ey40 (by decide)
                    have ty40 : y40.toInt = y39.toInt + s81_0.toInt := ty40
                    have iy40 : 0 ≤ y40.toInt ∧ y40.toInt ≤ 7 := iy40
                    refine lv_ishl hx hb dX2_gatherTacks_82 ?_
                    refine lv_topi (fun y41 ey41 => ?_)
                    have iy41 : 1 ≤ y41.toInt ∧ y41.toInt ≤ 128 := ti_shl8 iy40 ey41 (by decide)
                    refine lv_ior hx hb dX2_gatherTacks_83 ?_
                    refine lv_topi (fun y42 ey42 => ?_)
                    have iy42 : 0 ≤ y42.toInt ∧ y42.toInt ≤ 255 := ti_or255 ey42 (by omega) (by omega)
                    refine th_putL (ci := 3) (C := RX2) (T := TX2) (N := 10) (v := .int y42) (ty := .int) hx hb hts hinX2 tyX2 tyX2_ok nmX2 hown hK hP (WL_D hD) hS hI 5 (mF 5 rfl) rfl rfl 9 (Nat.le_of_ble_eq_true rfl) (hts _ (vA_in _ _ (in_16 _ (zs4 (zs0))))) (fun _ h9 => h9) rfl (by decide +kernel) rfl rfl (okI rfl iy42) dX2_gatherTacks_84 (fun H locs E43 pw44 hI hP hS => ?_)
                    have hKp := hKp.pw pw44 rfl
                    obtain ⟨y45, ey45⟩ : ∃ y : Int32, y = v15_2 + (1 : Int32) := ⟨_, rfl⟩
                    obtain ⟨ty45, iy45⟩ := ti_add (e := 1) (f := 8) i13 ln_1 ey45 (by decide)
                    have ty45 : y45.toInt = v15_2.toInt + 1 := ty45
                    have iy45 : 1 ≤ y45.toInt ∧ y45.toInt ≤ 8 := iy45
                    refine lv_iinc (v := y45) (lv' := [(2, .int y45), (1, .int v7_1), (0, .ref (ad 5))]) hx hb dX2_gatherTacks_87 hl (k := 0) rfl (by rw [ey45]; rfl) (by decide) rfl (fun ls hl => ?_)
                    refine lv_goto (tgt := 15) hx hb dX2_gatherTacks_90 (by decide) ?_
                    exact ih15 y45 E43 _ _ _ (iv_w iy45 (by decide)) (by first | exact ms_su hx15_0 ty45 (by decide) | omega) hI hKp hP hS (lv_sub hl [0, 1, 2] rfl)
                  refine lv_icmp_ne (tgt := 80) hx hb dX2_gatherTacks_73 (by decide) (fun c46 => ?_) (fun c46 => ?_)
                  · --73 taken
                    have t47 : ¬ v7_1.toInt = v15_2.toInt := ti_ne c46
                    refine lv_iconst (v := 0) hx hb dX2_gatherTacks_80 (by decide) ?_
                    exact hJ81 (0 : Int32) _ _ _ (iv_w ln_0 (by decide)) hP hS (lv_sub hl [0, 1, 2] rfl)
                  · --73 not
                    have t48 : v7_1.toInt = v15_2.toInt := ti_eq c46
                    refine lv_iconst (v := 1) hx hb dX2_gatherTacks_76 (by decide) ?_
                    refine lv_goto (tgt := 81) hx hb dX2_gatherTacks_77 (by decide) ?_
                    exact hJ81 (1 : Int32) _ _ _ (iv_w ln_1 (by decide)) hP hS (lv_sub hl [0, 1, 2] rfl)
                · --44 not
                  have t49 : y27.toInt = 0 := ti_eq c28
                  have i50 : 0 ≤ y27.toInt ∧ y27.toInt ≤ 0 := iv_eqi t49 iy27 (il_ 0) (by decide)
                  refine lv_goto (tgt := 87) hx hb dX2_gatherTacks_47 (by decide) ?_
                  obtain ⟨y51, ey51⟩ : ∃ y : Int32, y = v15_2 + (1 : Int32) := ⟨_, rfl⟩
                  obtain ⟨ty51, iy51⟩ := ti_add (e := 1) (f := 8) i13 ln_1 ey51 (by decide)
                  have ty51 : y51.toInt = v15_2.toInt + 1 := ty51
                  have iy51 : 1 ≤ y51.toInt ∧ y51.toInt ≤ 8 := iy51
                  refine lv_iinc (v := y51) (lv' := [(2, .int y51), (1, .int v7_1), (0, .ref (ad 5))]) hx hb dX2_gatherTacks_87 hl (k := 0) rfl (by rw [ey51]; rfl) (by decide) rfl (fun ls hl => ?_)
                  refine lv_goto (tgt := 15) hx hb dX2_gatherTacks_90 (by decide) ?_
                  exact ih15 y51 E15_ _ _ _ (iv_w iy51 (by decide)) (by first | exact ms_su hx15_0 ty51 (by decide) | omega) hI hKp hP hS (lv_sub hl [0, 1, 2] rfl)
        exact hL15 (9) (0 : Int32) E7_ _ _ _ (iv_w ln_0 (by decide)) (by have h9 := ln_0; first | exact ms_bu h9.1 (by decide) | omega) hI hKp hP hS (lv_sub hl [0, 1, 2] rfl)
  exact hL7 (9) (0 : Int32) E1 _ _ _ (iv_w ln_0 (by decide)) (by have h9 := ln_0; first | exact ms_bu h9.1 (by decide) | omega) hI hKp hP hS (lv_sub hl [0, 1] rfl)
def v_faultsOnTacks : List Cond := .code yX2_faultsOnTacks cX2_faultsOnTacks 3 (some .int) :: vA
abbrev rm_faultsOnTacks : Room := { frames := 4, cells := 0, slots := 0, locals := 160 }
def w_faultsOnTacks : Nat → Nat → Bool := wl [19, 20] []
set_option maxHeartbeats 4000000 in
set_option maxRecDepth 100000 in
theorem q_faultsOnTacks (l : Launch) (dC : Nat → ClassId) (dI : Nat → Nat → Nat) (cT : Nat → ClassId) (cf : Nat → Nat) (hC : CF cf) (ad : Nat → Nat) (E : Nat → va_E) (sz : Nat) (ri : Nat) (hI0 : IXL cT (shC cf) (spC cf) (LC cf) ad E) (hh0 : ri < cf 2) (hh1 : xv (E 5) 6 = .ref (ad (64 * (ri + 1) + 6))) (hh2 : (xi (E 5) 7).toInt < ((cf 1 : Nat) : Int)) : Met l yX2_faultsOnTacks v_faultsOnTacks rm_faultsOnTacks (va_Pc [.ref (ad 5)] (HWL dC dI (TYC cT) cf ad E sz)) (va_Qi (S := Nat → va_E) (fun r u => IXL cT (shC cf) (spC cf) (LC cf) ad u ∧ Kp w_faultsOnTacks E u ∧ (True)) (HBL dC dI (LC cf) ad) (va_A (WL (LC cf) ad E) sz)) 0 0 (va_A (WL (LC cf) ad E) sz) := by
  obtain ⟨⟨hc0, hc1, hc2, hc3, hc4, hc5⟩, hcr⟩ := id hC
  refine Met.ofW (cc := cX2_faultsOnTacks) (maxL := 3) (ret := (some .int)) (by decide) rfl ?_
  intro p e s m args below meth c s₁ B hml hv
  obtain ⟨hargs, hsz, hP, hK, hD0, hEV⟩ := hv
  subst hsz
  have hx := B.exec
  have hb := B.bytes
  have hr := B.returns
  have hts := atoms_spec (ws := v_faultsOnTacks) B.pre
  have hown : s.vm.findClass RX2 = some m.cls := findClass_of_methodNamed B.named
  have hlocks := B.notSynchronized
  have hinX0 : ∀ w ∈ u_ws RX0 TX0 11, w ∈ v_faultsOnTacks := fun w h => vA_in _ w (in_X0 w h)
  have hinX2 : ∀ w ∈ u_ws RX2 TX2 10, w ∈ v_faultsOnTacks := fun w h => vA_in _ w (in_X2 w h)
  generalize hAe : va_A (WL (LC cf) ad E) s.heap.size = A at hEV ⊢
  have hA : ∀ q : Nat, s.heap.size ≤ q → A q := fun q h => by rw [← hAe]; exact Or.inr h
  have hD : va_D A (WL (LC cf) ad E) := by rw [← hAe]; exact hD0.self
  have hS : va_S A s.heap s.heap [] := va_S.rf
  have hI := hI0
  have hKp : Kp w_faultsOnTacks E E := Kp.rf
  have hl := lv_entry ([.ref (ad 5)]) (n := 3) (Nat.le_of_ble_eq_true rfl)
  obtain ⟨Q, hQ⟩ : ∃ Q, Q = MQ below (va_Qi (S := Nat → va_E) (fun r u => IXL cT (shC cf) (spC cf) (LC cf) ad u ∧ Kp w_faultsOnTacks E u ∧ (True)) (HBL dC dI (LC cf) ad) (A)) args s 0 0 (A) := ⟨_, rfl⟩
  rw [← hQ, show entryFrame m args 3 = _ from (congrArg (fun z => entryFrame m z 3) hargs).trans (lg_entry_eq _ _ _)]
  generalize (lg_sl ([.ref (ad 5)]) ++ List.replicate (3 - (lg_sl ([.ref (ad 5)])).length) Slot.unset).toArray = ls at hl ⊢
  have hl : lv_has ls 3 [(0, .ref (ad 5))] := hl
  refine lv_iconst (v := 0) hx hb dX2_faultsOnTacks_0 (by decide) ?_
  refine lv_istore_n (lv' := [(1, .int 0), (0, .ref (ad 5))]) hx hb dX2_faultsOnTacks_1 rfl hl (by decide) rfl (fun ls hl => ?_)
  refine lv_iconst (v := 0) hx hb dX2_faultsOnTacks_2 (by decide) ?_
  refine lv_istore_n (lv' := [(2, .int 0), (1, .int 0), (0, .ref (ad 5))]) hx hb dX2_faultsOnTacks_3 rfl hl (by decide) rfl (fun ls hl => ?_)
  have hL4 : ∀ d : Nat, ∀ (v4_2 : Int32) (v4_1 : Int32) (E4_ : Nat → va_E) (H : Heap) (locs : List Loc) (ls : Array Slot), 0 ≤ v4_2.toInt ∧ v4_2.toInt ≤ 8 → 0 ≤ v4_1.toInt ∧ v4_1.toInt ≤ 3 → 8 - v4_2.toInt < (d : Int) → IXL cT (shC cf) (spC cf) (LC cf) ad E4_ → Kp w_faultsOnTacks E E4_ → va_P (dC, dI) vwCl (WL (LC cf) ad E4_) H → va_S A s.heap H locs → lv_has ls 3 [(2, .int v4_2), (1, .int v4_1), (0, .ref (ad 5))] → W p l e (headSpec v_faultsOnTacks rm_faultsOnTacks).room s m args below meth c H locs 0 0 Q (F0 m 4 ls []) := by
    intro d
    induction d with
    | zero =>
      intro v4_2 v4_1 E4_ H locs ls hv4_2 hv4_1 hx4_0 hI hKp hP hS hl
      exact absurd hx4_0 (by first | exact ms_zu hv4_2.2 | omega)
    | succ d ih4 =>
      intro v4_2 v4_1 E4_ H locs ls hv4_2 hv4_1 hx4_0 hI hKp hP hS hl
      refine lv_iload_n hx hb dX2_faultsOnTacks_4 rfl (lv_at hl 0 rfl) ?_
      refine lv_bipush (v := 8) hx hb dX2_faultsOnTacks_5 (by decide) ?_
      refine lv_icmp_ge (tgt := 102) hx hb dX2_faultsOnTacks_7 (by decide) (fun c1 => ?_) (fun c1 => ?_)
      · --7 taken
        have t2 : (8 : Int) ≤ v4_2.toInt := ti_le c1
        have i3 : 8 ≤ v4_2.toInt ∧ v4_2.toInt ≤ 8 := iv_le_r t2 (il_ 8) hv4_2 (by decide)
        refine lv_iload_n hx hb dX2_faultsOnTacks_102 rfl (lv_at hl 1 rfl) ?_
        rw [hQ]
        exact W.iret (v := v4_1) hx hb hr (fun t ht hW => ⟨⟨v4_1, E4_, rfl, ⟨hI, hKp, trivial⟩, by show va_P (dC, dI) vwCl (WL (LC cf) ad E4_) t.heap; rw [ht]; exact hP⟩, hS.F ht⟩) hS.2.2 dX2_faultsOnTacks_103
      · --7 not
        have t4 : v4_2.toInt < 8 := ti_nle c1
        have i5 : 0 ≤ v4_2.toInt ∧ v4_2.toInt ≤ 7 := iv_lt_l t4 hv4_2 (il_ 8) (by decide)
        refine lv_iload_n hx hb dX2_faultsOnTacks_10 rfl (lv_at hl 1 rfl) ?_
        refine lv_iconst (v := 3) hx hb dX2_faultsOnTacks_11 (by decide) ?_
        refine lv_icmp_eq (tgt := 102) hx hb dX2_faultsOnTacks_12 (by decide) (fun c6 => ?_) (fun c6 => ?_)
        · --12 taken
          have t7 : v4_1.toInt = 3 := ti_eq c6
          have i8 : 3 ≤ v4_1.toInt ∧ v4_1.toInt ≤ 3 := iv_eqi t7 hv4_1 (il_ 3) (by decide)
          refine lv_iload_n hx hb dX2_faultsOnTacks_102 rfl (lv_at hl 1 rfl) ?_
          rw [hQ]
          exact W.iret (v := v4_1) hx hb hr (fun t ht hW => ⟨⟨v4_1, E4_, rfl, ⟨hI, hKp, trivial⟩, by show va_P (dC, dI) vwCl (WL (LC cf) ad E4_) t.heap; rw [ht]; exact hP⟩, hS.F ht⟩) hS.2.2 dX2_faultsOnTacks_103
        · --12 not
          have t9 : ¬ v4_1.toInt = 3 := ti_ne c6
          have i10 : 0 ≤ v4_1.toInt ∧ v4_1.toInt ≤ 2 := iv_ne_r t9 hv4_1 (il_ 3)
          refine lv_aload_n hx hb dX2_faultsOnTacks_15 rfl (lv_at hl 2 rfl) ?_
          have i11 : 0 ≤ (xi (E 5) 9).toInt ∧ (xi (E 5) 9).toInt ≤ 255 := hI0.iv 5 (mF 5 rfl) rfl (Nat.le_of_ble_eq_true rfl) rfl
          refine th_getL (ci := 3) (C := RX2) (T := TX2) (N := 10) (v := .int (xi (E 5) 9)) hx hb hts hinX2 hown hK hP hI 5 (mF 5 rfl) rfl rfl 9 (Nat.le_of_ble_eq_true rfl) (hts _ (vA_in _ _ (in_16 _ (zs4 (zs0))))) (fun _ h9 => h9) (th_v0L hKp hI0 5 (mF 5 rfl) rfl (Nat.le_of_ble_eq_true rfl) rfl rfl) dX2_faultsOnTacks_16 ?_
          refine lv_iload_n hx hb dX2_faultsOnTacks_19 rfl (lv_at hl 0 rfl) ?_
          refine lv_ishr hx hb dX2_faultsOnTacks_20 ?_
          refine lv_topi (fun y12 ey12 => ?_)
          refine lv_iconst (v := 1) hx hb dX2_faultsOnTacks_21 (by decide) ?_
          refine lv_iand hx hb dX2_faultsOnTacks_22 ?_
          refine lv_topi (fun y13 ey13 => ?_)
          have iy13 : 0 ≤ y13.toInt ∧ y13.toInt ≤ 1 := ti_and (by decide) ey13
          refine lv_if_ne (tgt := 29) hx hb dX2_faultsOnTacks_23 (by decide) (fun c14 => ?_) (fun c14 => ?_)
          · --23 taken
            have t15 : ¬ y13.toInt = 0 := ti_ne c14
            have i16 : 1 ≤ y13.toInt ∧ y13.toInt ≤ 1 := iv_ne_l t15 iy13 (il_ 0)
            refine lv_aload_n hx hb dX2_faultsOnTacks_29 rfl (lv_at hl 2 rfl) ?_
            refine th_getL (ci := 3) (C := RX2) (T := TX2) (N := 10) (v := .ref (ad 1)) hx hb hts hinX2 hown hK hP hI 5 (mF 5 rfl) rfl rfl 0 (Nat.le_of_ble_eq_true rfl) (hts _ (vA_in _ _ (in_14 _ (zs16 (zs16 (zs1 (zs1 (zs0)))))))) (fun _ h9 => h9) (hI.fr 5 (mF 5 rfl) rfl (Nat.le_of_ble_eq_true rfl) 1 rfl) dX2_faultsOnTacks_30 ?_
            refine th_getL (ci := 1) (C := RX0) (T := TX0) (N := 11) (v := .ref (ad 19)) hx hb hts hinX0 hown hK hP hI 1 (mF 1 rfl) rfl rfl 9 (Nat.le_of_ble_eq_true rfl) (hts _ (vA_in _ _ (in_16 _ (zs4 (zs4 (zs4 (zs1 (zs1 (zs0))))))))) (fun _ h9 => h9) (hI.fr 1 (mF 1 rfl) rfl (Nat.le_of_ble_eq_true rfl) 19 rfl) dX2_faultsOnTacks_33 ?_
            refine lv_bipush (v := 9) hx hb dX2_faultsOnTacks_36 (by decide) ?_
            refine lv_iload_n hx hb dX2_faultsOnTacks_38 rfl (lv_at hl 0 rfl) ?_
            refine lv_iconst (v := 2) hx hb dX2_faultsOnTacks_39 (by decide) ?_
            refine lv_ishr hx hb dX2_faultsOnTacks_40 ?_
            refine lv_topi (fun y17 ey17 => ?_)
            have n18 : vp_in (9 : Int32) 14 := (iv_in (n := 14) ln_9 (by decide))
            refine th_iastL hx hb hK hP (WL_D hD) hS hI 19 (mF 19 rfl) rfl rfl n18 (okI rfl (iv_all _)) dX2_faultsOnTacks_41 (fun H locs E19 pw20 hI hP hS => ?_)
            have hKp := hKp.pw pw20 rfl
            refine lv_aload_n hx hb dX2_faultsOnTacks_42 rfl (lv_at hl 2 rfl) ?_
            refine th_getL (ci := 3) (C := RX2) (T := TX2) (N := 10) (v := .ref (ad 1)) hx hb hts hinX2 hown hK hP hI 5 (mF 5 rfl) rfl rfl 0 (Nat.le_of_ble_eq_true rfl) (hts _ (vA_in _ _ (in_14 _ (zs16 (zs16 (zs1 (zs1 (zs0)))))))) (fun _ h9 => h9) (hI.fr 5 (mF 5 rfl) rfl (Nat.le_of_ble_eq_true rfl) 1 rfl) dX2_faultsOnTacks_43 ?_
            refine th_getL (ci := 1) (C := RX0) (T := TX0) (N := 11) (v := .ref (ad 19)) hx hb hts hinX0 hown hK hP hI 1 (mF 1 rfl) rfl rfl 9 (Nat.le_of_ble_eq_true rfl) (hts _ (vA_in _ _ (in_16 _ (zs4 (zs4 (zs4 (zs1 (zs1 (zs0))))))))) (fun _ h9 => h9) (hI.fr 1 (mF 1 rfl) rfl (Nat.le_of_ble_eq_true rfl) 19 rfl) dX2_faultsOnTacks_46 ?_
            refine lv_bipush (v := 10) hx hb dX2_faultsOnTacks_49 (by decide) ?_
            refine lv_iload_n hx hb dX2_faultsOnTacks_51 rfl (lv_at hl 0 rfl) ?_
            refine lv_iconst (v := 1) hx hb dX2_faultsOnTacks_52 (by decide) ?_
            refine lv_ishr hx hb dX2_faultsOnTacks_53 ?_
            refine lv_topi (fun y21 ey21 => ?_)
            refine lv_iconst (v := 1) hx hb dX2_faultsOnTacks_54 (by decide) ?_
            refine lv_iand hx hb dX2_faultsOnTacks_55 ?_
            refine lv_topi (fun y22 ey22 => ?_)
            have iy22 : 0 ≤ y22.toInt ∧ y22.toInt ≤ 1 := ti_and (by decide) ey22
            have n23 : vp_in (10 : Int32) 14 := (iv_in (n := 14) ln_10 (by decide))
            refine th_iastL hx hb hK hP (WL_D hD) hS hI 19 (mF 19 rfl) rfl rfl n23 (okI rfl (iv_w iy22 (by decide))) dX2_faultsOnTacks_56 (fun H locs E24 pw25 hI hP hS => ?_)
            have hKp := hKp.pw pw25 rfl
            refine lv_aload_n hx hb dX2_faultsOnTacks_57 rfl (lv_at hl 2 rfl) ?_
            refine th_getL (ci := 3) (C := RX2) (T := TX2) (N := 10) (v := .ref (ad 1)) hx hb hts hinX2 hown hK hP hI 5 (mF 5 rfl) rfl rfl 0 (Nat.le_of_ble_eq_true rfl) (hts _ (vA_in _ _ (in_14 _ (zs16 (zs16 (zs1 (zs1 (zs0)))))))) (fun _ h9 => h9) (hI.fr 5 (mF 5 rfl) rfl (Nat.le_of_ble_eq_true rfl) 1 rfl) dX2_faultsOnTacks_58 ?_
            refine th_getL (ci := 1) (C := RX0) (T := TX0) (N := 11) (v := .ref (ad 19)) hx hb hts hinX0 hown hK hP hI 1 (mF 1 rfl) rfl rfl 9 (Nat.le_of_ble_eq_true rfl) (hts _ (vA_in _ _ (in_16 _ (zs4 (zs4 (zs4 (zs1 (zs1 (zs0))))))))) (fun _ h9 => h9) (hI.fr 1 (mF 1 rfl) rfl (Nat.le_of_ble_eq_true rfl) 19 rfl) dX2_faultsOnTacks_61 ?_
            refine lv_bipush (v := 13) hx hb dX2_faultsOnTacks_64 (by decide) ?_
            refine lv_iload_n hx hb dX2_faultsOnTacks_66 rfl (lv_at hl 0 rfl) ?_
            refine lv_iconst (v := 1) hx hb dX2_faultsOnTacks_67 (by decide) ?_
            refine lv_iand hx hb dX2_faultsOnTacks_68 ?_
            refine lv_topi (fun y26 ey26 => ?_)
            have iy26 : 0 ≤ y26.toInt ∧ y26.toInt ≤ 1 := ti_and (by decide) ey26
            have n27 : vp_in (13 : Int32) 14 := (iv_in (n := 14) ln_13 (by decide))
            refine th_iastL hx hb hK hP (WL_D hD) hS hI 19 (mF 19 rfl) rfl rfl n27 (okI rfl (iv_w iy26 (by decide))) dX2_faultsOnTacks_69 (fun H locs E28 pw29 hI hP hS => ?_)
            have hKp := hKp.pw pw29 rfl
            refine lv_iload_n hx hb dX2_faultsOnTacks_70 rfl (lv_at hl 1 rfl) ?_
            refine lv_aload_n hx hb dX2_faultsOnTacks_71 rfl (lv_at hl 2 rfl) ?_
            refine th_getL (ci := 3) (C := RX2) (T := TX2) (N := 10) (v := .ref (ad 1)) hx hb hts hinX2 hown hK hP hI 5 (mF 5 rfl) rfl rfl 0 (Nat.le_of_ble_eq_true rfl) (hts _ (vA_in _ _ (in_14 _ (zs16 (zs16 (zs1 (zs1 (zs0)))))))) (fun _ h9 => h9) (hI.fr 5 (mF 5 rfl) rfl (Nat.le_of_ble_eq_true rfl) 1 rfl) dX2_faultsOnTacks_72 ?_
            refine lv_aload_n hx hb dX2_faultsOnTacks_75 rfl (lv_at hl 2 rfl) ?_
            have i30 : -1 ≤ (xi (E 5) 7).toInt ∧ (xi (E 5) 7).toInt ≤ 15 := hI0.iv 5 (mF 5 rfl) rfl (Nat.le_of_ble_eq_true rfl) rfl
            refine th_getL (ci := 3) (C := RX2) (T := TX2) (N := 10) (v := .int (xi (E 5) 7)) hx hb hts hinX2 hown hK hP hI 5 (mF 5 rfl) rfl rfl 7 (Nat.le_of_ble_eq_true rfl) (hts _ (vA_in _ _ (in_15 _ zs0))) (fun _ h9 => h9) (th_v0L hKp hI0 5 (mF 5 rfl) rfl (Nat.le_of_ble_eq_true rfl) rfl rfl) dX2_faultsOnTacks_76 ?_
            refine lv_aload_n hx hb dX2_faultsOnTacks_79 rfl (lv_at hl 2 rfl) ?_
            have i31 : 0 ≤ (xi (E 5) 8).toInt ∧ (xi (E 5) 8).toInt ≤ 255 := hI0.iv 5 (mF 5 rfl) rfl (Nat.le_of_ble_eq_true rfl) rfl
            refine th_getL (ci := 3) (C := RX2) (T := TX2) (N := 10) (v := .int (xi (E 5) 8)) hx hb hts hinX2 hown hK hP hI 5 (mF 5 rfl) rfl rfl 8 (Nat.le_of_ble_eq_true rfl) (hts _ (vA_in _ _ (in_15 _ (zs1 (zs0))))) (fun _ h9 => h9) (th_v0L hKp hI0 5 (mF 5 rfl) rfl (Nat.le_of_ble_eq_true rfl) rfl rfl) dX2_faultsOnTacks_80 ?_
            refine th_iL (va_runV (As := [.int (xi (E 5) 7), .int (xi (E 5) 8)]) (rest := [.int v4_1]) ⟨hx, hb, hml, hown, hts⟩ (q_worthIn l dC dI cT cf hC ad E28 H.size (xi (E 5) 7) (xi (E 5) 8) hI i30 (by omega)) (cwV 2 hts (gi_V (in_16 _ (zs16 (zs4 (zs4 (zs1 (zs0)))))) (in_16 _ (zs16 (zs4 (zs4 (zs1 (zs1 (zs0))))))) (in_16 _ (zs16 (zs4 (zs4 (zs1 (zs1 (zs1 (zs0)))))))) (in_5 _ (zs4 (zs1 (zs1 (zs0))))) (in_7 _ (zs16 (zs4 (zs4 (zs4 (zs0))))))) rfl rfl rfl ⟨rfl, hz_yX0_worthIn_2⟩ ⟨Nat.le_of_ble_eq_true rfl, Nat.le_of_ble_eq_true rfl⟩) ⟨HWL_bl, va_recv hK hP (ci := 1) (q0 := posL 1 (LC cf)) rfl (hI.ob 1 (mF 1 rfl) rfl), (HWL_wi hP hK (WL_D hD) hS hA hEV)⟩ rfl rfl hl.1 rfl (lv_room (Nat.le_of_ble_eq_true rfl)) dX2_faultsOnTacks_83 ⟨Nat.le_of_ble_eq_true rfl, Nat.le_of_ble_eq_true rfl⟩) (WL_D hD) hS hA (fun r32 E33 H locs hw hP hS => ?_)
            obtain ⟨hI, kq34, hw⟩ := hw
            have hKb := hKp
            have hKp := hKp.tr kq34 (wl_sub rfl rfl)
            refine lv_if_ne (tgt := 93) hx hb dX2_faultsOnTacks_86 (by decide) (fun c35 => ?_) (fun c35 => ?_)
            · --86 taken
              have t36 : ¬ r32.toInt = 0 := ti_ne c35
              refine lv_iconst (v := 2) hx hb dX2_faultsOnTacks_93 (by decide) ?_
              have z2 := ln_2
              refine lv_ior hx hb dX2_faultsOnTacks_94 ?_
              refine lv_topi (fun y37 ey37 => ?_)
              have iy37 : 0 ≤ y37.toInt ∧ y37.toInt ≤ 3 := ti_or3 ey37 (by omega) (by omega)
              refine lv_istore_n (lv' := [(1, .int y37), (2, .int v4_2), (0, .ref (ad 5))]) hx hb dX2_faultsOnTacks_95 rfl hl (by decide) rfl (fun ls hl => ?_)
              obtain ⟨y38, ey38⟩ : ∃ y : Int32, y = v4_2 + (1 : Int32) := ⟨_, rfl⟩
              obtain ⟨ty38, iy38⟩ := ti_add (e := 1) (f := 8) i5 ln_1 ey38 (by decide)
              have ty38 : y38.toInt = v4_2.toInt + 1 := ty38
              have iy38 : 1 ≤ y38.toInt ∧ y38.toInt ≤ 8 := iy38
              refine lv_iinc (v := y38) (lv' := [(2, .int y38), (1, .int y37), (0, .ref (ad 5))]) hx hb dX2_faultsOnTacks_96 hl (k := 1) rfl (by rw [ey38]; rfl) (by decide) rfl (fun ls hl => ?_)
              refine lv_goto (tgt := 4) hx hb dX2_faultsOnTacks_99 (by decide) ?_
              exact ih4 y38 y37 E33 _ _ _ (iv_w iy38 (by decide)) iy37 (by first | exact ms_su hx4_0 ty38 (by decide) | omega) hI hKp hP hS (lv_sub hl [0, 1, 2] rfl)
            · --86 not
              have t39 : r32.toInt = 0 := ti_eq c35
              have i40 : 0 ≤ r32.toInt ∧ r32.toInt ≤ 0 := iv_eqi t39 (iv_all _) (il_ 0) (by decide)
              refine lv_iconst (v := 1) hx hb dX2_faultsOnTacks_89 (by decide) ?_
              refine lv_goto (tgt := 94) hx hb dX2_faultsOnTacks_90 (by decide) ?_
              have z1 := ln_1
              refine lv_ior hx hb dX2_faultsOnTacks_94 ?_
              refine lv_topi (fun y41 ey41 => ?_)
              have iy41 : 0 ≤ y41.toInt ∧ y41.toInt ≤ 3 := ti_or3 ey41 (by omega) (by omega)
              refine lv_istore_n (lv' := [(1, .int y41), (2, .int v4_2), (0, .ref (ad 5))]) hx hb dX2_faultsOnTacks_95 rfl hl (by decide) rfl (fun ls hl => ?_)
              obtain ⟨y42, ey42⟩ : ∃ y : Int32, y = v4_2 + (1 : Int32) := ⟨_, rfl⟩
              obtain ⟨ty42, iy42⟩ := ti_add (e := 1) (f := 8) i5 ln_1 ey42 (by decide)
              have ty42 : y42.toInt = v4_2.toInt + 1 := ty42
              have iy42 : 1 ≤ y42.toInt ∧ y42.toInt ≤ 8 := iy42
              refine lv_iinc (v := y42) (lv' := [(2, .int y42), (1, .int y41), (0, .ref (ad 5))]) hx hb dX2_faultsOnTacks_96 hl (k := 1) rfl (by rw [ey42]; rfl) (by decide) rfl (fun ls hl => ?_)
              refine lv_goto (tgt := 4) hx hb dX2_faultsOnTacks_99 (by decide) ?_
              exact ih4 y42 y41 E33 _ _ _ (iv_w iy42 (by decide)) iy41 (by first | exact ms_su hx4_0 ty42 (by decide) | omega) hI hKp hP hS (lv_sub hl [0, 1, 2] rfl)
          · --23 not
            have t43 : y13.toInt = 0 := ti_eq c14
            have i44 : 0 ≤ y13.toInt ∧ y13.toInt ≤ 0 := iv_eqi t43 iy13 (il_ 0) (by decide)
            refine lv_goto (tgt := 96) hx hb dX2_faultsOnTacks_26 (by decide) ?_
            obtain ⟨y45, ey45⟩ : ∃ y : Int32, y = v4_2 + (1 : Int32) := ⟨_, rfl⟩
            obtain ⟨ty45, iy45⟩ := ti_add (e := 1) (f := 8) i5 ln_1 ey45 (by decide)
            have ty45 : y45.toInt = v4_2.toInt + 1 := ty45
            have iy45 : 1 ≤ y45.toInt ∧ y45.toInt ≤ 8 := iy45
            refine lv_iinc (v := y45) (lv' := [(2, .int y45), (1, .int v4_1), (0, .ref (ad 5))]) hx hb dX2_faultsOnTacks_96 hl (k := 0) rfl (by rw [ey45]; rfl) (by decide) rfl (fun ls hl => ?_)
            refine lv_goto (tgt := 4) hx hb dX2_faultsOnTacks_99 (by decide) ?_
            exact ih4 y45 v4_1 E4_ _ _ _ (iv_w iy45 (by decide)) (iv_w i10 (by decide)) (by first | exact ms_su hx4_0 ty45 (by decide) | omega) hI hKp hP hS (lv_sub hl [0, 1, 2] rfl)
  exact hL4 (9) (0 : Int32) (0 : Int32) E _ _ _ (iv_w ln_0 (by decide)) (iv_w ln_0 (by decide)) (by have h9 := ln_0; first | exact ms_bu h9.1 (by decide) | omega) hI hKp hP hS (lv_sub hl [0, 1, 2] rfl)
def v_faultsFrom : List Cond := .code yX2_faultsFrom cX2_faultsFrom 7 (some .int) :: vA
abbrev rm_faultsFrom : Room := { frames := 5, cells := 0, slots := 0, locals := 200 }
def w_faultsFrom : Nat → Nat → Bool := wl [19, 20] []
set_option maxHeartbeats 4000000 in
set_option maxRecDepth 100000 in
theorem q_faultsFrom (l : Launch) (dC : Nat → ClassId) (dI : Nat → Nat → Nat) (cT : Nat → ClassId) (cf : Nat → Nat) (hC : CF cf) (ad : Nat → Nat) (E : Nat → va_E) (sz : Nat) (a0 : Int32) (a1 : Int32) (ri : Nat) (hI0 : IXL cT (shC cf) (spC cf) (LC cf) ad E) (hh0 : ri < cf 2) (hh1 : xv (E 5) 6 = .ref (ad (64 * (ri + 1) + 6))) (hh2 : (xi (E 5) 7).toInt < ((cf 1 : Nat) : Int)) (hh3 : 0 ≤ a0.toInt ∧ a0.toInt ≤ 99) (hh4 : 0 ≤ a1.toInt ∧ a1.toInt ≤ 99) : Met l yX2_faultsFrom v_faultsFrom rm_faultsFrom (va_Pc [.ref (ad 5), .int a0, .int a1] (HWL dC dI (TYC cT) cf ad E sz)) (va_Qi (S := Nat → va_E) (fun r u => IXL cT (shC cf) (spC cf) (LC cf) ad u ∧ Kp w_faultsFrom E u ∧ (True)) (HBL dC dI (LC cf) ad) (va_A (WL (LC cf) ad E) sz)) 0 0 (va_A (WL (LC cf) ad E) sz) := by
  obtain ⟨⟨hc0, hc1, hc2, hc3, hc4, hc5⟩, hcr⟩ := id hC
  refine Met.ofW (cc := cX2_faultsFrom) (maxL := 7) (ret := (some .int)) (by decide) rfl ?_
  intro p e s m args below meth c s₁ B hml hv
  obtain ⟨hargs, hsz, hP, hK, hD0, hEV⟩ := hv
  subst hsz
  have hx := B.exec
  have hb := B.bytes
  have hr := B.returns
  have hts := atoms_spec (ws := v_faultsFrom) B.pre
  have hown : s.vm.findClass RX2 = some m.cls := findClass_of_methodNamed B.named
  have hlocks := B.notSynchronized
  have hinX0 : ∀ w ∈ u_ws RX0 TX0 11, w ∈ v_faultsFrom := fun w h => vA_in _ w (in_X0 w h)
  have hinX2 : ∀ w ∈ u_ws RX2 TX2 10, w ∈ v_faultsFrom := fun w h => vA_in _ w (in_X2 w h)
  have hinX5 : ∀ w ∈ u_ws RX5 TX5 12, w ∈ v_faultsFrom := fun w h => vA_in _ w (in_X5 w h)
  generalize hAe : va_A (WL (LC cf) ad E) s.heap.size = A at hEV ⊢
  have hA : ∀ q : Nat, s.heap.size ≤ q → A q := fun q h => by rw [← hAe]; exact Or.inr h
  have hD : va_D A (WL (LC cf) ad E) := by rw [← hAe]; exact hD0.self
  have hS : va_S A s.heap s.heap [] := va_S.rf
  have hI := hI0
  have hKp : Kp w_faultsFrom E E := Kp.rf
  have hl := lv_entry ([.ref (ad 5), .int a0, .int a1]) (n := 7) (Nat.le_of_ble_eq_true rfl)
  obtain ⟨Q, hQ⟩ : ∃ Q, Q = MQ below (va_Qi (S := Nat → va_E) (fun r u => IXL cT (shC cf) (spC cf) (LC cf) ad u ∧ Kp w_faultsFrom E u ∧ (True)) (HBL dC dI (LC cf) ad) (A)) args s 0 0 (A) := ⟨_, rfl⟩
  rw [← hQ, show entryFrame m args 7 = _ from (congrArg (fun z => entryFrame m z 7) hargs).trans (lg_entry_eq _ _ _)]
  generalize (lg_sl ([.ref (ad 5), .int a0, .int a1]) ++ List.replicate (7 - (lg_sl ([.ref (ad 5), .int a0, .int a1])).length) Slot.unset).toArray = ls at hl ⊢
  have hl : lv_has ls 7 [(0, .ref (ad 5)), (1, .int a0), (2, .int a1)] := hl
  refine lv_iconst (v := 0) hx hb dX2_faultsFrom_0 (by decide) ?_
  refine lv_istore_n (lv' := [(3, .int 0), (0, .ref (ad 5)), (1, .int a0), (2, .int a1)]) hx hb dX2_faultsFrom_1 rfl hl (by decide) rfl (fun ls hl => ?_)
  refine lv_aload_n hx hb dX2_faultsFrom_2 rfl (lv_at hl 1 rfl) ?_
  refine th_getL (ci := 3) (C := RX2) (T := TX2) (N := 10) (v := .ref (ad 38)) hx hb hts hinX2 hown hK hP hI 5 (mF 5 rfl) rfl rfl 1 (Nat.le_of_ble_eq_true rfl) (hts _ (vA_in _ _ (in_15 _ (zs1 (zs1 (zs0)))))) (fun _ h9 => h9) (hI.fr 5 (mF 5 rfl) rfl (Nat.le_of_ble_eq_true rfl) 38 rfl) dX2_faultsFrom_3 ?_
  refine lv_iconst (v := 1) hx hb dX2_faultsFrom_6 (by decide) ?_
  have n2 : vp_in (1 : Int32) 2 := (iv_in (n := 2) ln_1 (by decide))
  refine th_ialdL hx hb hK hP hI 38 (mF 38 rfl) rfl rfl n2 dX2_faultsFrom_7 (fun y1 ey1 => ?_)
  have iy1 : 0 ≤ y1.toInt ∧ y1.toInt ≤ 99 := hI.el 38 (mF 38 rfl) rfl n2 (fun _ => rfl) ey1
  have ey1 := ey1.trans (hKp.ei 38 _ rfl)
  refine lv_istore (lv' := [(4, .int y1), (3, .int 0), (0, .ref (ad 5)), (1, .int a0), (2, .int a1)]) hx hb dX2_faultsFrom_8 hl (by decide) rfl (fun ls hl => ?_)
  have hL10 : ∀ d : Nat, ∀ (v10_4 : Int32) (v10_3 : Int32) (E10_ : Nat → va_E) (H : Heap) (locs : List Loc) (ls : Array Slot), 0 ≤ v10_4.toInt ∧ v10_4.toInt ≤ 100 → 100 - v10_4.toInt < (d : Int) → IXL cT (shC cf) (spC cf) (LC cf) ad E10_ → Kp w_faultsFrom E E10_ → va_P (dC, dI) vwCl (WL (LC cf) ad E10_) H → va_S A s.heap H locs → lv_has ls 7 [(4, .int v10_4), (3, .int v10_3), (0, .ref (ad 5)), (1, .int a0), (2, .int a1)] → W p l e (headSpec v_faultsFrom rm_faultsFrom).room s m args below meth c H locs 0 0 Q (F0 m 10 ls []) := by
    intro d
    induction d with
    | zero =>
      intro v10_4 v10_3 E10_ H locs ls hv10_4 hx10_0 hI hKp hP hS hl
      exact absurd hx10_0 (by first | exact ms_zu hv10_4.2 | omega)
    | succ d ih10 =>
      intro v10_4 v10_3 E10_ H locs ls hv10_4 hx10_0 hI hKp hP hS hl
      refine lv_iload hx hb dX2_faultsFrom_10 (lv_at hl 0 rfl) ?_
      refine lv_aload_n hx hb dX2_faultsFrom_12 rfl (lv_at hl 2 rfl) ?_
      refine th_getL (ci := 3) (C := RX2) (T := TX2) (N := 10) (v := .ref (ad 39)) hx hb hts hinX2 hown hK hP hI 5 (mF 5 rfl) rfl rfl 2 (Nat.le_of_ble_eq_true rfl) (hts _ (vA_in _ _ (in_15 _ (zs1 (zs1 (zs1 (zs0))))))) (fun _ h9 => h9) (hI.fr 5 (mF 5 rfl) rfl (Nat.le_of_ble_eq_true rfl) 39 rfl) dX2_faultsFrom_13 ?_
      refine lv_iconst (v := 1) hx hb dX2_faultsFrom_16 (by decide) ?_
      have n4 : vp_in (1 : Int32) 2 := (iv_in (n := 2) ln_1 (by decide))
      refine th_ialdL hx hb hK hP hI 39 (mF 39 rfl) rfl rfl n4 dX2_faultsFrom_17 (fun y3 ey3 => ?_)
      have iy3 : 0 ≤ y3.toInt ∧ y3.toInt ≤ 99 := hI.el 39 (mF 39 rfl) rfl n4 (fun _ => rfl) ey3
      have ey3 := ey3.trans (hKp.ei 39 _ rfl)
      refine lv_icmp_gt (tgt := 209) hx hb dX2_faultsFrom_18 (by decide) (fun c5 => ?_) (fun c5 => ?_)
      · --18 taken
        have t6 : y3.toInt < v10_4.toInt := ti_lt c5
        have i7 : 1 ≤ v10_4.toInt ∧ v10_4.toInt ≤ 100 := iv_lt_r t6 iy3 hv10_4 (by decide)
        refine lv_iload_n hx hb dX2_faultsFrom_209 rfl (lv_at hl 1 rfl) ?_
        rw [hQ]
        exact W.iret (v := v10_3) hx hb hr (fun t ht hW => ⟨⟨v10_3, E10_, rfl, ⟨hI, hKp, trivial⟩, by show va_P (dC, dI) vwCl (WL (LC cf) ad E10_) t.heap; rw [ht]; exact hP⟩, hS.F ht⟩) hS.2.2 dX2_faultsFrom_210
      · --18 not
        have t8 : v10_4.toInt ≤ y3.toInt := ti_nlt c5
        have i9 : 0 ≤ v10_4.toInt ∧ v10_4.toInt ≤ 99 := iv_le_l t8 hv10_4 iy3 (by decide)
        refine lv_iload_n hx hb dX2_faultsFrom_21 rfl (lv_at hl 1 rfl) ?_
        refine lv_iconst (v := 3) hx hb dX2_faultsFrom_22 (by decide) ?_
        refine lv_icmp_eq (tgt := 209) hx hb dX2_faultsFrom_23 (by decide) (fun c10 => ?_) (fun c10 => ?_)
        · --23 taken
          have t11 : v10_3.toInt = 3 := ti_eq c10
          have i12 : 3 ≤ v10_3.toInt ∧ v10_3.toInt ≤ 3 := iv_eqi t11 (iv_all _) (il_ 3) (by decide)
          refine lv_iload_n hx hb dX2_faultsFrom_209 rfl (lv_at hl 1 rfl) ?_
          rw [hQ]
          exact W.iret (v := v10_3) hx hb hr (fun t ht hW => ⟨⟨v10_3, E10_, rfl, ⟨hI, hKp, trivial⟩, by show va_P (dC, dI) vwCl (WL (LC cf) ad E10_) t.heap; rw [ht]; exact hP⟩, hS.F ht⟩) hS.2.2 dX2_faultsFrom_210
        · --23 not
          have t13 : ¬ v10_3.toInt = 3 := ti_ne c10
          refine lv_aload_n hx hb dX2_faultsFrom_26 rfl (lv_at hl 2 rfl) ?_
          refine th_getL (ci := 3) (C := RX2) (T := TX2) (N := 10) (v := .ref (ad 40)) hx hb hts hinX2 hown hK hP hI 5 (mF 5 rfl) rfl rfl 3 (Nat.le_of_ble_eq_true rfl) (hts _ (vA_in _ _ (in_15 _ (zs4 (zs0))))) (fun _ h9 => h9) (hI.fr 5 (mF 5 rfl) rfl (Nat.le_of_ble_eq_true rfl) 40 rfl) dX2_faultsFrom_27 ?_
          refine lv_iconst (v := 1) hx hb dX2_faultsFrom_30 (by decide) ?_
          have n15 : vp_in (1 : Int32) 2 := (iv_in (n := 2) ln_1 (by decide))
          refine th_ialdL hx hb hK hP hI 40 (mF 40 rfl) rfl rfl n15 dX2_faultsFrom_31 (fun y14 ey14 => ?_)
          have iy14 : 0 ≤ y14.toInt ∧ y14.toInt ≤ 99 := hI.el 40 (mF 40 rfl) rfl n15 (fun _ => rfl) ey14
          have ey14 := ey14.trans (hKp.ei 40 _ rfl)
          refine lv_istore (lv' := [(5, .int y14), (4, .int v10_4), (3, .int v10_3), (0, .ref (ad 5)), (1, .int a0), (2, .int a1)]) hx hb dX2_faultsFrom_32 hl (by decide) rfl (fun ls hl => ?_)
          have hL34 : ∀ d : Nat, ∀ (v34_5 : Int32) (v34_3 : Int32) (E34_ : Nat → va_E) (H : Heap) (locs : List Loc) (ls : Array Slot), 0 ≤ v34_5.toInt ∧ v34_5.toInt ≤ 100 → 100 - v34_5.toInt < (d : Int) → IXL cT (shC cf) (spC cf) (LC cf) ad E34_ → Kp w_faultsFrom E E34_ → va_P (dC, dI) vwCl (WL (LC cf) ad E34_) H → va_S A s.heap H locs → lv_has ls 7 [(5, .int v34_5), (4, .int v10_4), (3, .int v34_3), (0, .ref (ad 5)), (1, .int a0), (2, .int a1)] → W p l e (headSpec v_faultsFrom rm_faultsFrom).room s m args below meth c H locs 0 0 Q (F0 m 34 ls []) := by
            intro d
            induction d with
            | zero =>
              intro v34_5 v34_3 E34_ H locs ls hv34_5 hx34_0 hI hKp hP hS hl
              exact absurd hx34_0 (by first | exact ms_zu hv34_5.2 | omega)
            | succ d ih34 =>
              intro v34_5 v34_3 E34_ H locs ls hv34_5 hx34_0 hI hKp hP hS hl
              refine lv_iload hx hb dX2_faultsFrom_34 (lv_at hl 0 rfl) ?_
              refine lv_aload_n hx hb dX2_faultsFrom_36 rfl (lv_at hl 3 rfl) ?_
              refine th_getL (ci := 3) (C := RX2) (T := TX2) (N := 10) (v := .ref (ad 41)) hx hb hts hinX2 hown hK hP hI 5 (mF 5 rfl) rfl rfl 4 (Nat.le_of_ble_eq_true rfl) (hts _ (vA_in _ _ (in_15 _ (zs4 (zs1 (zs0)))))) (fun _ h9 => h9) (hI.fr 5 (mF 5 rfl) rfl (Nat.le_of_ble_eq_true rfl) 41 rfl) dX2_faultsFrom_37 ?_
              refine lv_iconst (v := 1) hx hb dX2_faultsFrom_40 (by decide) ?_
              have n17 : vp_in (1 : Int32) 2 := (iv_in (n := 2) ln_1 (by decide))
              refine th_ialdL hx hb hK hP hI 41 (mF 41 rfl) rfl rfl n17 dX2_faultsFrom_41 (fun y16 ey16 => ?_)
              have iy16 : 0 ≤ y16.toInt ∧ y16.toInt ≤ 99 := hI.el 41 (mF 41 rfl) rfl n17 (fun _ => rfl) ey16
              have ey16 := ey16.trans (hKp.ei 41 _ rfl)
              refine lv_icmp_gt (tgt := 203) hx hb dX2_faultsFrom_42 (by decide) (fun c18 => ?_) (fun c18 => ?_)
              · --42 taken
                have t19 : y16.toInt < v34_5.toInt := ti_lt c18
                have i20 : 1 ≤ v34_5.toInt ∧ v34_5.toInt ≤ 100 := iv_lt_r t19 iy16 hv34_5 (by decide)
                obtain ⟨y21, ey21⟩ : ∃ y : Int32, y = v10_4 + (1 : Int32) := ⟨_, rfl⟩
                obtain ⟨ty21, iy21⟩ := ti_add (e := 1) (f := 100) i9 ln_1 ey21 (by decide)
                have ty21 : y21.toInt = v10_4.toInt + 1 := ty21
                have iy21 : 1 ≤ y21.toInt ∧ y21.toInt ≤ 100 := iy21
                refine lv_iinc (v := y21) (lv' := [(4, .int y21), (5, .int v34_5), (3, .int v34_3), (0, .ref (ad 5)), (1, .int a0), (2, .int a1)]) hx hb dX2_faultsFrom_203 hl (k := 1) rfl (by rw [ey21]; rfl) (by decide) rfl (fun ls hl => ?_)
                refine lv_goto (tgt := 10) hx hb dX2_faultsFrom_206 (by decide) ?_
                exact ih10 y21 v34_3 E34_ _ _ _ (iv_w iy21 (by decide)) (by first | exact ms_su hx10_0 ty21 (by decide) | omega) hI hKp hP hS (lv_sub hl [0, 2, 3, 4, 5] rfl)
              · --42 not
                have t22 : v34_5.toInt ≤ y16.toInt := ti_nlt c18
                have i23 : 0 ≤ v34_5.toInt ∧ v34_5.toInt ≤ 99 := iv_le_l t22 hv34_5 iy16 (by decide)
                refine lv_iload_n hx hb dX2_faultsFrom_45 rfl (lv_at hl 2 rfl) ?_
                refine lv_iconst (v := 3) hx hb dX2_faultsFrom_46 (by decide) ?_
                refine lv_icmp_eq (tgt := 203) hx hb dX2_faultsFrom_47 (by decide) (fun c24 => ?_) (fun c24 => ?_)
                · --47 taken
                  have t25 : v34_3.toInt = 3 := ti_eq c24
                  have i26 : 3 ≤ v34_3.toInt ∧ v34_3.toInt ≤ 3 := iv_eqi t25 (iv_all _) (il_ 3) (by decide)
                  obtain ⟨y27, ey27⟩ : ∃ y : Int32, y = v10_4 + (1 : Int32) := ⟨_, rfl⟩
                  obtain ⟨ty27, iy27⟩ := ti_add (e := 1) (f := 100) i9 ln_1 ey27 (by decide)
                  have ty27 : y27.toInt = v10_4.toInt + 1 := ty27
                  have iy27 : 1 ≤ y27.toInt ∧ y27.toInt ≤ 100 := iy27
                  refine lv_iinc (v := y27) (lv' := [(4, .int y27), (5, .int v34_5), (3, .int v34_3), (0, .ref (ad 5)), (1, .int a0), (2, .int a1)]) hx hb dX2_faultsFrom_203 hl (k := 1) rfl (by rw [ey27]; rfl) (by decide) rfl (fun ls hl => ?_)
                  refine lv_goto (tgt := 10) hx hb dX2_faultsFrom_206 (by decide) ?_
                  exact ih10 y27 v34_3 E34_ _ _ _ (iv_w iy27 (by decide)) (by first | exact ms_su hx10_0 ty27 (by decide) | omega) hI hKp hP hS (lv_sub hl [0, 2, 3, 4, 5] rfl)
                · --47 not
                  have t28 : ¬ v34_3.toInt = 3 := ti_ne c24
                  refine lv_aload_n hx hb dX2_faultsFrom_50 rfl (lv_at hl 3 rfl) ?_
                  refine th_getL (ci := 3) (C := RX2) (T := TX2) (N := 10) (v := .ref (ad 1)) hx hb hts hinX2 hown hK hP hI 5 (mF 5 rfl) rfl rfl 0 (Nat.le_of_ble_eq_true rfl) (hts _ (vA_in _ _ (in_14 _ (zs16 (zs16 (zs1 (zs1 (zs0)))))))) (fun _ h9 => h9) (hI.fr 5 (mF 5 rfl) rfl (Nat.le_of_ble_eq_true rfl) 1 rfl) dX2_faultsFrom_51 ?_
                  refine th_vL (va_runV (As := []) (rest := []) ⟨hx, hb, hml, hown, hts⟩ (q_forget l dC dI cT cf hC ad E34_ H.size hI) (cwV 0 hts (gi_V (in_16 _ (zs16 (zs1 (zs0)))) (in_6 _ (zs16 (zs16 (zs4 (zs1 (zs0)))))) (in_6 _ (zs16 (zs16 (zs4 (zs1 (zs1 (zs0))))))) (in_5 _ (zs4 (zs1 (zs1 (zs0))))) (in_5 _ (zs16 (zs4 (zs1 (zs1 (zs1 (zs0)))))))) rfl rfl rfl ⟨rfl, hz_yX0_forgetLetters_0⟩ ⟨Nat.le_of_ble_eq_true rfl, Nat.le_of_ble_eq_true rfl⟩) ⟨HWL_bl, va_recv hK hP (ci := 1) (q0 := posL 1 (LC cf)) rfl (hI.ob 1 (mF 1 rfl) rfl), (HWL_wi hP hK (WL_D hD) hS hA hEV)⟩ rfl rfl hl.1 rfl (lv_room (Nat.le_of_ble_eq_true rfl)) dX2_faultsFrom_54 ⟨Nat.le_of_ble_eq_true rfl, Nat.le_of_ble_eq_true rfl⟩) (WL_D hD) hS hA (fun E30 H locs hw hP hS => ?_)
                  obtain ⟨hI, kq31, hw⟩ := hw
                  have hKb := hKp
                  have hKp := hKp.tr kq31 (wl_sub rfl rfl)
                  refine lv_iload_n hx hb dX2_faultsFrom_57 rfl (lv_at hl 4 rfl) ?_
                  refine lv_iload hx hb dX2_faultsFrom_58 (lv_at hl 1 rfl) ?_
                  refine lv_isub hx hb dX2_faultsFrom_60 ?_
                  refine lv_topi (fun y32 ey32 => ?_)
                  obtain ⟨ty32, iy32⟩ := ti_sub (e := (-99)) (f := 99) hh3 i9 ey32 (by decide)
                  have ty32 : y32.toInt = a0.toInt - v10_4.toInt := ty32
                  have iy32 : -99 ≤ y32.toInt ∧ y32.toInt ≤ 99 := iy32
                  obtain ⟨q33, hZq33, hTq33⟩ := hEV.2.2.1.1
                  have hSx := hS
                  refine va_getsN hx hb hZq33 hSx hown (va_Nw.use rfl hEV.1.2.1.1) (fun _ h9 => h9) dX2_faultsFrom_61 ?_
                  refine lv_aload_n hx hb dX2_faultsFrom_64 rfl (lv_at hl 3 rfl) ?_
                  refine th_getL (ci := 3) (C := RX2) (T := TX2) (N := 10) (v := .ref (ad (64 * (ri + 1) + 6))) hx hb hts hinX2 hown hK hP hI 5 (mF 5 rfl) rfl rfl 6 (Nat.le_of_ble_eq_true rfl) (hts _ (vA_in _ _ (in_14 _ (zs16 (zs16 (zs4 (zs1 (zs1 (zs0))))))))) (fun _ h9 => h9) ((hKp 5 6 rfl).trans hh1) dX2_faultsFrom_65 ?_
                  have i34 : 0 ≤ (xi (E (64 * (ri + 1) + 6)) 4).toInt ∧ (xi (E (64 * (ri + 1) + 6)) 4).toInt ≤ 7 := hI0.iv (64 * (ri + 1) + 6) (mP 6 ri (by decide) hh0 (kl_le hC 2 (by decide))) (shC_p 6 ri (by decide)) (Nat.le_of_ble_eq_true rfl) (spC_p 6 ri (by decide) 4)
                  refine th_getL (ci := 6) (C := RX5) (T := TX5) (N := 12) (v := .int (xi (E (64 * (ri + 1) + 6)) 4)) hx hb hts hinX5 hown hK hP hI (64 * (ri + 1) + 6) (mP 6 ri (by decide) hh0 (kl_le hC 2 (by decide))) (shC_p 6 ri (by decide)) rfl 4 (Nat.le_of_ble_eq_true rfl) (hts _ (vA_in _ _ (in_16 _ (zs4 (zs4 (zs1 (zs0))))))) (fun _ h9 => h9) (th_v0L hKp hI0 (64 * (ri + 1) + 6) (mP 6 ri (by decide) hh0 (kl_le hC 2 (by decide))) (shC_p 6 ri (by decide)) (Nat.le_of_ble_eq_true rfl) (spC_p 6 ri (by decide) 4) (wl_p rfl rfl (by omega))) dX2_faultsFrom_68 ?_
                  refine va_ti hx hb hTq33 hSx (i := (xi (E (64 * (ri + 1) + 6)) 4)) (iv_in (n := 8) i34 (by decide)) rfl dX2_faultsFrom_71 ?_
                  refine lv_topi (fun y35 ey35 => ?_)
                  have iy35 : -1 ≤ y35.toInt ∧ y35.toInt ≤ 1 := by rw [ey35]; exact tSX_iv _
                  refine lv_imul hx hb dX2_faultsFrom_72 ?_
                  refine lv_topi (fun y36 ey36 => ?_)
                  obtain ⟨ty36, iy36⟩ := ti_mul (e := (-99)) (f := 99) iy32 iy35 ey36 (by decide)
                  have ty36 : y36.toInt = y32.toInt * y35.toInt := ty36
                  have iy36 : -99 ≤ y36.toInt ∧ y36.toInt ≤ 99 := iy36
                  refine lv_iload_n hx hb dX2_faultsFrom_73 rfl (lv_at hl 5 rfl) ?_
                  refine lv_iload hx hb dX2_faultsFrom_74 (lv_at hl 0 rfl) ?_
                  refine lv_isub hx hb dX2_faultsFrom_76 ?_
                  refine lv_topi (fun y37 ey37 => ?_)
                  obtain ⟨ty37, iy37⟩ := ti_sub (e := (-99)) (f := 99) hh4 i23 ey37 (by decide)
                  have ty37 : y37.toInt = a1.toInt - v34_5.toInt := ty37
                  have iy37 : -99 ≤ y37.toInt ∧ y37.toInt ≤ 99 := iy37
                  obtain ⟨q38, hZq38, hTq38⟩ := hEV.2.2.1.2
                  have hSx := hS
                  refine va_getsN hx hb hZq38 hSx hown (va_Nw.use rfl hEV.1.2.1.2) (fun _ h9 => h9) dX2_faultsFrom_77 ?_
                  refine lv_aload_n hx hb dX2_faultsFrom_80 rfl (lv_at hl 3 rfl) ?_
                  refine th_getL (ci := 3) (C := RX2) (T := TX2) (N := 10) (v := .ref (ad (64 * (ri + 1) + 6))) hx hb hts hinX2 hown hK hP hI 5 (mF 5 rfl) rfl rfl 6 (Nat.le_of_ble_eq_true rfl) (hts _ (vA_in _ _ (in_14 _ (zs16 (zs16 (zs4 (zs1 (zs1 (zs0))))))))) (fun _ h9 => h9) ((hKp 5 6 rfl).trans hh1) dX2_faultsFrom_81 ?_
                  refine th_getL (ci := 6) (C := RX5) (T := TX5) (N := 12) (v := .int (xi (E (64 * (ri + 1) + 6)) 4)) hx hb hts hinX5 hown hK hP hI (64 * (ri + 1) + 6) (mP 6 ri (by decide) hh0 (kl_le hC 2 (by decide))) (shC_p 6 ri (by decide)) rfl 4 (Nat.le_of_ble_eq_true rfl) (hts _ (vA_in _ _ (in_16 _ (zs4 (zs4 (zs1 (zs0))))))) (fun _ h9 => h9) (th_v0L hKp hI0 (64 * (ri + 1) + 6) (mP 6 ri (by decide) hh0 (kl_le hC 2 (by decide))) (shC_p 6 ri (by decide)) (Nat.le_of_ble_eq_true rfl) (spC_p 6 ri (by decide) 4) (wl_p rfl rfl (by omega))) dX2_faultsFrom_84 ?_
                  refine va_ti hx hb hTq38 hSx (i := (xi (E (64 * (ri + 1) + 6)) 4)) (iv_in (n := 8) i34 (by decide)) rfl dX2_faultsFrom_87 ?_
                  refine lv_topi (fun y39 ey39 => ?_)
                  have iy39 : -1 ≤ y39.toInt ∧ y39.toInt ≤ 1 := by rw [ey39]; exact tSY_iv _
                  refine lv_imul hx hb dX2_faultsFrom_88 ?_
                  refine lv_topi (fun y40 ey40 => ?_)
                  obtain ⟨ty40, iy40⟩ := ti_mul (e := (-99)) (f := 99) iy37 iy39 ey40 (by decide)
                  have ty40 : y40.toInt = y37.toInt * y39.toInt := ty40
                  have iy40 : -99 ≤ y40.toInt ∧ y40.toInt ≤ 99 := iy40
                  refine lv_iadd hx hb dX2_faultsFrom_89 ?_
                  refine lv_topi (fun y41 ey41 => ?_)
                  obtain ⟨ty41, iy41⟩ := ti_add (e := (-198)) (f := 198) iy36 iy40 ey41 (by decide)
                  have ty41 : y41.toInt = y36.toInt + y40.toInt := ty41
                  have iy41 : -198 ≤ y41.toInt ∧ y41.toInt ≤ 198 := iy41
                  refine lv_istore (lv' := [(6, .int y41), (5, .int v34_5), (4, .int v10_4), (3, .int v34_3), (0, .ref (ad 5)), (1, .int a0), (2, .int a1)]) hx hb dX2_faultsFrom_90 hl (by decide) rfl (fun ls hl => ?_)
                  refine lv_aload_n hx hb dX2_faultsFrom_92 rfl (lv_at hl 4 rfl) ?_
                  refine th_getL (ci := 3) (C := RX2) (T := TX2) (N := 10) (v := .ref (ad 1)) hx hb hts hinX2 hown hK hP hI 5 (mF 5 rfl) rfl rfl 0 (Nat.le_of_ble_eq_true rfl) (hts _ (vA_in _ _ (in_14 _ (zs16 (zs16 (zs1 (zs1 (zs0)))))))) (fun _ h9 => h9) (hI.fr 5 (mF 5 rfl) rfl (Nat.le_of_ble_eq_true rfl) 1 rfl) dX2_faultsFrom_93 ?_
                  refine th_getL (ci := 1) (C := RX0) (T := TX0) (N := 11) (v := .ref (ad 19)) hx hb hts hinX0 hown hK hP hI 1 (mF 1 rfl) rfl rfl 9 (Nat.le_of_ble_eq_true rfl) (hts _ (vA_in _ _ (in_16 _ (zs4 (zs4 (zs4 (zs1 (zs1 (zs0))))))))) (fun _ h9 => h9) (hI.fr 1 (mF 1 rfl) rfl (Nat.le_of_ble_eq_true rfl) 19 rfl) dX2_faultsFrom_96 ?_
                  refine lv_bipush (v := 8) hx hb dX2_faultsFrom_99 (by decide) ?_
                  refine lv_iload_n hx hb dX2_faultsFrom_101 rfl (lv_at hl 5 rfl) ?_
                  refine lv_iload_n hx hb dX2_faultsFrom_102 rfl (lv_at hl 6 rfl) ?_
                  refine lv_iload hx hb dX2_faultsFrom_103 (lv_at hl 2 rfl) ?_
                  refine lv_iload hx hb dX2_faultsFrom_105 (lv_at hl 1 rfl) ?_
                  refine th_pi (va_runS (As := [.int a0, .int a1, .int v10_4, .int v34_5]) (rest := [.int 8, .ref (ad 19)]) ⟨hx, hb, hml, hown, hts⟩ (q_cfar l a0 a1 v10_4 v34_5) (va_cwS 4 hts (gi_S (in_16 _ (zs16 (zs1 (zs1 (zs0))))) (in_16 _ (zs16 (zs1 (zs1 (zs1 (zs0)))))) (in_14 _ (zs16 (zs16 (zs0)))) (in_16 _ (zs16 (zs4 (zs0))))) rfl rfl rfl hz_yX2_far_4 ⟨Nat.le_of_ble_eq_true rfl, Nat.le_of_ble_eq_true rfl⟩) ⟨fun a U g mk q => ⟨q.1, NXc_c q.2⟩, fun U hU hW => ⟨rfl, NXc_w hW hEV.1⟩⟩ rfl rfl hl.1 rfl (lv_room (Nat.le_of_ble_eq_true rfl)) dX2_faultsFrom_107 ⟨Nat.le_of_ble_eq_true rfl, Nat.le_of_ble_eq_true rfl⟩) hS (fun r42 H1 locs1 hw hk1 hS => ?_)
                  have hP := ub_keep hP hk1
                  generalize H1 = H at hP hS ⊢
                  generalize locs1 = locs at hS ⊢
                  have n43 : vp_in (8 : Int32) 14 := (iv_in (n := 14) ln_8 (by decide))
                  refine th_iastL hx hb hK hP (WL_D hD) hS hI 19 (mF 19 rfl) rfl rfl n43 (okI rfl (iv_all _)) dX2_faultsFrom_110 (fun H locs E44 pw45 hI hP hS => ?_)
                  have hKp := hKp.pw pw45 rfl
                  refine lv_aload_n hx hb dX2_faultsFrom_111 rfl (lv_at hl 4 rfl) ?_
                  refine th_getL (ci := 3) (C := RX2) (T := TX2) (N := 10) (v := .ref (ad 1)) hx hb hts hinX2 hown hK hP hI 5 (mF 5 rfl) rfl rfl 0 (Nat.le_of_ble_eq_true rfl) (hts _ (vA_in _ _ (in_14 _ (zs16 (zs16 (zs1 (zs1 (zs0)))))))) (fun _ h9 => h9) (hI.fr 5 (mF 5 rfl) rfl (Nat.le_of_ble_eq_true rfl) 1 rfl) dX2_faultsFrom_112 ?_
                  refine th_getL (ci := 1) (C := RX0) (T := TX0) (N := 11) (v := .ref (ad 19)) hx hb hts hinX0 hown hK hP hI 1 (mF 1 rfl) rfl rfl 9 (Nat.le_of_ble_eq_true rfl) (hts _ (vA_in _ _ (in_16 _ (zs4 (zs4 (zs4 (zs1 (zs1 (zs0))))))))) (fun _ h9 => h9) (hI.fr 1 (mF 1 rfl) rfl (Nat.le_of_ble_eq_true rfl) 19 rfl) dX2_faultsFrom_115 ?_
                  refine lv_bipush (v := 11) hx hb dX2_faultsFrom_118 (by decide) ?_
                  refine lv_iload hx hb dX2_faultsFrom_120 (lv_at hl 0 rfl) ?_
                  have hJ130 : ∀ (s130_0 : Int32) (H : Heap) (locs : List Loc) (ls : Array Slot), 0 ≤ s130_0.toInt ∧ s130_0.toInt ≤ 1 → va_P (dC, dI) vwCl (WL (LC cf) ad E44) H → va_S A s.heap H locs → lv_has ls 7 [(6, .int y41), (5, .int v34_5), (4, .int v10_4), (3, .int v34_3), (0, .ref (ad 5)), (1, .int a0), (2, .int a1)] → W p l e (headSpec v_faultsFrom rm_faultsFrom).room s m args below meth c H locs 0 0 Q (F0 m 130 ls [.int s130_0, .int 11, .ref (ad 19)]) := by
                    intro s130_0 H locs ls hs130_0 hP hS hl
                    have n46 : vp_in (11 : Int32) 14 := (iv_in (n := 14) ln_11 (by decide))
                    refine th_iastL hx hb hK hP (WL_D hD) hS hI 19 (mF 19 rfl) rfl rfl n46 (okI rfl (iv_w hs130_0 (by decide))) dX2_faultsFrom_130 (fun H locs E47 pw48 hI hP hS => ?_)
                    have hKp := hKp.pw pw48 rfl
                    refine lv_aload_n hx hb dX2_faultsFrom_131 rfl (lv_at hl 4 rfl) ?_
                    refine th_getL (ci := 3) (C := RX2) (T := TX2) (N := 10) (v := .ref (ad 1)) hx hb hts hinX2 hown hK hP hI 5 (mF 5 rfl) rfl rfl 0 (Nat.le_of_ble_eq_true rfl) (hts _ (vA_in _ _ (in_14 _ (zs16 (zs16 (zs1 (zs1 (zs0)))))))) (fun _ h9 => h9) (hI.fr 5 (mF 5 rfl) rfl (Nat.le_of_ble_eq_true rfl) 1 rfl) dX2_faultsFrom_132 ?_
                    refine th_getL (ci := 1) (C := RX0) (T := TX0) (N := 11) (v := .ref (ad 19)) hx hb hts hinX0 hown hK hP hI 1 (mF 1 rfl) rfl rfl 9 (Nat.le_of_ble_eq_true rfl) (hts _ (vA_in _ _ (in_16 _ (zs4 (zs4 (zs4 (zs1 (zs1 (zs0))))))))) (fun _ h9 => h9) (hI.fr 1 (mF 1 rfl) rfl (Nat.le_of_ble_eq_true rfl) 19 rfl) dX2_faultsFrom_135 ?_
                    refine lv_bipush (v := 12) hx hb dX2_faultsFrom_138 (by decide) ?_
                    refine lv_iload_n hx hb dX2_faultsFrom_140 rfl (lv_at hl 5 rfl) ?_
                    refine lv_iload_n hx hb dX2_faultsFrom_141 rfl (lv_at hl 6 rfl) ?_
                    refine lv_aload_n hx hb dX2_faultsFrom_142 rfl (lv_at hl 4 rfl) ?_
                    refine th_getL (ci := 3) (C := RX2) (T := TX2) (N := 10) (v := .ref (ad (64 * (ri + 1) + 6))) hx hb hts hinX2 hown hK hP hI 5 (mF 5 rfl) rfl rfl 6 (Nat.le_of_ble_eq_true rfl) (hts _ (vA_in _ _ (in_14 _ (zs16 (zs16 (zs4 (zs1 (zs1 (zs0))))))))) (fun _ h9 => h9) ((hKp 5 6 rfl).trans hh1) dX2_faultsFrom_143 ?_
                    have i49 : 0 ≤ (xi (E (64 * (ri + 1) + 6)) 5).toInt ∧ (xi (E (64 * (ri + 1) + 6)) 5).toInt ≤ 99 := hI0.iv (64 * (ri + 1) + 6) (mP 6 ri (by decide) hh0 (kl_le hC 2 (by decide))) (shC_p 6 ri (by decide)) (Nat.le_of_ble_eq_true rfl) (spC_p 6 ri (by decide) 5)
                    refine th_getL (ci := 6) (C := RX5) (T := TX5) (N := 12) (v := .int (xi (E (64 * (ri + 1) + 6)) 5)) hx hb hts hinX5 hown hK hP hI (64 * (ri + 1) + 6) (mP 6 ri (by decide) hh0 (kl_le hC 2 (by decide))) (shC_p 6 ri (by decide)) rfl 5 (Nat.le_of_ble_eq_true rfl) (hts _ (vA_in _ _ (in_16 _ (zs4 (zs4 (zs4 (zs1 (zs1 (zs1 (zs0)))))))))) (fun _ h9 => h9) (th_v0L hKp hI0 (64 * (ri + 1) + 6) (mP 6 ri (by decide) hh0 (kl_le hC 2 (by decide))) (shC_p 6 ri (by decide)) (Nat.le_of_ble_eq_true rfl) (spC_p 6 ri (by decide) 5) (wl_p rfl rfl (by omega))) dX2_faultsFrom_146 ?_
                    refine lv_aload_n hx hb dX2_faultsFrom_149 rfl (lv_at hl 4 rfl) ?_
                    refine th_getL (ci := 3) (C := RX2) (T := TX2) (N := 10) (v := .ref (ad (64 * (ri + 1) + 6))) hx hb hts hinX2 hown hK hP hI 5 (mF 5 rfl) rfl rfl 6 (Nat.le_of_ble_eq_true rfl) (hts _ (vA_in _ _ (in_14 _ (zs16 (zs16 (zs4 (zs1 (zs1 (zs0))))))))) (fun _ h9 => h9) ((hKp 5 6 rfl).trans hh1) dX2_faultsFrom_150 ?_
                    have i50 : 0 ≤ (xi (E (64 * (ri + 1) + 6)) 6).toInt ∧ (xi (E (64 * (ri + 1) + 6)) 6).toInt ≤ 99 := hI0.iv (64 * (ri + 1) + 6) (mP 6 ri (by decide) hh0 (kl_le hC 2 (by decide))) (shC_p 6 ri (by decide)) (Nat.le_of_ble_eq_true rfl) (spC_p 6 ri (by decide) 6)
                    refine th_getL (ci := 6) (C := RX5) (T := TX5) (N := 12) (v := .int (xi (E (64 * (ri + 1) + 6)) 6)) hx hb hts hinX5 hown hK hP hI (64 * (ri + 1) + 6) (mP 6 ri (by decide) hh0 (kl_le hC 2 (by decide))) (shC_p 6 ri (by decide)) rfl 6 (Nat.le_of_ble_eq_true rfl) (hts _ (vA_in _ _ (in_16 _ (zs16 (zs0))))) (fun _ h9 => h9) (th_v0L hKp hI0 (64 * (ri + 1) + 6) (mP 6 ri (by decide) hh0 (kl_le hC 2 (by decide))) (shC_p 6 ri (by decide)) (Nat.le_of_ble_eq_true rfl) (spC_p 6 ri (by decide) 6) (wl_p rfl rfl (by omega))) dX2_faultsFrom_153 ?_
                    refine th_pi (va_runS (As := [.int a0, .int a1, .int (xi (E (64 * (ri + 1) + 6)) 5), .int (xi (E (64 * (ri + 1) + 6)) 6)]) (rest := [.int 12, .ref (ad 19)]) ⟨hx, hb, hml, hown, hts⟩ (q_cfar l a0 a1 (xi (E (64 * (ri + 1) + 6)) 5) (xi (E (64 * (ri + 1) + 6)) 6)) (va_cwS 4 hts (gi_S (in_16 _ (zs16 (zs1 (zs1 (zs0))))) (in_16 _ (zs16 (zs1 (zs1 (zs1 (zs0)))))) (in_14 _ (zs16 (zs16 (zs0)))) (in_16 _ (zs16 (zs4 (zs0))))) rfl rfl rfl hz_yX2_far_4 ⟨Nat.le_of_ble_eq_true rfl, Nat.le_of_ble_eq_true rfl⟩) ⟨fun a U g mk q => ⟨q.1, NXc_c q.2⟩, fun U hU hW => ⟨rfl, NXc_w hW hEV.1⟩⟩ rfl rfl hl.1 rfl (lv_room (Nat.le_of_ble_eq_true rfl)) dX2_faultsFrom_156 ⟨Nat.le_of_ble_eq_true rfl, Nat.le_of_ble_eq_true rfl⟩) hS (fun r51 H1 locs1 hw hk1 hS => ?_)
                    have hP := ub_keep hP hk1
                    generalize H1 = H at hP hS ⊢
                    generalize locs1 = locs at hS ⊢
                    have n52 : vp_in (12 : Int32) 14 := (iv_in (n := 14) ln_12 (by decide))
                    refine th_iastL hx hb hK hP (WL_D hD) hS hI 19 (mF 19 rfl) rfl rfl n52 (okI rfl (iv_all _)) dX2_faultsFrom_159 (fun H locs E53 pw54 hI hP hS => ?_)
                    have hKp := hKp.pw pw54 rfl
                    refine lv_aload_n hx hb dX2_faultsFrom_160 rfl (lv_at hl 4 rfl) ?_
                    refine th_getL (ci := 3) (C := RX2) (T := TX2) (N := 10) (v := .ref (ad 1)) hx hb hts hinX2 hown hK hP hI 5 (mF 5 rfl) rfl rfl 0 (Nat.le_of_ble_eq_true rfl) (hts _ (vA_in _ _ (in_14 _ (zs16 (zs16 (zs1 (zs1 (zs0)))))))) (fun _ h9 => h9) (hI.fr 5 (mF 5 rfl) rfl (Nat.le_of_ble_eq_true rfl) 1 rfl) dX2_faultsFrom_161 ?_
                    refine th_getL (ci := 1) (C := RX0) (T := TX0) (N := 11) (v := .ref (ad 19)) hx hb hts hinX0 hown hK hP hI 1 (mF 1 rfl) rfl rfl 9 (Nat.le_of_ble_eq_true rfl) (hts _ (vA_in _ _ (in_16 _ (zs4 (zs4 (zs4 (zs1 (zs1 (zs0))))))))) (fun _ h9 => h9) (hI.fr 1 (mF 1 rfl) rfl (Nat.le_of_ble_eq_true rfl) 19 rfl) dX2_faultsFrom_164 ?_
                    refine lv_iconst (v := 3) hx hb dX2_faultsFrom_167 (by decide) ?_
                    refine lv_iload hx hb dX2_faultsFrom_168 (lv_at hl 2 rfl) ?_
                    refine lv_iload hx hb dX2_faultsFrom_170 (lv_at hl 1 rfl) ?_
                    refine lv_aload_n hx hb dX2_faultsFrom_172 rfl (lv_at hl 4 rfl) ?_
                    refine th_getL (ci := 3) (C := RX2) (T := TX2) (N := 10) (v := .ref (ad (64 * (ri + 1) + 6))) hx hb hts hinX2 hown hK hP hI 5 (mF 5 rfl) rfl rfl 6 (Nat.le_of_ble_eq_true rfl) (hts _ (vA_in _ _ (in_14 _ (zs16 (zs16 (zs4 (zs1 (zs1 (zs0))))))))) (fun _ h9 => h9) ((hKp 5 6 rfl).trans hh1) dX2_faultsFrom_173 ?_
                    refine th_getL (ci := 6) (C := RX5) (T := TX5) (N := 12) (v := .int (xi (E (64 * (ri + 1) + 6)) 5)) hx hb hts hinX5 hown hK hP hI (64 * (ri + 1) + 6) (mP 6 ri (by decide) hh0 (kl_le hC 2 (by decide))) (shC_p 6 ri (by decide)) rfl 5 (Nat.le_of_ble_eq_true rfl) (hts _ (vA_in _ _ (in_16 _ (zs4 (zs4 (zs4 (zs1 (zs1 (zs1 (zs0)))))))))) (fun _ h9 => h9) (th_v0L hKp hI0 (64 * (ri + 1) + 6) (mP 6 ri (by decide) hh0 (kl_le hC 2 (by decide))) (shC_p 6 ri (by decide)) (Nat.le_of_ble_eq_true rfl) (spC_p 6 ri (by decide) 5) (wl_p rfl rfl (by omega))) dX2_faultsFrom_176 ?_
                    refine lv_aload_n hx hb dX2_faultsFrom_179 rfl (lv_at hl 4 rfl) ?_
                    refine th_getL (ci := 3) (C := RX2) (T := TX2) (N := 10) (v := .ref (ad (64 * (ri + 1) + 6))) hx hb hts hinX2 hown hK hP hI 5 (mF 5 rfl) rfl rfl 6 (Nat.le_of_ble_eq_true rfl) (hts _ (vA_in _ _ (in_14 _ (zs16 (zs16 (zs4 (zs1 (zs1 (zs0))))))))) (fun _ h9 => h9) ((hKp 5 6 rfl).trans hh1) dX2_faultsFrom_180 ?_
                    refine th_getL (ci := 6) (C := RX5) (T := TX5) (N := 12) (v := .int (xi (E (64 * (ri + 1) + 6)) 6)) hx hb hts hinX5 hown hK hP hI (64 * (ri + 1) + 6) (mP 6 ri (by decide) hh0 (kl_le hC 2 (by decide))) (shC_p 6 ri (by decide)) rfl 6 (Nat.le_of_ble_eq_true rfl) (hts _ (vA_in _ _ (in_16 _ (zs16 (zs0))))) (fun _ h9 => h9) (th_v0L hKp hI0 (64 * (ri + 1) + 6) (mP 6 ri (by decide) hh0 (kl_le hC 2 (by decide))) (shC_p 6 ri (by decide)) (Nat.le_of_ble_eq_true rfl) (spC_p 6 ri (by decide) 6) (wl_p rfl rfl (by omega))) dX2_faultsFrom_183 ?_
                    refine th_pi (va_runS (As := [.int v10_4, .int v34_5, .int (xi (E (64 * (ri + 1) + 6)) 5), .int (xi (E (64 * (ri + 1) + 6)) 6)]) (rest := [.int 3, .ref (ad 19)]) ⟨hx, hb, hml, hown, hts⟩ (q_cfar l v10_4 v34_5 (xi (E (64 * (ri + 1) + 6)) 5) (xi (E (64 * (ri + 1) + 6)) 6)) (va_cwS 4 hts (gi_S (in_16 _ (zs16 (zs1 (zs1 (zs0))))) (in_16 _ (zs16 (zs1 (zs1 (zs1 (zs0)))))) (in_14 _ (zs16 (zs16 (zs0)))) (in_16 _ (zs16 (zs4 (zs0))))) rfl rfl rfl hz_yX2_far_4 ⟨Nat.le_of_ble_eq_true rfl, Nat.le_of_ble_eq_true rfl⟩) ⟨fun a U g mk q => ⟨q.1, NXc_c q.2⟩, fun U hU hW => ⟨rfl, NXc_w hW hEV.1⟩⟩ rfl rfl hl.1 rfl (lv_room (Nat.le_of_ble_eq_true rfl)) dX2_faultsFrom_186 ⟨Nat.le_of_ble_eq_true rfl, Nat.le_of_ble_eq_true rfl⟩) hS (fun r55 H1 locs1 hw hk1 hS => ?_)
                    have hP := ub_keep hP hk1
                    generalize H1 = H at hP hS ⊢
                    generalize locs1 = locs at hS ⊢
                    have n56 : vp_in (3 : Int32) 14 := (iv_in (n := 14) ln_3 (by decide))
                    refine th_iastL hx hb hK hP (WL_D hD) hS hI 19 (mF 19 rfl) rfl rfl n56 (okI rfl (iv_all _)) dX2_faultsFrom_189 (fun H locs E57 pw58 hI hP hS => ?_)
                    have hKp := hKp.pw pw58 rfl
                    refine lv_iload_n hx hb dX2_faultsFrom_190 rfl (lv_at hl 3 rfl) ?_
                    refine lv_aload_n hx hb dX2_faultsFrom_191 rfl (lv_at hl 4 rfl) ?_
                    refine th_iL (va_runV (As := []) (rest := [.int v34_3]) ⟨hx, hb, hml, hown, hts⟩ (q_faultsOnTacks l dC dI cT cf hC ad E57 H.size ri hI (by omega) (by exact (hKp 5 6 rfl).trans hh1) (by (try rw [hKp.ei 5 7 rfl]); omega)) (cwV 0 hts (gi_V (in_16 _ (zs16 (zs4 (zs1 (zs0))))) (in_16 _ (zs16 (zs4 (zs1 (zs1 (zs0)))))) (in_16 _ (zs16 (zs4 (zs1 (zs1 (zs1 (zs0))))))) (in_14 _ (zs16 (zs16 (zs0)))) (in_16 _ (zs16 (zs4 (zs4 (zs0)))))) rfl rfl rfl ⟨rfl, hz_yX2_faultsOnTacks_0⟩ ⟨Nat.le_of_ble_eq_true rfl, Nat.le_of_ble_eq_true rfl⟩) ⟨HWL_bl, va_recv hK hP (ci := 3) (q0 := posL 5 (LC cf)) rfl (hI.ob 5 (mF 5 rfl) rfl), (HWL_wi hP hK (WL_D hD) hS hA hEV)⟩ rfl rfl hl.1 rfl (lv_room (Nat.le_of_ble_eq_true rfl)) dX2_faultsFrom_192 ⟨Nat.le_of_ble_eq_true rfl, Nat.le_of_ble_eq_true rfl⟩) (WL_D hD) hS hA (fun r59 E60 H locs hw hP hS => ?_)
                    obtain ⟨hI, kq61, hw⟩ := hw
                    have hKb := hKp
                    have hKp := hKp.tr kq61 (wl_sub rfl rfl)
                    refine lv_ior hx hb dX2_faultsFrom_195 ?_
                    refine lv_topi (fun y62 ey62 => ?_)
                    refine lv_istore_n (lv' := [(3, .int y62), (6, .int y41), (5, .int v34_5), (4, .int v10_4), (0, .ref (ad 5)), (1, .int a0), (2, .int a1)]) hx hb dX2_faultsFrom_196 rfl hl (by decide) rfl (fun ls hl => ?_)
                    obtain ⟨y63, ey63⟩ : ∃ y : Int32, y = v34_5 + (1 : Int32) := ⟨_, rfl⟩
                    obtain ⟨ty63, iy63⟩ := ti_add (e := 1) (f := 100) i23 ln_1 ey63 (by decide)
                    have ty63 : y63.toInt = v34_5.toInt + 1 := ty63
                    have iy63 : 1 ≤ y63.toInt ∧ y63.toInt ≤ 100 := iy63
                    refine lv_iinc (v := y63) (lv' := [(5, .int y63), (3, .int y62), (6, .int y41), (4, .int v10_4), (0, .ref (ad 5)), (1, .int a0), (2, .int a1)]) hx hb dX2_faultsFrom_197 hl (k := 2) rfl (by rw [ey63]; rfl) (by decide) rfl (fun ls hl => ?_)
                    refine lv_goto (tgt := 34) hx hb dX2_faultsFrom_200 (by decide) ?_
                    exact ih34 y63 y62 E60 _ _ _ (iv_w iy63 (by decide)) (by first | exact ms_su hx34_0 ty63 (by decide) | omega) hI hKp hP hS (lv_sub hl [0, 3, 1, 4, 5, 6] rfl)
                  refine lv_if_le (tgt := 129) hx hb dX2_faultsFrom_122 (by decide) (fun c64 => ?_) (fun c64 => ?_)
                  · --122 taken
                    have t65 : y41.toInt ≤ 0 := ti_le c64
                    have i66 : -198 ≤ y41.toInt ∧ y41.toInt ≤ 0 := iv_le_l t65 iy41 (il_ 0) (by decide)
                    refine lv_iconst (v := 0) hx hb dX2_faultsFrom_129 (by decide) ?_
                    exact hJ130 (0 : Int32) _ _ _ (iv_w ln_0 (by decide)) hP hS (lv_sub hl [0, 1, 2, 3, 4, 5, 6] rfl)
                  · --122 not
                    have t67 : (0 : Int) < y41.toInt := ti_nle c64
                    have i68 : 1 ≤ y41.toInt ∧ y41.toInt ≤ 198 := iv_lt_r t67 (il_ 0) iy41 (by decide)
                    refine lv_iconst (v := 1) hx hb dX2_faultsFrom_125 (by decide) ?_
                    refine lv_goto (tgt := 130) hx hb dX2_faultsFrom_126 (by decide) ?_
                    exact hJ130 (1 : Int32) _ _ _ (iv_w ln_1 (by decide)) hP hS (lv_sub hl [0, 1, 2, 3, 4, 5, 6] rfl)
          exact hL34 (101) y14 v10_3 E10_ _ _ _ (iv_w iy14 (by decide)) (by have h9 := iy14; first | exact ms_bu h9.1 (by decide) | omega) hI hKp hP hS (lv_sub hl [0, 1, 2, 3, 4, 5] rfl)
  exact hL10 (101) y1 (0 : Int32) E _ _ _ (iv_w iy1 (by decide)) (by have h9 := iy1; first | exact ms_bu h9.1 (by decide) | omega) hI hKp hP hS (lv_sub hl [0, 1, 2, 3, 4] rfl)
def v_find : List Cond := .code yX2_find cX2_find 7 (some .int) :: vA
abbrev rm_find : Room := { frames := 6, cells := 0, slots := 0, locals := 240 }
def w_find : Nat → Nat → Bool := wl [19, 20, 38, 39, 40, 41, 42] [(5, 6), (5, 7), (5, 8), (5, 9)]
set_option maxHeartbeats 4000000 in
set_option maxRecDepth 100000 in
theorem q_find (l : Launch) (dC : Nat → ClassId) (dI : Nat → Nat → Nat) (cT : Nat → ClassId) (cf : Nat → Nat) (hC : CF cf) (ad : Nat → Nat) (E : Nat → va_E) (sz : Nat) (a0 : Int32) (a1 : Int32) (i : Nat) (hI0 : IXL cT (shC cf) (spC cf) (LC cf) ad E) (hh0 : i < cf 5) (hh1 : 0 ≤ a1.toInt ∧ a1.toInt ≤ 400) : Met l yX2_find v_find rm_find (va_Pc [.ref (ad 5), .ref (ad (64 * (i + 1) + 14)), .int a0, .int a1] (HWL dC dI (TYC cT) cf ad E sz)) (va_Qi (S := Nat → va_E) (fun r u => IXL cT (shC cf) (spC cf) (LC cf) ad u ∧ Kp w_find E u ∧ ((-1 ≤ r.toInt ∧ r.toInt ≤ 2))) (HBL dC dI (LC cf) ad) (va_A (WL (LC cf) ad E) sz)) 0 0 (va_A (WL (LC cf) ad E) sz) := by
  obtain ⟨⟨hc0, hc1, hc2, hc3, hc4, hc5⟩, hcr⟩ := id hC
  refine Met.ofW (cc := cX2_find) (maxL := 7) (ret := (some .int)) (by decide) rfl ?_
  intro p e s m args below meth c s₁ B hml hv
  obtain ⟨hargs, hsz, hP, hK, hD0, hEV⟩ := hv
  subst hsz
  have hx := B.exec
  have hb := B.bytes
  have hr := B.returns
  have hts := atoms_spec (ws := v_find) B.pre
  have hown : s.vm.findClass RX2 = some m.cls := findClass_of_methodNamed B.named
  have hlocks := B.notSynchronized
  have hinX0 : ∀ w ∈ u_ws RX0 TX0 11, w ∈ v_find := fun w h => vA_in _ w (in_X0 w h)
  have hinX2 : ∀ w ∈ u_ws RX2 TX2 10, w ∈ v_find := fun w h => vA_in _ w (in_X2 w h)
  have hinX4 : ∀ w ∈ u_ws RX4 TX4 10, w ∈ v_find := fun w h => vA_in _ w (in_X4 w h)
  have hinX5 : ∀ w ∈ u_ws RX5 TX5 12, w ∈ v_find := fun w h => vA_in _ w (in_X5 w h)
  generalize hAe : va_A (WL (LC cf) ad E) s.heap.size = A at hEV ⊢
  have hA : ∀ q : Nat, s.heap.size ≤ q → A q := fun q h => by rw [← hAe]; exact Or.inr h
  have hD : va_D A (WL (LC cf) ad E) := by rw [← hAe]; exact hD0.self
  have hS : va_S A s.heap s.heap [] := va_S.rf
  have hI := hI0
  have hKp : Kp w_find E E := Kp.rf
  have hl := lv_entry ([.ref (ad 5), .ref (ad (64 * (i + 1) + 14)), .int a0, .int a1]) (n := 7) (Nat.le_of_ble_eq_true rfl)
  obtain ⟨Q, hQ⟩ : ∃ Q, Q = MQ below (va_Qi (S := Nat → va_E) (fun r u => IXL cT (shC cf) (spC cf) (LC cf) ad u ∧ Kp w_find E u ∧ ((-1 ≤ r.toInt ∧ r.toInt ≤ 2))) (HBL dC dI (LC cf) ad) (A)) args s 0 0 (A) := ⟨_, rfl⟩
  rw [← hQ, show entryFrame m args 7 = _ from (congrArg (fun z => entryFrame m z 7) hargs).trans (lg_entry_eq _ _ _)]
  generalize (lg_sl ([.ref (ad 5), .ref (ad (64 * (i + 1) + 14)), .int a0, .int a1]) ++ List.replicate (7 - (lg_sl ([.ref (ad 5), .ref (ad (64 * (i + 1) + 14)), .int a0, .int a1])).length) Slot.unset).toArray = ls at hl ⊢
  have hl : lv_has ls 7 [(0, .ref (ad 5)), (1, .ref (ad (64 * (i + 1) + 14))), (2, .int a0), (3, .int a1)] := hl
  refine lv_aload_n hx hb dX2_find_0 rfl (lv_at hl 0 rfl) ?_
  refine lv_aload_n hx hb dX2_find_1 rfl (lv_at hl 1 rfl) ?_
  refine lv_iconst (v := 0) hx hb dX2_find_2 (by decide) ?_
  refine lv_iload_n hx hb dX2_find_3 rfl (lv_at hl 3 rfl) ?_
  have z0 := ln_0
  refine th_iL (va_runV (As := [.ref (ad (64 * (i + 1) + 14)), .int 0, .int a1]) (rest := []) ⟨hx, hb, hml, hown, hts⟩ (q_statesOf l dC dI cT cf hC ad E s.heap.size (0 : Int32) a1 i hI (by omega) (iv_w ln_0 (by decide)) hh1) (cwV 3 hts (gi_V (in_15 _ (zs4 (zs1 (zs1 (zs0))))) (in_15 _ (zs4 (zs1 (zs1 (zs1 (zs0)))))) (in_15 _ (zs4 (zs4 (zs0)))) (in_14 _ (zs16 (zs16 (zs0)))) (in_15 _ (zs4 (zs4 (zs1 (zs0)))))) rfl rfl rfl ⟨rfl, hz_yX2_statesOf_3⟩ ⟨Nat.le_of_ble_eq_true rfl, Nat.le_of_ble_eq_true rfl⟩) ⟨HWL_bl, va_recv hK hP (ci := 3) (q0 := posL 5 (LC cf)) rfl (hI.ob 5 (mF 5 rfl) rfl), (HWL_wi hP hK (WL_D hD) hS hA hEV)⟩ rfl rfl hl.1 rfl (lv_room (Nat.le_of_ble_eq_true rfl)) dX2_find_4 ⟨Nat.le_of_ble_eq_true rfl, Nat.le_of_ble_eq_true rfl⟩) (WL_D hD) hS hA (fun r1 E2 H locs hw hP hS => ?_)
  obtain ⟨hI, kq3, hw⟩ := hw
  have hKb := hKp
  have hKp := hKp.tr kq3 (wl_sub rfl rfl)
  refine lv_if_eq (tgt := 20) hx hb dX2_find_7 (by decide) (fun c4 => ?_) (fun c4 => ?_)
  · --7 taken
    have t5 : r1.toInt = 0 := ti_eq c4
    have i6 : 0 ≤ r1.toInt ∧ r1.toInt ≤ 0 := iv_eqi t5 (iv_all _) (il_ 0) (by decide)
    refine lv_iconst (v := -1) hx hb dX2_find_20 (by decide) ?_
    rw [hQ]
    exact W.iret (v := (-1)) hx hb hr (fun t ht hW => ⟨⟨(-1), E2, rfl, ⟨hI, hKp, (iv_w ln_m1 (by decide))⟩, by show va_P (dC, dI) vwCl (WL (LC cf) ad E2) t.heap; rw [ht]; exact hP⟩, hS.F ht⟩) hS.2.2 dX2_find_21
  · --7 not
    have t7 : ¬ r1.toInt = 0 := ti_ne c4
    refine lv_aload_n hx hb dX2_find_10 rfl (lv_at hl 0 rfl) ?_
    refine lv_aload_n hx hb dX2_find_11 rfl (lv_at hl 1 rfl) ?_
    refine lv_iconst (v := 1) hx hb dX2_find_12 (by decide) ?_
    refine lv_iload_n hx hb dX2_find_13 rfl (lv_at hl 3 rfl) ?_
    have z1 := ln_1
    refine th_iL (va_runV (As := [.ref (ad (64 * (i + 1) + 14)), .int 1, .int a1]) (rest := []) ⟨hx, hb, hml, hown, hts⟩ (q_statesOf l dC dI cT cf hC ad E2 H.size (1 : Int32) a1 i hI (by omega) (iv_w ln_1 (by decide)) hh1) (cwV 3 hts (gi_V (in_15 _ (zs4 (zs1 (zs1 (zs0))))) (in_15 _ (zs4 (zs1 (zs1 (zs1 (zs0)))))) (in_15 _ (zs4 (zs4 (zs0)))) (in_14 _ (zs16 (zs16 (zs0)))) (in_15 _ (zs4 (zs4 (zs1 (zs0)))))) rfl rfl rfl ⟨rfl, hz_yX2_statesOf_3⟩ ⟨Nat.le_of_ble_eq_true rfl, Nat.le_of_ble_eq_true rfl⟩) ⟨HWL_bl, va_recv hK hP (ci := 3) (q0 := posL 5 (LC cf)) rfl (hI.ob 5 (mF 5 rfl) rfl), (HWL_wi hP hK (WL_D hD) hS hA hEV)⟩ rfl rfl hl.1 rfl (lv_room (Nat.le_of_ble_eq_true rfl)) dX2_find_14 ⟨Nat.le_of_ble_eq_true rfl, Nat.le_of_ble_eq_true rfl⟩) (WL_D hD) hS hA (fun r8 E9 H locs hw hP hS => ?_)
    obtain ⟨hI, kq10, hw⟩ := hw
    have hKb := hKp
    have hKp := hKp.tr kq10 (wl_sub rfl rfl)
    refine lv_if_ne (tgt := 22) hx hb dX2_find_17 (by decide) (fun c11 => ?_) (fun c11 => ?_)
    · --17 taken
      have t12 : ¬ r8.toInt = 0 := ti_ne c11
      refine lv_aload_n hx hb dX2_find_22 rfl (lv_at hl 0 rfl) ?_
      refine lv_aload_n hx hb dX2_find_23 rfl (lv_at hl 0 rfl) ?_
      refine th_getL (ci := 3) (C := RX2) (T := TX2) (N := 10) (v := .ref (ad 1)) hx hb hts hinX2 hown hK hP hI 5 (mF 5 rfl) rfl rfl 0 (Nat.le_of_ble_eq_true rfl) (hts _ (vA_in _ _ (in_14 _ (zs16 (zs16 (zs1 (zs1 (zs0)))))))) (fun _ h9 => h9) (hI.fr 5 (mF 5 rfl) rfl (Nat.le_of_ble_eq_true rfl) 1 rfl) dX2_find_24 ?_
      refine th_getL (ci := 1) (C := RX0) (T := TX0) (N := 11) (v := .ref (ad 9)) hx hb hts hinX0 hown hK hP hI 1 (mF 1 rfl) rfl rfl 5 (Nat.le_of_ble_eq_true rfl) (hts _ (vA_in _ _ (in_14 _ (zs16 (zs16 (zs1 (zs1 (zs1 (zs0))))))))) (fun _ h9 => h9) (hI.fr 1 (mF 1 rfl) rfl (Nat.le_of_ble_eq_true rfl) 9 rfl) dX2_find_27 ?_
      refine lv_aload_n hx hb dX2_find_30 rfl (lv_at hl 1 rfl) ?_
      have j14 : 0 ≤ (xi (E (64 * (i + 1) + 14)) 0).toInt ∧ (xi (E (64 * (i + 1) + 14)) 0).toInt ≤ ((cf 2 : Nat) : Int) - 1 := hI0.iv (64 * (i + 1) + 14) (mP 14 i (by decide) hh0 (kl_le hC 5 (by decide))) (shC_p 14 i (by decide)) (Nat.le_of_ble_eq_true rfl) (spC_p 14 i (by decide) 0)
      have i13 : 0 ≤ (xi (E (64 * (i + 1) + 14)) 0).toInt ∧ (xi (E (64 * (i + 1) + 14)) 0).toInt ≤ 19 := by omega
      refine th_getL (ci := 5) (C := RX4) (T := TX4) (N := 10) (v := .int (xi (E (64 * (i + 1) + 14)) 0)) hx hb hts hinX4 hown hK hP hI (64 * (i + 1) + 14) (mP 14 i (by decide) hh0 (kl_le hC 5 (by decide))) (shC_p 14 i (by decide)) rfl 0 (Nat.le_of_ble_eq_true rfl) (hts _ (vA_in _ _ (in_14 _ (zs16 (zs16 (zs4 (zs0))))))) (fun _ h9 => h9) (th_v0L hKp hI0 (64 * (i + 1) + 14) (mP 14 i (by decide) hh0 (kl_le hC 5 (by decide))) (shC_p 14 i (by decide)) (Nat.le_of_ble_eq_true rfl) (spC_p 14 i (by decide) 0) (wl_p rfl rfl (by omega))) dX2_find_31 ?_
      refine th_rrL (va_runV (As := [.int (xi (E (64 * (i + 1) + 14)) 0)]) (rest := [.ref (ad 5)]) ⟨hx, hb, hml, hown, hts⟩ (q_get2 l dC dI cT cf hC ad E9 H.size (xi (E (64 * (i + 1) + 14)) 0) hI (by omega)) (cwV 1 hts (gi_V (in_15 _ (zs16 (zs4 (zs1 (zs0))))) (in_4 _ (zs16 (zs16 (zs4 (zs1 (zs1 (zs0))))))) (in_4 _ (zs16 (zs16 (zs4 (zs1 (zs1 (zs1 (zs0)))))))) (in_3 _ (zs16 (zs1 (zs1 (zs0))))) (in_3 _ (zs16 (zs16 (zs4 (zs1 (zs1 (zs1 (zs0))))))))) rfl rfl rfl ⟨rfl, hz_yJx4a65c_get_915e3_1⟩ ⟨Nat.le_of_ble_eq_true rfl, Nat.le_of_ble_eq_true rfl⟩) ⟨HWL_bl, va_recv hK hP (ci := 0) (q0 := posL 9 (LC cf)) rfl (hI.ob 9 (mF 9 rfl) rfl), (HWL_wi hP hK (WL_D hD) hS hA hEV)⟩ rfl rfl hl.1 rfl (lv_room (Nat.le_of_ble_eq_true rfl)) dX2_find_34 ⟨Nat.le_of_ble_eq_true rfl, Nat.le_of_ble_eq_true rfl⟩) hS hP (fun r15 H locs hw hP hS => ?_)
      obtain rfl := hw
      have lv16 : (xi (E (64 * (i + 1) + 14)) 0).toNatClampNeg < cf 2 := by rw [tn_]; omega
      refine va_castS (cC := dC 6) hx hb hown (hts _ (vA_in _ _ (in_14 _ (zs16 (zs16 (zs4 (zs1 (zs0)))))))) (hK.1 6 _ rfl).2 (va_recv hK hP (ci := 6) (q0 := posL (64 * ((xi (E (64 * (i + 1) + 14)) 0).toNatClampNeg + 1) + 6) (LC cf)) rfl (hI.ob (64 * ((xi (E (64 * (i + 1) + 14)) 0).toNatClampNeg + 1) + 6) (mP 6 ((xi (E (64 * (i + 1) + 14)) 0).toNatClampNeg) (by decide) lv16 (kl_le hC 2 (by decide))) (shC_p 6 ((xi (E (64 * (i + 1) + 14)) 0).toNatClampNeg) (by decide)))) dX2_find_37 ?_
      refine th_putL (ci := 3) (C := RX2) (T := TX2) (N := 10) (v := .ref (ad (64 * ((xi (E (64 * (i + 1) + 14)) 0).toNatClampNeg + 1) + 6))) (ty := (.object "UnlikeBoats$Race")) hx hb hts hinX2 tyX2 tyX2_ok nmX2 hown hK hP (WL_D hD) hS hI 5 (mF 5 rfl) rfl rfl 6 (Nat.le_of_ble_eq_true rfl) (hts _ (vA_in _ _ (in_14 _ (zs16 (zs16 (zs4 (zs1 (zs1 (zs0))))))))) (fun _ h9 => h9) rfl (by decide +kernel) rfl rfl trivial dX2_find_40 (fun H locs E17 pw18 hI hP hS => ?_)
      have hKp := hKp.pw pw18 rfl
      refine lv_aload_n hx hb dX2_find_43 rfl (lv_at hl 0 rfl) ?_
      refine lv_aload_n hx hb dX2_find_44 rfl (lv_at hl 0 rfl) ?_
      refine th_getL (ci := 3) (C := RX2) (T := TX2) (N := 10) (v := .ref (ad 1)) hx hb hts hinX2 hown hK hP hI 5 (mF 5 rfl) rfl rfl 0 (Nat.le_of_ble_eq_true rfl) (hts _ (vA_in _ _ (in_14 _ (zs16 (zs16 (zs1 (zs1 (zs0)))))))) (fun _ h9 => h9) (hI.fr 5 (mF 5 rfl) rfl (Nat.le_of_ble_eq_true rfl) 1 rfl) dX2_find_45 ?_
      refine lv_aload_n hx hb dX2_find_48 rfl (lv_at hl 0 rfl) ?_
      refine th_getL (ci := 3) (C := RX2) (T := TX2) (N := 10) (v := .ref (ad (64 * ((xi (E (64 * (i + 1) + 14)) 0).toNatClampNeg + 1) + 6))) hx hb hts hinX2 hown hK hP hI 5 (mF 5 rfl) rfl rfl 6 (Nat.le_of_ble_eq_true rfl) (hts _ (vA_in _ _ (in_14 _ (zs16 (zs16 (zs4 (zs1 (zs1 (zs0))))))))) (fun _ h9 => h9) pw18.1 dX2_find_49 ?_
      have i19 : 0 ≤ (xi (E (64 * ((xi (E (64 * (i + 1) + 14)) 0).toNatClampNeg + 1) + 6)) 1).toInt ∧ (xi (E (64 * ((xi (E (64 * (i + 1) + 14)) 0).toNatClampNeg + 1) + 6)) 1).toInt ≤ 400 := hI0.iv (64 * ((xi (E (64 * (i + 1) + 14)) 0).toNatClampNeg + 1) + 6) (mP 6 ((xi (E (64 * (i + 1) + 14)) 0).toNatClampNeg) (by decide) lv16 (kl_le hC 2 (by decide))) (shC_p 6 ((xi (E (64 * (i + 1) + 14)) 0).toNatClampNeg) (by decide)) (Nat.le_of_ble_eq_true rfl) (spC_p 6 ((xi (E (64 * (i + 1) + 14)) 0).toNatClampNeg) (by decide) 1)
      refine th_getL (ci := 6) (C := RX5) (T := TX5) (N := 12) (v := .int (xi (E (64 * ((xi (E (64 * (i + 1) + 14)) 0).toNatClampNeg + 1) + 6)) 1)) hx hb hts hinX5 hown hK hP hI (64 * ((xi (E (64 * (i + 1) + 14)) 0).toNatClampNeg + 1) + 6) (mP 6 ((xi (E (64 * (i + 1) + 14)) 0).toNatClampNeg) (by decide) lv16 (kl_le hC 2 (by decide))) (shC_p 6 ((xi (E (64 * (i + 1) + 14)) 0).toNatClampNeg) (by decide)) rfl 1 (Nat.le_of_ble_eq_true rfl) (hts _ (vA_in _ _ (in_14 _ (zs16 (zs16 (zs4 (zs1 (zs1 (zs1 (zs0)))))))))) (fun _ h9 => h9) (th_v0L hKp hI0 (64 * ((xi (E (64 * (i + 1) + 14)) 0).toNatClampNeg + 1) + 6) (mP 6 ((xi (E (64 * (i + 1) + 14)) 0).toNatClampNeg) (by decide) lv16 (kl_le hC 2 (by decide))) (shC_p 6 ((xi (E (64 * (i + 1) + 14)) 0).toNatClampNeg) (by decide)) (Nat.le_of_ble_eq_true rfl) (spC_p 6 ((xi (E (64 * (i + 1) + 14)) 0).toNatClampNeg) (by decide) 1) (wl_p rfl rfl (by omega))) dX2_find_52 ?_
      refine lv_iload_n hx hb dX2_find_55 rfl (lv_at hl 3 rfl) ?_
      refine th_riL (va_runV (As := [.int (xi (E (64 * ((xi (E (64 * (i + 1) + 14)) 0).toNatClampNeg + 1) + 6)) 1), .int a1]) (rest := [.ref (ad 5)]) ⟨hx, hb, hml, hown, hts⟩ (q_rulesOnC l dC dI cT cf hC ad E17 H.size (xi (E (64 * ((xi (E (64 * (i + 1) + 14)) 0).toNatClampNeg + 1) + 6)) 1) a1 hI) (cwV 2 hts (gi_V (in_15 _ (zs16 (zs16 (zs4 (zs1 (zs1 (zs1 (zs0)))))))) (in_6 _ (zs16 (zs4 (zs4 (zs4 (zs0)))))) (in_6 _ (zs16 (zs4 (zs4 (zs4 (zs1 (zs0))))))) (in_5 _ (zs4 (zs1 (zs1 (zs0))))) (in_6 _ (zs16 (zs4 (zs4 (zs4 (zs1 (zs1 (zs0))))))))) rfl rfl rfl ⟨rfl, hz_yX0_rulesOn_2⟩ ⟨Nat.le_of_ble_eq_true rfl, Nat.le_of_ble_eq_true rfl⟩) ⟨HWL_bl, va_recv hK hP (ci := 1) (q0 := posL 1 (LC cf)) rfl (hI.ob 1 (mF 1 rfl) rfl), (HWL_wi hP hK (WL_D hD) hS hA hEV)⟩ rfl rfl hl.1 rfl (lv_room (Nat.le_of_ble_eq_true rfl)) dX2_find_56 ⟨Nat.le_of_ble_eq_true rfl, Nat.le_of_ble_eq_true rfl⟩) hS hP (fun r20 H locs hw hP hS => ?_)
      obtain ⟨f21, f22⟩ := hw
      refine th_putL (ci := 3) (C := RX2) (T := TX2) (N := 10) (v := .int r20) (ty := .int) hx hb hts hinX2 tyX2 tyX2_ok nmX2 hown hK hP (WL_D hD) hS hI 5 (mF 5 rfl) rfl rfl 7 (Nat.le_of_ble_eq_true rfl) (hts _ (vA_in _ _ (in_15 _ zs0))) (fun _ h9 => h9) rfl (by decide +kernel) rfl rfl (okI rfl f21) dX2_find_59 (fun H locs E23 pw24 hI hP hS => ?_)
      have hKp := hKp.pw pw24 rfl
      refine lv_aload_n hx hb dX2_find_62 rfl (lv_at hl 0 rfl) ?_
      refine lv_iload_n hx hb dX2_find_63 rfl (lv_at hl 2 rfl) ?_
      have hJ74 : ∀ (s74_0 : Int32) (H : Heap) (locs : List Loc) (ls : Array Slot), 97 ≤ s74_0.toInt ∧ s74_0.toInt ≤ 98 → va_P (dC, dI) vwCl (WL (LC cf) ad E23) H → va_S A s.heap H locs → lv_has ls 7 [(0, .ref (ad 5)), (1, .ref (ad (64 * (i + 1) + 14))), (2, .int a0), (3, .int a1)] → W p l e (headSpec v_find rm_find).room s m args below meth c H locs 0 0 Q (F0 m 74 ls [.int s74_0, .ref (ad 5)]) := by
        intro s74_0 H locs ls hs74_0 hP hS hl
        refine th_putL (ci := 3) (C := RX2) (T := TX2) (N := 10) (v := .int s74_0) (ty := .char) hx hb hts hinX2 tyX2 tyX2_ok nmX2 hown hK hP (WL_D hD) hS hI 5 (mF 5 rfl) rfl rfl 8 (Nat.le_of_ble_eq_true rfl) (hts _ (vA_in _ _ (in_15 _ (zs1 (zs0))))) (fun _ h9 => h9) rfl (by decide +kernel) (nar_c1 hs74_0) (nar_c2 hs74_0) (okI rfl (iv_w hs74_0 (by decide))) dX2_find_74 (fun H locs E25 pw26 hI hP hS => ?_)
        have hKp := hKp.pw pw26 rfl
        refine lv_aload_n hx hb dX2_find_77 rfl (lv_at hl 0 rfl) ?_
        refine th_vL (va_runV (As := []) (rest := []) ⟨hx, hb, hml, hown, hts⟩ (q_gatherTacks l dC dI cT cf hC ad E25 H.size ((xi (E (64 * (i + 1) + 14)) 0).toNatClampNeg) hI (by omega) (by exact ((pw26.2 5 6 (fun q9 => absurd q9.2 (Nat.ne_of_beq_eq_false rfl))).trans ((pw24.2 5 6 (fun q9 => absurd q9.2 (Nat.ne_of_beq_eq_false rfl))).trans pw18.1)))) (cwV 0 hts (gi_V (in_16 _ zs0) (in_16 _ (zs1 (zs0))) (in_16 _ (zs1 (zs1 (zs0)))) (in_14 _ (zs16 (zs16 (zs0)))) (in_16 _ (zs1 (zs1 (zs1 (zs0)))))) rfl rfl rfl ⟨rfl, hz_yX2_gatherTacks_0⟩ ⟨Nat.le_of_ble_eq_true rfl, Nat.le_of_ble_eq_true rfl⟩) ⟨HWL_bl, va_recv hK hP (ci := 3) (q0 := posL 5 (LC cf)) rfl (hI.ob 5 (mF 5 rfl) rfl), (HWL_wi hP hK (WL_D hD) hS hA hEV)⟩ rfl rfl hl.1 rfl (lv_room (Nat.le_of_ble_eq_true rfl)) dX2_find_78 ⟨Nat.le_of_ble_eq_true rfl, Nat.le_of_ble_eq_true rfl⟩) (WL_D hD) hS hA (fun E28 H locs hw hP hS => ?_)
        obtain ⟨hI, kq29, hw⟩ := hw
        have hKb := hKp
        have hKp := hKp.tr kq29 (wl_sub rfl rfl)
        refine lv_iconst (v := 0) hx hb dX2_find_81 (by decide) ?_
        refine lv_istore (lv' := [(4, .int 0), (0, .ref (ad 5)), (1, .ref (ad (64 * (i + 1) + 14))), (2, .int a0), (3, .int a1)]) hx hb dX2_find_82 hl (by decide) rfl (fun ls hl => ?_)
        refine lv_aload_n hx hb dX2_find_84 rfl (lv_at hl 1 rfl) ?_
        refine th_getL (ci := 3) (C := RX2) (T := TX2) (N := 10) (v := .ref (ad 38)) hx hb hts hinX2 hown hK hP hI 5 (mF 5 rfl) rfl rfl 1 (Nat.le_of_ble_eq_true rfl) (hts _ (vA_in _ _ (in_15 _ (zs1 (zs1 (zs0)))))) (fun _ h9 => h9) (hI.fr 5 (mF 5 rfl) rfl (Nat.le_of_ble_eq_true rfl) 38 rfl) dX2_find_85 ?_
        refine lv_iconst (v := 0) hx hb dX2_find_88 (by decide) ?_
        have n31 : vp_in (0 : Int32) 2 := (iv_in (n := 2) ln_0 (by decide))
        refine th_ialdL hx hb hK hP hI 38 (mF 38 rfl) rfl rfl n31 dX2_find_89 (fun y30 ey30 => ?_)
        have iy30 : 0 ≤ y30.toInt ∧ y30.toInt ≤ 99 := hI.el 38 (mF 38 rfl) rfl n31 (fun _ => rfl) ey30
        refine lv_istore (lv' := [(5, .int y30), (4, .int 0), (0, .ref (ad 5)), (1, .ref (ad (64 * (i + 1) + 14))), (2, .int a0), (3, .int a1)]) hx hb dX2_find_90 hl (by decide) rfl (fun ls hl => ?_)
        have hL92 : ∀ d : Nat, ∀ (v92_5 : Int32) (v92_4 : Int32) (E92_ : Nat → va_E) (H : Heap) (locs : List Loc) (ls : Array Slot), 0 ≤ v92_5.toInt ∧ v92_5.toInt ≤ 100 → 100 - v92_5.toInt < (d : Int) → IXL cT (shC cf) (spC cf) (LC cf) ad E92_ → Kp w_find E E92_ → xv (E92_ 5) 6 = .ref (ad (64 * ((xi (E (64 * (i + 1) + 14)) 0).toNatClampNeg + 1) + 6)) → xv (E92_ 5) 7 = .int r20 → xv (E92_ 5) 8 = .int s74_0 → va_P (dC, dI) vwCl (WL (LC cf) ad E92_) H → va_S A s.heap H locs → lv_has ls 7 [(5, .int v92_5), (4, .int v92_4), (0, .ref (ad 5)), (1, .ref (ad (64 * (i + 1) + 14))), (2, .int a0), (3, .int a1)] → W p l e (headSpec v_find rm_find).room s m args below meth c H locs 0 0 Q (F0 m 92 ls []) := by
          intro d
          induction d with
          | zero =>
            intro v92_5 v92_4 E92_ H locs ls hv92_5 hx92_0 hI hKp hs92_5_6 hs92_5_7 hs92_5_8 hP hS hl
            exact absurd hx92_0 (by first | exact ms_zu hv92_5.2 | omega)
          | succ d ih92 =>
            intro v92_5 v92_4 E92_ H locs ls hv92_5 hx92_0 hI hKp hs92_5_6 hs92_5_7 hs92_5_8 hP hS hl
            refine lv_iload hx hb dX2_find_92 (lv_at hl 0 rfl) ?_
            refine lv_aload_n hx hb dX2_find_94 rfl (lv_at hl 2 rfl) ?_
            refine th_getL (ci := 3) (C := RX2) (T := TX2) (N := 10) (v := .ref (ad 39)) hx hb hts hinX2 hown hK hP hI 5 (mF 5 rfl) rfl rfl 2 (Nat.le_of_ble_eq_true rfl) (hts _ (vA_in _ _ (in_15 _ (zs1 (zs1 (zs1 (zs0))))))) (fun _ h9 => h9) (hI.fr 5 (mF 5 rfl) rfl (Nat.le_of_ble_eq_true rfl) 39 rfl) dX2_find_95 ?_
            refine lv_iconst (v := 0) hx hb dX2_find_98 (by decide) ?_
            have n33 : vp_in (0 : Int32) 2 := (iv_in (n := 2) ln_0 (by decide))
            refine th_ialdL hx hb hK hP hI 39 (mF 39 rfl) rfl rfl n33 dX2_find_99 (fun y32 ey32 => ?_)
            have iy32 : 0 ≤ y32.toInt ∧ y32.toInt ≤ 99 := hI.el 39 (mF 39 rfl) rfl n33 (fun _ => rfl) ey32
            have hJ159 : ∀ (H : Heap) (locs : List Loc) (ls : Array Slot), va_P (dC, dI) vwCl (WL (LC cf) ad E92_) H → va_S A s.heap H locs → lv_has ls 7 [(5, .int v92_5), (4, .int v92_4), (0, .ref (ad 5)), (1, .ref (ad (64 * (i + 1) + 14))), (2, .int a0), (3, .int a1)] → W p l e (headSpec v_find rm_find).room s m args below meth c H locs 0 0 Q (F0 m 159 ls []) := by
              intro H locs ls hP hS hl
              refine lv_iload hx hb dX2_find_159 (lv_at hl 1 rfl) ?_
              refine lv_iconst (v := 3) hx hb dX2_find_161 (by decide) ?_
              refine lv_icmp_ne (tgt := 169) hx hb dX2_find_162 (by decide) (fun c34 => ?_) (fun c34 => ?_)
              · --162 taken
                have t35 : ¬ v92_4.toInt = 3 := ti_ne c34
                refine lv_iload hx hb dX2_find_169 (lv_at hl 1 rfl) ?_
                refine lv_iconst (v := 2) hx hb dX2_find_171 (by decide) ?_
                refine lv_icmp_ne (tgt := 179) hx hb dX2_find_172 (by decide) (fun c36 => ?_) (fun c36 => ?_)
                · --172 taken
                  have t37 : ¬ v92_4.toInt = 2 := ti_ne c36
                  refine lv_iconst (v := 0) hx hb dX2_find_179 (by decide) ?_
                  rw [hQ]
                  exact W.iret (v := 0) hx hb hr (fun t ht hW => ⟨⟨0, E92_, rfl, ⟨hI, hKp, (iv_w ln_0 (by decide))⟩, by show va_P (dC, dI) vwCl (WL (LC cf) ad E92_) t.heap; rw [ht]; exact hP⟩, hS.F ht⟩) hS.2.2 dX2_find_180
                · --172 not
                  have t38 : v92_4.toInt = 2 := ti_eq c36
                  have i39 : 2 ≤ v92_4.toInt ∧ v92_4.toInt ≤ 2 := iv_eqi t38 (iv_all _) (il_ 2) (by decide)
                  refine lv_iconst (v := 1) hx hb dX2_find_175 (by decide) ?_
                  refine lv_goto (tgt := 180) hx hb dX2_find_176 (by decide) ?_
                  rw [hQ]
                  exact W.iret (v := 1) hx hb hr (fun t ht hW => ⟨⟨1, E92_, rfl, ⟨hI, hKp, (iv_w ln_1 (by decide))⟩, by show va_P (dC, dI) vwCl (WL (LC cf) ad E92_) t.heap; rw [ht]; exact hP⟩, hS.F ht⟩) hS.2.2 dX2_find_180
              · --162 not
                have t40 : v92_4.toInt = 3 := ti_eq c34
                have i41 : 3 ≤ v92_4.toInt ∧ v92_4.toInt ≤ 3 := iv_eqi t40 (iv_all _) (il_ 3) (by decide)
                refine lv_iconst (v := 2) hx hb dX2_find_165 (by decide) ?_
                refine lv_goto (tgt := 180) hx hb dX2_find_166 (by decide) ?_
                rw [hQ]
                exact W.iret (v := 2) hx hb hr (fun t ht hW => ⟨⟨2, E92_, rfl, ⟨hI, hKp, (iv_w ln_2 (by decide))⟩, by show va_P (dC, dI) vwCl (WL (LC cf) ad E92_) t.heap; rw [ht]; exact hP⟩, hS.F ht⟩) hS.2.2 dX2_find_180
            refine lv_icmp_gt (tgt := 159) hx hb dX2_find_100 (by decide) (fun c42 => ?_) (fun c42 => ?_)
            · --100 taken
              have t43 : y32.toInt < v92_5.toInt := ti_lt c42
              have i44 : 1 ≤ v92_5.toInt ∧ v92_5.toInt ≤ 100 := iv_lt_r t43 iy32 hv92_5 (by decide)
              exact hJ159 _ _ _ hP hS (lv_sub hl [0, 1, 2, 3, 4, 5] rfl)
            · --100 not
              have t45 : v92_5.toInt ≤ y32.toInt := ti_nlt c42
              have i46 : 0 ≤ v92_5.toInt ∧ v92_5.toInt ≤ 99 := iv_le_l t45 hv92_5 iy32 (by decide)
              refine lv_iload hx hb dX2_find_103 (lv_at hl 1 rfl) ?_
              refine lv_iconst (v := 3) hx hb dX2_find_105 (by decide) ?_
              refine lv_icmp_eq (tgt := 159) hx hb dX2_find_106 (by decide) (fun c47 => ?_) (fun c47 => ?_)
              · --106 taken
                have t48 : v92_4.toInt = 3 := ti_eq c47
                have i49 : 3 ≤ v92_4.toInt ∧ v92_4.toInt ≤ 3 := iv_eqi t48 (iv_all _) (il_ 3) (by decide)
                exact hJ159 _ _ _ hP hS (lv_sub hl [0, 1, 2, 3, 4, 5] rfl)
              · --106 not
                have t50 : ¬ v92_4.toInt = 3 := ti_ne c47
                refine lv_aload_n hx hb dX2_find_109 rfl (lv_at hl 2 rfl) ?_
                refine th_getL (ci := 3) (C := RX2) (T := TX2) (N := 10) (v := .ref (ad 40)) hx hb hts hinX2 hown hK hP hI 5 (mF 5 rfl) rfl rfl 3 (Nat.le_of_ble_eq_true rfl) (hts _ (vA_in _ _ (in_15 _ (zs4 (zs0))))) (fun _ h9 => h9) (hI.fr 5 (mF 5 rfl) rfl (Nat.le_of_ble_eq_true rfl) 40 rfl) dX2_find_110 ?_
                refine lv_iconst (v := 0) hx hb dX2_find_113 (by decide) ?_
                have n52 : vp_in (0 : Int32) 2 := (iv_in (n := 2) ln_0 (by decide))
                refine th_ialdL hx hb hK hP hI 40 (mF 40 rfl) rfl rfl n52 dX2_find_114 (fun y51 ey51 => ?_)
                have iy51 : 0 ≤ y51.toInt ∧ y51.toInt ≤ 99 := hI.el 40 (mF 40 rfl) rfl n52 (fun _ => rfl) ey51
                refine lv_istore (lv' := [(6, .int y51), (5, .int v92_5), (4, .int v92_4), (0, .ref (ad 5)), (1, .ref (ad (64 * (i + 1) + 14))), (2, .int a0), (3, .int a1)]) hx hb dX2_find_115 hl (by decide) rfl (fun ls hl => ?_)
                have hL117 : ∀ d : Nat, ∀ (v117_6 : Int32) (v117_4 : Int32) (E117_ : Nat → va_E) (H : Heap) (locs : List Loc) (ls : Array Slot), 0 ≤ v117_6.toInt ∧ v117_6.toInt ≤ 100 → 100 - v117_6.toInt < (d : Int) → IXL cT (shC cf) (spC cf) (LC cf) ad E117_ → Kp w_find E E117_ → xv (E117_ 5) 6 = .ref (ad (64 * ((xi (E (64 * (i + 1) + 14)) 0).toNatClampNeg + 1) + 6)) → xv (E117_ 5) 7 = .int r20 → xv (E117_ 5) 8 = .int s74_0 → va_P (dC, dI) vwCl (WL (LC cf) ad E117_) H → va_S A s.heap H locs → lv_has ls 7 [(6, .int v117_6), (5, .int v92_5), (4, .int v117_4), (0, .ref (ad 5)), (1, .ref (ad (64 * (i + 1) + 14))), (2, .int a0), (3, .int a1)] → W p l e (headSpec v_find rm_find).room s m args below meth c H locs 0 0 Q (F0 m 117 ls []) := by
                  intro d
                  induction d with
                  | zero =>
                    intro v117_6 v117_4 E117_ H locs ls hv117_6 hx117_0 hI hKp hs117_5_6 hs117_5_7 hs117_5_8 hP hS hl
                    exact absurd hx117_0 (by first | exact ms_zu hv117_6.2 | omega)
                  | succ d ih117 =>
                    intro v117_6 v117_4 E117_ H locs ls hv117_6 hx117_0 hI hKp hs117_5_6 hs117_5_7 hs117_5_8 hP hS hl
                    refine lv_iload hx hb dX2_find_117 (lv_at hl 0 rfl) ?_
                    refine lv_aload_n hx hb dX2_find_119 rfl (lv_at hl 3 rfl) ?_
                    refine th_getL (ci := 3) (C := RX2) (T := TX2) (N := 10) (v := .ref (ad 41)) hx hb hts hinX2 hown hK hP hI 5 (mF 5 rfl) rfl rfl 4 (Nat.le_of_ble_eq_true rfl) (hts _ (vA_in _ _ (in_15 _ (zs4 (zs1 (zs0)))))) (fun _ h9 => h9) (hI.fr 5 (mF 5 rfl) rfl (Nat.le_of_ble_eq_true rfl) 41 rfl) dX2_find_120 ?_
                    refine lv_iconst (v := 0) hx hb dX2_find_123 (by decide) ?_
                    have n54 : vp_in (0 : Int32) 2 := (iv_in (n := 2) ln_0 (by decide))
                    refine th_ialdL hx hb hK hP hI 41 (mF 41 rfl) rfl rfl n54 dX2_find_124 (fun y53 ey53 => ?_)
                    have iy53 : 0 ≤ y53.toInt ∧ y53.toInt ≤ 99 := hI.el 41 (mF 41 rfl) rfl n54 (fun _ => rfl) ey53
                    refine lv_icmp_gt (tgt := 153) hx hb dX2_find_125 (by decide) (fun c55 => ?_) (fun c55 => ?_)
                    · --125 taken
                      have t56 : y53.toInt < v117_6.toInt := ti_lt c55
                      have i57 : 1 ≤ v117_6.toInt ∧ v117_6.toInt ≤ 100 := iv_lt_r t56 iy53 hv117_6 (by decide)
                      obtain ⟨y58, ey58⟩ : ∃ y : Int32, y = v92_5 + (1 : Int32) := ⟨_, rfl⟩
                      obtain ⟨ty58, iy58⟩ := ti_add (e := 1) (f := 100) i46 ln_1 ey58 (by decide)
                      have ty58 : y58.toInt = v92_5.toInt + 1 := ty58
                      have iy58 : 1 ≤ y58.toInt ∧ y58.toInt ≤ 100 := iy58
                      refine lv_iinc (v := y58) (lv' := [(5, .int y58), (6, .int v117_6), (4, .int v117_4), (0, .ref (ad 5)), (1, .ref (ad (64 * (i + 1) + 14))), (2, .int a0), (3, .int a1)]) hx hb dX2_find_153 hl (k := 1) rfl (by rw [ey58]; rfl) (by decide) rfl (fun ls hl => ?_)
                      refine lv_goto (tgt := 92) hx hb dX2_find_156 (by decide) ?_
                      exact ih92 y58 v117_4 E117_ _ _ _ (iv_w iy58 (by decide)) (by first | exact ms_su hx92_0 ty58 (by decide) | omega) hI hKp hs117_5_6 hs117_5_7 hs117_5_8 hP hS (lv_sub hl [0, 2, 3, 4, 5, 6] rfl)
                    · --125 not
                      have t59 : v117_6.toInt ≤ y53.toInt := ti_nlt c55
                      have i60 : 0 ≤ v117_6.toInt ∧ v117_6.toInt ≤ 99 := iv_le_l t59 hv117_6 iy53 (by decide)
                      refine lv_iload hx hb dX2_find_128 (lv_at hl 2 rfl) ?_
                      refine lv_iconst (v := 3) hx hb dX2_find_130 (by decide) ?_
                      refine lv_icmp_eq (tgt := 153) hx hb dX2_find_131 (by decide) (fun c61 => ?_) (fun c61 => ?_)
                      · --131 taken
                        have t62 : v117_4.toInt = 3 := ti_eq c61
                        have i63 : 3 ≤ v117_4.toInt ∧ v117_4.toInt ≤ 3 := iv_eqi t62 (iv_all _) (il_ 3) (by decide)
                        obtain ⟨y64, ey64⟩ : ∃ y : Int32, y = v92_5 + (1 : Int32) := ⟨_, rfl⟩
                        obtain ⟨ty64, iy64⟩ := ti_add (e := 1) (f := 100) i46 ln_1 ey64 (by decide)
                        have ty64 : y64.toInt = v92_5.toInt + 1 := ty64
                        have iy64 : 1 ≤ y64.toInt ∧ y64.toInt ≤ 100 := iy64
                        refine lv_iinc (v := y64) (lv' := [(5, .int y64), (6, .int v117_6), (4, .int v117_4), (0, .ref (ad 5)), (1, .ref (ad (64 * (i + 1) + 14))), (2, .int a0), (3, .int a1)]) hx hb dX2_find_153 hl (k := 1) rfl (by rw [ey64]; rfl) (by decide) rfl (fun ls hl => ?_)
                        refine lv_goto (tgt := 92) hx hb dX2_find_156 (by decide) ?_
                        exact ih92 y64 v117_4 E117_ _ _ _ (iv_w iy64 (by decide)) (by first | exact ms_su hx92_0 ty64 (by decide) | omega) hI hKp hs117_5_6 hs117_5_7 hs117_5_8 hP hS (lv_sub hl [0, 2, 3, 4, 5, 6] rfl)
                      · --131 not
                        have t65 : ¬ v117_4.toInt = 3 := ti_ne c61
                        refine lv_iload hx hb dX2_find_134 (lv_at hl 2 rfl) ?_
                        refine lv_aload_n hx hb dX2_find_136 rfl (lv_at hl 3 rfl) ?_
                        refine lv_iload hx hb dX2_find_137 (lv_at hl 1 rfl) ?_
                        refine lv_iload hx hb dX2_find_139 (lv_at hl 0 rfl) ?_
                        refine th_iL (va_runV (As := [.int v92_5, .int v117_6]) (rest := [.int v117_4]) ⟨hx, hb, hml, hown, hts⟩ (q_faultsFrom l dC dI cT cf hC ad E117_ H.size v92_5 v117_6 ((xi (E (64 * (i + 1) + 14)) 0).toNatClampNeg) hI (by omega) (by exact hs117_5_6) (by (try rw [(show xi (E117_ 5) 7 = r20 from vi_e hs117_5_7)]); omega) i46 i60) (cwV 2 hts (gi_V (in_16 _ (zs4 (zs4 (zs1 (zs1 (zs0)))))) (in_16 _ (zs4 (zs4 (zs1 (zs1 (zs1 (zs0))))))) (in_16 _ (zs4 (zs4 (zs4 (zs0))))) (in_14 _ (zs16 (zs16 (zs0)))) (in_16 _ (zs4 (zs4 (zs4 (zs1 (zs0))))))) rfl rfl rfl ⟨rfl, hz_yX2_faultsFrom_2⟩ ⟨Nat.le_of_ble_eq_true rfl, Nat.le_of_ble_eq_true rfl⟩) ⟨HWL_bl, va_recv hK hP (ci := 3) (q0 := posL 5 (LC cf)) rfl (hI.ob 5 (mF 5 rfl) rfl), (HWL_wi hP hK (WL_D hD) hS hA hEV)⟩ rfl rfl hl.1 rfl (lv_room (Nat.le_of_ble_eq_true rfl)) dX2_find_141 ⟨Nat.le_of_ble_eq_true rfl, Nat.le_of_ble_eq_true rfl⟩) (WL_D hD) hS hA (fun r66 E67 H locs hw hP hS => ?_)
                        obtain ⟨hI, kq68, hw⟩ := hw
                        have hKb := hKp
                        have hKp := hKp.tr kq68 (wl_sub rfl rfl)
                        refine lv_ior hx hb dX2_find_144 ?_
                        refine lv_topi (fun y69 ey69 => ?_)
                        refine lv_istore (lv' := [(4, .int y69), (6, .int v117_6), (5, .int v92_5), (0, .ref (ad 5)), (1, .ref (ad (64 * (i + 1) + 14))), (2, .int a0), (3, .int a1)]) hx hb dX2_find_145 hl (by decide) rfl (fun ls hl => ?_)
                        obtain ⟨y70, ey70⟩ : ∃ y : Int32, y = v117_6 + (1 : Int32) := ⟨_, rfl⟩
                        obtain ⟨ty70, iy70⟩ := ti_add (e := 1) (f := 100) i60 ln_1 ey70 (by decide)
                        have ty70 : y70.toInt = v117_6.toInt + 1 := ty70
                        have iy70 : 1 ≤ y70.toInt ∧ y70.toInt ≤ 100 := iy70
                        refine lv_iinc (v := y70) (lv' := [(6, .int y70), (4, .int y69), (5, .int v92_5), (0, .ref (ad 5)), (1, .ref (ad (64 * (i + 1) + 14))), (2, .int a0), (3, .int a1)]) hx hb dX2_find_147 hl (k := 1) rfl (by rw [ey70]; rfl) (by decide) rfl (fun ls hl => ?_)
                        refine lv_goto (tgt := 117) hx hb dX2_find_150 (by decide) ?_
                        exact ih117 y70 y69 E67 _ _ _ (iv_w iy70 (by decide)) (by first | exact ms_su hx117_0 ty70 (by decide) | omega) hI hKp ((kq68 5 6 rfl).trans hs117_5_6) ((kq68 5 7 rfl).trans hs117_5_7) ((kq68 5 8 rfl).trans hs117_5_8) hP hS (lv_sub hl [0, 2, 1, 3, 4, 5, 6] rfl)
                exact hL117 (101) y51 v92_4 E92_ _ _ _ (iv_w iy51 (by decide)) (by have h9 := iy51; first | exact ms_bu h9.1 (by decide) | omega) hI hKp hs92_5_6 hs92_5_7 hs92_5_8 hP hS (lv_sub hl [0, 1, 2, 3, 4, 5, 6] rfl)
        exact hL92 (101) y30 (0 : Int32) E28 _ _ _ (iv_w iy30 (by decide)) (by have h9 := iy30; first | exact ms_bu h9.1 (by decide) | omega) hI hKp ((kq29 5 6 rfl).trans ((pw26.2 5 6 (fun q9 => absurd q9.2 (Nat.ne_of_beq_eq_false rfl))).trans ((pw24.2 5 6 (fun q9 => absurd q9.2 (Nat.ne_of_beq_eq_false rfl))).trans pw18.1))) ((kq29 5 7 rfl).trans ((pw26.2 5 7 (fun q9 => absurd q9.2 (Nat.ne_of_beq_eq_false rfl))).trans pw24.1)) ((kq29 5 8 rfl).trans pw26.1) hP hS (lv_sub hl [0, 1, 2, 3, 4, 5] rfl)
      refine lv_if_ne (tgt := 72) hx hb dX2_find_64 (by decide) (fun c71 => ?_) (fun c71 => ?_)
      · --64 taken
        have t72 : ¬ a0.toInt = 0 := ti_ne c71
        refine lv_bipush (v := 98) hx hb dX2_find_72 (by decide) ?_
        exact hJ74 (98 : Int32) _ _ _ (iv_w ln_98 (by decide)) hP hS (lv_sub hl [0, 1, 2, 3] rfl)
      · --64 not
        have t73 : a0.toInt = 0 := ti_eq c71
        have i74 : 0 ≤ a0.toInt ∧ a0.toInt ≤ 0 := iv_eqi t73 (iv_all _) (il_ 0) (by decide)
        refine lv_bipush (v := 97) hx hb dX2_find_67 (by decide) ?_
        refine lv_goto (tgt := 74) hx hb dX2_find_69 (by decide) ?_
        exact hJ74 (97 : Int32) _ _ _ (iv_w ln_97 (by decide)) hP hS (lv_sub hl [0, 1, 2, 3] rfl)
    · --17 not
      have t75 : r8.toInt = 0 := ti_eq c11
      have i76 : 0 ≤ r8.toInt ∧ r8.toInt ≤ 0 := iv_eqi t75 (iv_all _) (il_ 0) (by decide)
      refine lv_iconst (v := -1) hx hb dX2_find_20 (by decide) ?_
      rw [hQ]
      exact W.iret (v := (-1)) hx hb hr (fun t ht hW => ⟨⟨(-1), E9, rfl, ⟨hI, hKp, (iv_w ln_m1 (by decide))⟩, by show va_P (dC, dI) vwCl (WL (LC cf) ad E9) t.heap; rw [ht]; exact hP⟩, hS.F ht⟩) hS.2.2 dX2_find_21
